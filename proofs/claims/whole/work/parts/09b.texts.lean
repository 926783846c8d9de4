def ff_X7_readPanel_b14 (N : Nat) (o_this : os_T) (o_this_tokens : os_T) (o_this_draft : os_T) : Option (Int32 × os_T × os_T × os_T) :=
  ((ff_X10_fail N o_this_tokens (3 : Int32)).bind fun u_11 => (if os_z u_11.1 then some (u_11.1, o_this, u_11.2, o_this_draft) else none))
def ff_X7_readPanel (N : Nat) (o_this : os_T) (o_this_tokens : os_T) (o_this_draft : os_T) : Option (Int32 × os_T × os_T × os_T) :=
  (if (os_I o_this 2) = 0 then (if (os_I o_this 6) ≤ 0 then ((ff_X10_advance N o_this_tokens).bind fun u_3 => ((ff_X10_takeNumber N u_3 (1 : Int32) (16 : Int32)).bind fun u_5 => (if u_5.1 = (-1 : Int32) then some ((0 : Int32), ss_I o_this 2 (1 : Int32), u_5.2, ss_I o_this_draft 0 u_5.1) else ((ff_X10_takeNumber N u_5.2 (1 : Int32) (12 : Int32)).bind fun u_8 => (if u_8.1 = (-1 : Int32) then some ((0 : Int32), ss_I o_this 2 (1 : Int32), u_8.2, ss_I (ss_I o_this_draft 0 u_5.1) 1 u_8.1) else some ((1 : Int32), ss_I o_this 2 (1 : Int32), u_8.2, ss_I (ss_I o_this_draft 0 u_5.1) 1 u_8.1)))))) else ff_X7_readPanel_b14 N o_this o_this_tokens o_this_draft) else ff_X7_readPanel_b14 N o_this o_this_tokens o_this_draft)
set_option maxHeartbeats 4000000 in
set_option maxRecDepth 100000 in
theorem mm_X7_readPanel (l : Launch) (D : va_G) (kA : Nat → ClassId) (N : Nat) (q_this : Nat → Nat) (q_this_tokens : Nat → Nat) (q_this_draft : Nat → Nat) (o_this : os_T) (o_this_tokens : os_T) (o_this_draft : os_T) (out : (Int32 × os_T × os_T × os_T)) (hf : ff_X7_readPanel N o_this o_this_tokens o_this_draft = some out) : mc_C l D kA yX7_readPanel wsX7_readPanel ({ frames := 2, cells := 0, slots := 0, locals := 45 } : Room) [.ref (q_this 0)] (ce_X7 kA q_this q_this_tokens q_this_draft o_this ++ (ce_X10 kA q_this_tokens o_this_tokens ++ (ce_X5 kA q_this_draft o_this_draft))) (some (.int out.1)) (ce_X7 kA q_this q_this_tokens q_this_draft out.2.1 ++ (ce_X10 kA q_this_tokens out.2.2.1 ++ (ce_X5 kA q_this_draft out.2.2.2))) := by
  refine mc_of (cc := cX7_readPanel) (maxL := 1) (ret := (some .boolean)) (by decide) rfl (Nat.le_of_ble_eq_true rfl) ?_
  intro p e s m below meth c A B hD hP hS ls hl
  obtain ⟨hx, hb, hr, hlk, hml, hown, hts, hK, hA, hnm⟩ := B
  have hown : s.vm.findClass RX7 = some m.cls := hown
  have hl : lv_has ls 1 [(0, .ref (q_this 0))] := hl
  have hUX5 : ∀ w ∈ u_ws RX5 TX5 10, w.before [.ref (q_this 0)].toArray s = true := fun w h => hts w (List.mem_cons_of_mem _ (List.mem_append_left _ (List.mem_append_right _ h)))
  have hUX7 : ∀ w ∈ u_ws RX7 TX7 8, w.before [.ref (q_this 0)].toArray s = true := fun w h => hts w (List.mem_cons_of_mem _ (List.mem_append_left _ (List.mem_append_left _ (List.mem_append_right _ h))))
  have hB14 : ∀ (o_this : os_T) (o_this_tokens : os_T) (o_this_draft : os_T) (H : Heap) (locs : List Loc) (ls : Array Slot), va_P D vwCl (ce_X7 kA q_this q_this_tokens q_this_draft o_this ++ (ce_X10 kA q_this_tokens o_this_tokens ++ (ce_X5 kA q_this_draft o_this_draft))) H → va_D A (ce_X7 kA q_this q_this_tokens q_this_draft o_this ++ (ce_X10 kA q_this_tokens o_this_tokens ++ (ce_X5 kA q_this_draft o_this_draft))) → va_S A s.heap H locs → lv_has ls 1 [(0, .ref (q_this 0))] → ff_X7_readPanel_b14 N o_this o_this_tokens o_this_draft = some out → W p l e ({ frames := 2, cells := 0, slots := 0, locals := 45 } : Room) s m [.ref (q_this 0)].toArray below meth c H locs 0 0 (MQ below (mc_Q D kA A (some (.int out.1)) (ce_X7 kA q_this q_this_tokens q_this_draft out.2.1 ++ (ce_X10 kA q_this_tokens out.2.2.1 ++ (ce_X5 kA q_this_draft out.2.2.2)))) [.ref (q_this 0)].toArray s 0 0 A) (F0 m 14 ls []) := by
    intro o_this o_this_tokens o_this_draft H locs ls hP hD hS hl hf
    unfold ff_X7_readPanel_b14 at hf
    refine lv_aload_n hx hb dX7_readPanel_14 rfl (lv_at hl 0 rfl) ?_
    refine va_get (D := D) (ci := 4) (v := .ref (q_this_tokens 0)) (C := RX7) (T := TX7) (N := 8) hx hb hUX7 (fun _ h9 => h9) hown hK hP 0 rfl rfl 0 (by decide) (hts (Cond.fieldLink RX7 9 "ReliefBuilder$ReliefText" "tokens" "LReliefBuilder$Tokens;") (List.mem_of_getElem? (i := 3) rfl)) (fun _ h9 => h9) rfl dX7_readPanel_15 ?_
    refine lv_iconst (v := 3) hx hb dX7_readPanel_18 (by decide) ?_
    obtain ⟨u_11, he_12, hf⟩ := os_bd hf
    refine mc_callV ⟨hx, hb, hml, hown, hts⟩ (mm_X10_fail l D kA N q_this_tokens o_this_tokens (3 : Int32) u_11 he_12) (cwV 1 hts gX7_readPanel_X10_fail rfl rfl rfl (by decide +kernel) ⟨Nat.le_of_ble_eq_true rfl, Nat.le_of_ble_eq_true rfl⟩) (wc := (ce_X10 kA q_this_tokens o_this_tokens)) (ci := 6) (q0 := 0) rfl rfl rfl hl.1 (As := [.int (3 : Int32)]) (rest := []) rfl (Nat.le_of_ble_eq_true rfl) dX7_readPanel_19 ⟨Nat.le_of_ble_eq_true rfl, Nat.le_of_ble_eq_true rfl⟩ hK hP hD hS hA [1, 2, 3, 4, 5] [0, 6, 7, 8, 9] [0, 5, 6, 7, 8, 9, 1, 2, 3, 4] rfl (by decide) rfl (by decide) (by decide) rfl (by decide) (wr := (ce_X7 kA q_this q_this_tokens q_this_draft o_this ++ (ce_X5 kA q_this_draft o_this_draft))) (w2 := (ce_X7 kA q_this q_this_tokens q_this_draft o_this ++ (ce_X10 kA q_this_tokens u_11.2 ++ (ce_X5 kA q_this_draft o_this_draft)))) (fun H locs hP hD hS => ?_)
    have hP : va_P D vwCl (ce_X7 kA q_this q_this_tokens q_this_draft o_this ++ (ce_X10 kA q_this_tokens u_11.2 ++ (ce_X5 kA q_this_draft o_this_draft))) H := hP
    obtain ⟨hz_13, hf⟩ := os_if hf
    rw [← Option.some.inj hf]
    exact mc_retz hx hb hr (os_z_n hz_13) hlk hP hK hD hS dX7_readPanel_22
  unfold ff_X7_readPanel at hf
  refine lv_aload_n hx hb dX7_readPanel_0 rfl (lv_at hl 0 rfl) ?_
  refine va_get (D := D) (ci := 4) (v := .int (os_I o_this 2)) (C := RX7) (T := TX7) (N := 8) hx hb hUX7 (fun _ h9 => h9) hown hK hP 0 rfl rfl 2 (by decide) (hts (Cond.fieldLink RX7 24 "ReliefBuilder$ReliefText" "hasPanel" "Z") (List.mem_of_getElem? (i := 1) rfl)) (fun _ h9 => h9) rfl dX7_readPanel_1 ?_
  refine lv_if_ne (tgt := 14) hx hb dX7_readPanel_4 (by decide) (fun hc_1 => ?_) (fun hc_1 => ?_)
  · rw [if_neg hc_1] at hf
    exact hB14 o_this o_this_tokens o_this_draft _ _ _ hP hD hS (lv_sub hl [0] rfl) hf
  · rw [if_pos hc_1] at hf
    refine lv_aload_n hx hb dX7_readPanel_7 rfl (lv_at hl 0 rfl) ?_
    refine va_get (D := D) (ci := 4) (v := .int (os_I o_this 6)) (C := RX7) (T := TX7) (N := 8) hx hb hUX7 (fun _ h9 => h9) hown hK hP 0 rfl rfl 6 (by decide) (hts (Cond.fieldLink RX7 37 "ReliefBuilder$ReliefText" "rowsTold" "I") (List.mem_of_getElem? (i := 2) rfl)) (fun _ h9 => h9) rfl dX7_readPanel_8 ?_
    refine lv_if_le (tgt := 23) hx hb dX7_readPanel_11 (by decide) (fun hc_2 => ?_) (fun hc_2 => ?_)
    · rw [if_pos hc_2] at hf
      refine lv_aload_n hx hb dX7_readPanel_23 rfl (lv_at hl 0 rfl) ?_
      refine lv_iconst (v := 1) hx hb dX7_readPanel_24 (by decide) ?_
      refine va_put (D := D) (ci := 4) (v := .int (1 : Int32)) (ty := .boolean) (C := RX7) (T := TX7) (N := 8) hx hb hUX7 (fun _ h9 => h9) tyX7 tyX7_ok nmX7 hown hK hP hD hS 0 rfl rfl 2 (by decide) (hts (Cond.fieldLink RX7 24 "ReliefBuilder$ReliefText" "hasPanel" "Z") (List.mem_of_getElem? (i := 1) rfl)) (fun _ h9 => h9) rfl (tyX7_ok 2 (by decide)) rfl rfl (Nat.le_of_ble_eq_true rfl) dX7_readPanel_25 (fun H locs hP hD hS => ?_)
      have hP : va_P D vwCl (ce_X7 kA q_this q_this_tokens q_this_draft (ss_I o_this 2 (1 : Int32)) ++ (ce_X10 kA q_this_tokens o_this_tokens ++ (ce_X5 kA q_this_draft o_this_draft))) H := hP
      have hD : va_D A (ce_X7 kA q_this q_this_tokens q_this_draft (ss_I o_this 2 (1 : Int32)) ++ (ce_X10 kA q_this_tokens o_this_tokens ++ (ce_X5 kA q_this_draft o_this_draft))) := hD
      refine lv_aload_n hx hb dX7_readPanel_28 rfl (lv_at hl 0 rfl) ?_
      refine va_get (D := D) (ci := 4) (v := .ref (q_this_tokens 0)) (C := RX7) (T := TX7) (N := 8) hx hb hUX7 (fun _ h9 => h9) hown hK hP 0 rfl rfl 0 (by decide) (hts (Cond.fieldLink RX7 9 "ReliefBuilder$ReliefText" "tokens" "LReliefBuilder$Tokens;") (List.mem_of_getElem? (i := 3) rfl)) (fun _ h9 => h9) rfl dX7_readPanel_29 ?_
      obtain ⟨u_3, he_4, hf⟩ := os_bd hf
      refine mc_callV ⟨hx, hb, hml, hown, hts⟩ (mm_X10_advance l D kA N q_this_tokens o_this_tokens u_3 he_4) (cwV 0 hts gX7_readPanel_X10_advance rfl rfl rfl (by decide +kernel) ⟨Nat.le_of_ble_eq_true rfl, Nat.le_of_ble_eq_true rfl⟩) (wc := (ce_X10 kA q_this_tokens o_this_tokens)) (ci := 6) (q0 := 0) rfl rfl rfl hl.1 (As := []) (rest := []) rfl (Nat.le_of_ble_eq_true rfl) dX7_readPanel_32 ⟨Nat.le_of_ble_eq_true rfl, Nat.le_of_ble_eq_true rfl⟩ hK hP hD hS hA [1, 2, 3, 4, 5] [0, 6, 7, 8, 9] [0, 5, 6, 7, 8, 9, 1, 2, 3, 4] rfl (by decide) rfl (by decide) (by decide) rfl (by decide) (wr := (ce_X7 kA q_this q_this_tokens q_this_draft (ss_I o_this 2 (1 : Int32)) ++ (ce_X5 kA q_this_draft o_this_draft))) (w2 := (ce_X7 kA q_this q_this_tokens q_this_draft (ss_I o_this 2 (1 : Int32)) ++ (ce_X10 kA q_this_tokens u_3 ++ (ce_X5 kA q_this_draft o_this_draft)))) (fun H locs hP hD hS => ?_)
      have hP : va_P D vwCl (ce_X7 kA q_this q_this_tokens q_this_draft (ss_I o_this 2 (1 : Int32)) ++ (ce_X10 kA q_this_tokens u_3 ++ (ce_X5 kA q_this_draft o_this_draft))) H := hP
      refine lv_aload_n hx hb dX7_readPanel_35 rfl (lv_at hl 0 rfl) ?_
      refine va_get (D := D) (ci := 4) (v := .ref (q_this_draft 0)) (C := RX7) (T := TX7) (N := 8) hx hb hUX7 (fun _ h9 => h9) hown hK hP 0 rfl rfl 1 (by decide) (hts (Cond.fieldLink RX7 15 "ReliefBuilder$ReliefText" "draft" "LReliefBuilder$Panel;") (List.mem_of_getElem? (i := 4) rfl)) (fun _ h9 => h9) rfl dX7_readPanel_36 ?_
      refine lv_aload_n hx hb dX7_readPanel_39 rfl (lv_at hl 0 rfl) ?_
      refine va_get (D := D) (ci := 4) (v := .ref (q_this_tokens 0)) (C := RX7) (T := TX7) (N := 8) hx hb hUX7 (fun _ h9 => h9) hown hK hP 0 rfl rfl 0 (by decide) (hts (Cond.fieldLink RX7 9 "ReliefBuilder$ReliefText" "tokens" "LReliefBuilder$Tokens;") (List.mem_of_getElem? (i := 3) rfl)) (fun _ h9 => h9) rfl dX7_readPanel_40 ?_
      refine lv_iconst (v := 1) hx hb dX7_readPanel_43 (by decide) ?_
      refine lv_bipush (v := 16) hx hb dX7_readPanel_44 (by decide) ?_
      obtain ⟨u_5, he_6, hf⟩ := os_bd hf
      refine mc_callV ⟨hx, hb, hml, hown, hts⟩ (mm_X10_takeNumber l D kA N q_this_tokens u_3 (1 : Int32) (16 : Int32) u_5 he_6) (cwV 2 hts gX7_readPanel_X10_takeNumber rfl rfl rfl (by decide +kernel) ⟨Nat.le_of_ble_eq_true rfl, Nat.le_of_ble_eq_true rfl⟩) (wc := (ce_X10 kA q_this_tokens u_3)) (ci := 6) (q0 := 0) rfl rfl rfl hl.1 (As := [.int (1 : Int32), .int (16 : Int32)]) (rest := [.ref (q_this_draft 0)]) rfl (Nat.le_of_ble_eq_true rfl) dX7_readPanel_46 ⟨Nat.le_of_ble_eq_true rfl, Nat.le_of_ble_eq_true rfl⟩ hK hP hD hS hA [1, 2, 3, 4, 5] [0, 6, 7, 8, 9] [0, 5, 6, 7, 8, 9, 1, 2, 3, 4] rfl (by decide) rfl (by decide) (by decide) rfl (by decide) (wr := (ce_X7 kA q_this q_this_tokens q_this_draft (ss_I o_this 2 (1 : Int32)) ++ (ce_X5 kA q_this_draft o_this_draft))) (w2 := (ce_X7 kA q_this q_this_tokens q_this_draft (ss_I o_this 2 (1 : Int32)) ++ (ce_X10 kA q_this_tokens u_5.2 ++ (ce_X5 kA q_this_draft o_this_draft)))) (fun H locs hP hD hS => ?_)
      have hP : va_P D vwCl (ce_X7 kA q_this q_this_tokens q_this_draft (ss_I o_this 2 (1 : Int32)) ++ (ce_X10 kA q_this_tokens u_5.2 ++ (ce_X5 kA q_this_draft o_this_draft))) H := hP
      refine va_put (D := D) (ci := 2) (v := .int u_5.1) (ty := .int) (C := RX5) (T := TX5) (N := 10) hx hb hUX5 (fun _ h9 => h9) tyX5 tyX5_ok nmX5 hown hK hP hD hS 6 rfl rfl 0 (by decide) (hts (Cond.fieldLink RX7 103 "ReliefBuilder$Panel" "width" "I") (List.mem_of_getElem? (i := 5) rfl)) (fun _ h9 => h9) rfl (tyX5_ok 0 (by decide)) rfl rfl (Nat.le_of_ble_eq_true rfl) dX7_readPanel_49 (fun H locs hP hD hS => ?_)
      have hP : va_P D vwCl (ce_X7 kA q_this q_this_tokens q_this_draft (ss_I o_this 2 (1 : Int32)) ++ (ce_X10 kA q_this_tokens u_5.2 ++ (ce_X5 kA q_this_draft (ss_I o_this_draft 0 u_5.1)))) H := hP
      have hD : va_D A (ce_X7 kA q_this q_this_tokens q_this_draft (ss_I o_this 2 (1 : Int32)) ++ (ce_X10 kA q_this_tokens u_5.2 ++ (ce_X5 kA q_this_draft (ss_I o_this_draft 0 u_5.1)))) := hD
      refine lv_aload_n hx hb dX7_readPanel_52 rfl (lv_at hl 0 rfl) ?_
      refine va_get (D := D) (ci := 4) (v := .ref (q_this_draft 0)) (C := RX7) (T := TX7) (N := 8) hx hb hUX7 (fun _ h9 => h9) hown hK hP 0 rfl rfl 1 (by decide) (hts (Cond.fieldLink RX7 15 "ReliefBuilder$ReliefText" "draft" "LReliefBuilder$Panel;") (List.mem_of_getElem? (i := 4) rfl)) (fun _ h9 => h9) rfl dX7_readPanel_53 ?_
      refine va_get (D := D) (ci := 2) (v := .int u_5.1) (C := RX5) (T := TX5) (N := 10) hx hb hUX5 (fun _ h9 => h9) hown hK hP 6 rfl rfl 0 (by decide) (hts (Cond.fieldLink RX7 103 "ReliefBuilder$Panel" "width" "I") (List.mem_of_getElem? (i := 5) rfl)) (fun _ h9 => h9) rfl dX7_readPanel_56 ?_
      refine lv_iconst (v := (-1)) hx hb dX7_readPanel_59 (by decide) ?_
      refine lv_icmp_ne (tgt := 65) hx hb dX7_readPanel_60 (by decide) (fun hc_7 => ?_) (fun hc_7 => ?_)
      · rw [if_neg hc_7] at hf
        refine lv_aload_n hx hb dX7_readPanel_65 rfl (lv_at hl 0 rfl) ?_
        refine va_get (D := D) (ci := 4) (v := .ref (q_this_draft 0)) (C := RX7) (T := TX7) (N := 8) hx hb hUX7 (fun _ h9 => h9) hown hK hP 0 rfl rfl 1 (by decide) (hts (Cond.fieldLink RX7 15 "ReliefBuilder$ReliefText" "draft" "LReliefBuilder$Panel;") (List.mem_of_getElem? (i := 4) rfl)) (fun _ h9 => h9) rfl dX7_readPanel_66 ?_
        refine lv_aload_n hx hb dX7_readPanel_69 rfl (lv_at hl 0 rfl) ?_
        refine va_get (D := D) (ci := 4) (v := .ref (q_this_tokens 0)) (C := RX7) (T := TX7) (N := 8) hx hb hUX7 (fun _ h9 => h9) hown hK hP 0 rfl rfl 0 (by decide) (hts (Cond.fieldLink RX7 9 "ReliefBuilder$ReliefText" "tokens" "LReliefBuilder$Tokens;") (List.mem_of_getElem? (i := 3) rfl)) (fun _ h9 => h9) rfl dX7_readPanel_70 ?_
        refine lv_iconst (v := 1) hx hb dX7_readPanel_73 (by decide) ?_
        refine lv_bipush (v := 12) hx hb dX7_readPanel_74 (by decide) ?_
        obtain ⟨u_8, he_9, hf⟩ := os_bd hf
        refine mc_callV ⟨hx, hb, hml, hown, hts⟩ (mm_X10_takeNumber l D kA N q_this_tokens u_5.2 (1 : Int32) (12 : Int32) u_8 he_9) (cwV 2 hts gX7_readPanel_X10_takeNumber rfl rfl rfl (by decide +kernel) ⟨Nat.le_of_ble_eq_true rfl, Nat.le_of_ble_eq_true rfl⟩) (wc := (ce_X10 kA q_this_tokens u_5.2)) (ci := 6) (q0 := 0) rfl rfl rfl hl.1 (As := [.int (1 : Int32), .int (12 : Int32)]) (rest := [.ref (q_this_draft 0)]) rfl (Nat.le_of_ble_eq_true rfl) dX7_readPanel_76 ⟨Nat.le_of_ble_eq_true rfl, Nat.le_of_ble_eq_true rfl⟩ hK hP hD hS hA [1, 2, 3, 4, 5] [0, 6, 7, 8, 9] [0, 5, 6, 7, 8, 9, 1, 2, 3, 4] rfl (by decide) rfl (by decide) (by decide) rfl (by decide) (wr := (ce_X7 kA q_this q_this_tokens q_this_draft (ss_I o_this 2 (1 : Int32)) ++ (ce_X5 kA q_this_draft (ss_I o_this_draft 0 u_5.1)))) (w2 := (ce_X7 kA q_this q_this_tokens q_this_draft (ss_I o_this 2 (1 : Int32)) ++ (ce_X10 kA q_this_tokens u_8.2 ++ (ce_X5 kA q_this_draft (ss_I o_this_draft 0 u_5.1))))) (fun H locs hP hD hS => ?_)
        have hP : va_P D vwCl (ce_X7 kA q_this q_this_tokens q_this_draft (ss_I o_this 2 (1 : Int32)) ++ (ce_X10 kA q_this_tokens u_8.2 ++ (ce_X5 kA q_this_draft (ss_I o_this_draft 0 u_5.1)))) H := hP
        refine va_put (D := D) (ci := 2) (v := .int u_8.1) (ty := .int) (C := RX5) (T := TX5) (N := 10) hx hb hUX5 (fun _ h9 => h9) tyX5 tyX5_ok nmX5 hown hK hP hD hS 6 rfl rfl 1 (by decide) (hts (Cond.fieldLink RX7 106 "ReliefBuilder$Panel" "rows" "I") (List.mem_of_getElem? (i := 6) rfl)) (fun _ h9 => h9) rfl (tyX5_ok 1 (by decide)) rfl rfl (Nat.le_of_ble_eq_true rfl) dX7_readPanel_79 (fun H locs hP hD hS => ?_)
        have hP : va_P D vwCl (ce_X7 kA q_this q_this_tokens q_this_draft (ss_I o_this 2 (1 : Int32)) ++ (ce_X10 kA q_this_tokens u_8.2 ++ (ce_X5 kA q_this_draft (ss_I (ss_I o_this_draft 0 u_5.1) 1 u_8.1)))) H := hP
        have hD : va_D A (ce_X7 kA q_this q_this_tokens q_this_draft (ss_I o_this 2 (1 : Int32)) ++ (ce_X10 kA q_this_tokens u_8.2 ++ (ce_X5 kA q_this_draft (ss_I (ss_I o_this_draft 0 u_5.1) 1 u_8.1)))) := hD
        refine lv_aload_n hx hb dX7_readPanel_82 rfl (lv_at hl 0 rfl) ?_
        refine va_get (D := D) (ci := 4) (v := .ref (q_this_draft 0)) (C := RX7) (T := TX7) (N := 8) hx hb hUX7 (fun _ h9 => h9) hown hK hP 0 rfl rfl 1 (by decide) (hts (Cond.fieldLink RX7 15 "ReliefBuilder$ReliefText" "draft" "LReliefBuilder$Panel;") (List.mem_of_getElem? (i := 4) rfl)) (fun _ h9 => h9) rfl dX7_readPanel_83 ?_
        refine va_get (D := D) (ci := 2) (v := .int u_8.1) (C := RX5) (T := TX5) (N := 10) hx hb hUX5 (fun _ h9 => h9) hown hK hP 6 rfl rfl 1 (by decide) (hts (Cond.fieldLink RX7 106 "ReliefBuilder$Panel" "rows" "I") (List.mem_of_getElem? (i := 6) rfl)) (fun _ h9 => h9) rfl dX7_readPanel_86 ?_
        refine lv_iconst (v := (-1)) hx hb dX7_readPanel_89 (by decide) ?_
        refine lv_icmp_eq (tgt := 97) hx hb dX7_readPanel_90 (by decide) (fun hc_10 => ?_) (fun hc_10 => ?_)
        · rw [if_pos hc_10] at hf
          refine lv_iconst (v := 0) hx hb dX7_readPanel_97 (by decide) ?_
          rw [← Option.some.inj hf]
          exact mc_retz (v := 0) hx hb hr rfl hlk hP hK hD hS dX7_readPanel_98
        · rw [if_neg hc_10] at hf
          refine lv_iconst (v := 1) hx hb dX7_readPanel_93 (by decide) ?_
          refine lv_goto (tgt := 98) hx hb dX7_readPanel_94 (by decide) ?_
          rw [← Option.some.inj hf]
          exact mc_retz (v := 1) hx hb hr rfl hlk hP hK hD hS dX7_readPanel_98
      · rw [if_pos hc_7] at hf
        refine lv_iconst (v := 0) hx hb dX7_readPanel_63 (by decide) ?_
        rw [← Option.some.inj hf]
        exact mc_retz (v := 0) hx hb hr rfl hlk hP hK hD hS dX7_readPanel_64
    · rw [if_neg hc_2] at hf
      exact hB14 o_this o_this_tokens o_this_draft _ _ _ hP hD hS (lv_sub hl [0] rfl) hf
def ff_X7_readRow_c32 (N : Nat) (k32 : (os_T × os_T × os_T × Int32) → Option (Int32 × os_T × os_T × os_T)) (o_this : os_T) (o_this_tokens : os_T) (o_this_draft : os_T) (x1 : Int32) : Option (Int32 × os_T × os_T × os_T) :=
  (if (os_I o_this_draft 0) ≤ x1 then some ((1 : Int32), ss_I o_this 6 ((os_I o_this 6) + (1 : Int32)), o_this_tokens, o_this_draft) else ((ff_X10_takeNumber N o_this_tokens (0 : Int32) (255 : Int32)).bind fun u_8 => (if u_8.1 = (-1 : Int32) then some ((0 : Int32), o_this, u_8.2, o_this_draft) else ((ff_X5_dye N o_this_draft x1 (os_I o_this 6) u_8.1).bind fun u_11 => k32 (o_this, u_8.2, u_11, x1 + 1)))))
def ff_X7_readRow_l32 (N : Nat) : Nat → (os_T × os_T × os_T × Int32) → Option (Int32 × os_T × os_T × os_T) := os_loop (fun k32 s1 => ff_X7_readRow_c32 N k32 s1.1 s1.2.1 s1.2.2.1 s1.2.2.2)
def ff_X7_readRow (N : Nat) (o_this : os_T) (o_this_tokens : os_T) (o_this_draft : os_T) : Option (Int32 × os_T × os_T × os_T) :=
  (if (os_I o_this 6) < (os_I o_this_draft 1) then ((ff_X10_advance N o_this_tokens).bind fun u_2 => ff_X7_readRow_l32 N N (o_this, u_2, o_this_draft, (0 : Int32))) else ((ff_X10_fail N o_this_tokens (5 : Int32)).bind fun u_4 => (if os_z u_4.1 then some (u_4.1, o_this, u_4.2, o_this_draft) else none)))
set_option maxHeartbeats 4000000 in
set_option maxRecDepth 100000 in
theorem mm_X7_readRow (l : Launch) (D : va_G) (kA : Nat → ClassId) (N : Nat) (q_this : Nat → Nat) (q_this_tokens : Nat → Nat) (q_this_draft : Nat → Nat) (o_this : os_T) (o_this_tokens : os_T) (o_this_draft : os_T) (out : (Int32 × os_T × os_T × os_T)) (hf : ff_X7_readRow N o_this o_this_tokens o_this_draft = some out) : mc_C l D kA yX7_readRow wsX7_readRow ({ frames := 2, cells := 0, slots := 0, locals := 45 } : Room) [.ref (q_this 0)] (ce_X7 kA q_this q_this_tokens q_this_draft o_this ++ (ce_X10 kA q_this_tokens o_this_tokens ++ (ce_X5 kA q_this_draft o_this_draft))) (some (.int out.1)) (ce_X7 kA q_this q_this_tokens q_this_draft out.2.1 ++ (ce_X10 kA q_this_tokens out.2.2.1 ++ (ce_X5 kA q_this_draft out.2.2.2))) := by
  refine mc_of (cc := cX7_readRow) (maxL := 3) (ret := (some .boolean)) (by decide) rfl (Nat.le_of_ble_eq_true rfl) ?_
  intro p e s m below meth c A B hD hP hS ls hl
  obtain ⟨hx, hb, hr, hlk, hml, hown, hts, hK, hA, hnm⟩ := B
  have hown : s.vm.findClass RX7 = some m.cls := hown
  have hl : lv_has ls 3 [(0, .ref (q_this 0))] := hl
  have hUX5 : ∀ w ∈ u_ws RX5 TX5 10, w.before [.ref (q_this 0)].toArray s = true := fun w h => hts w (List.mem_cons_of_mem _ (List.mem_append_left _ (List.mem_append_right _ h)))
  have hUX7 : ∀ w ∈ u_ws RX7 TX7 8, w.before [.ref (q_this 0)].toArray s = true := fun w h => hts w (List.mem_cons_of_mem _ (List.mem_append_left _ (List.mem_append_left _ (List.mem_append_right _ h))))
  have hL32 : ∀ (n : Nat) (o_this : os_T) (o_this_tokens : os_T) (o_this_draft : os_T) (x1 : Int32) (H : Heap) (locs : List Loc) (ls : Array Slot), va_P D vwCl (ce_X7 kA q_this q_this_tokens q_this_draft o_this ++ (ce_X10 kA q_this_tokens o_this_tokens ++ (ce_X5 kA q_this_draft o_this_draft))) H → va_D A (ce_X7 kA q_this q_this_tokens q_this_draft o_this ++ (ce_X10 kA q_this_tokens o_this_tokens ++ (ce_X5 kA q_this_draft o_this_draft))) → va_S A s.heap H locs → lv_has ls 3 [(0, .ref (q_this 0)), (1, .int x1)] → ff_X7_readRow_l32 N n (o_this, o_this_tokens, o_this_draft, x1) = some out → W p l e ({ frames := 2, cells := 0, slots := 0, locals := 45 } : Room) s m [.ref (q_this 0)].toArray below meth c H locs 0 0 (MQ below (mc_Q D kA A (some (.int out.1)) (ce_X7 kA q_this q_this_tokens q_this_draft out.2.1 ++ (ce_X10 kA q_this_tokens out.2.2.1 ++ (ce_X5 kA q_this_draft out.2.2.2)))) [.ref (q_this 0)].toArray s 0 0 A) (F0 m 32 ls []) := by
    intro n
    induction n with
    | zero => intro o_this o_this_tokens o_this_draft x1 H locs ls _ _ _ _ hf; cases hf
    | succ n hk32 =>
      intro o_this o_this_tokens o_this_draft x1 H locs ls hP hD hS hl hf
      have hf : ff_X7_readRow_c32 N (ff_X7_readRow_l32 N n) o_this o_this_tokens o_this_draft x1 = some out := hf
      generalize hke : ff_X7_readRow_l32 N n = k32 at hk32 hf
      unfold ff_X7_readRow_c32 at hf
      refine lv_iload_n hx hb dX7_readRow_32 rfl (lv_at hl 1 rfl) ?_
      refine lv_aload_n hx hb dX7_readRow_33 rfl (lv_at hl 0 rfl) ?_
      refine va_get (D := D) (ci := 4) (v := .ref (q_this_draft 0)) (C := RX7) (T := TX7) (N := 8) hx hb hUX7 (fun _ h9 => h9) hown hK hP 0 rfl rfl 1 (by decide) (hts (Cond.fieldLink RX7 15 "ReliefBuilder$ReliefText" "draft" "LReliefBuilder$Panel;") (List.mem_of_getElem? (i := 2) rfl)) (fun _ h9 => h9) rfl dX7_readRow_34 ?_
      refine va_get (D := D) (ci := 2) (v := .int (os_I o_this_draft 0)) (C := RX5) (T := TX5) (N := 10) hx hb hUX5 (fun _ h9 => h9) hown hK hP 6 rfl rfl 0 (by decide) (hts (Cond.fieldLink RX7 103 "ReliefBuilder$Panel" "width" "I") (List.mem_of_getElem? (i := 5) rfl)) (fun _ h9 => h9) rfl dX7_readRow_37 ?_
      refine lv_icmp_ge (tgt := 81) hx hb dX7_readRow_40 (by decide) (fun hc_7 => ?_) (fun hc_7 => ?_)
      · rw [if_pos hc_7] at hf
        refine lv_aload_n hx hb dX7_readRow_81 rfl (lv_at hl 0 rfl) ?_
        refine lv_dup hx hb dX7_readRow_82 rfl ?_
        refine va_get (D := D) (ci := 4) (v := .int (os_I o_this 6)) (C := RX7) (T := TX7) (N := 8) hx hb hUX7 (fun _ h9 => h9) hown hK hP 0 rfl rfl 6 (by decide) (hts (Cond.fieldLink RX7 37 "ReliefBuilder$ReliefText" "rowsTold" "I") (List.mem_of_getElem? (i := 1) rfl)) (fun _ h9 => h9) rfl dX7_readRow_83 ?_
        refine lv_iconst (v := 1) hx hb dX7_readRow_86 (by decide) ?_
        refine lv_iadd hx hb dX7_readRow_87 ?_
        refine va_put (D := D) (ci := 4) (v := .int ((os_I o_this 6) + (1 : Int32))) (ty := .int) (C := RX7) (T := TX7) (N := 8) hx hb hUX7 (fun _ h9 => h9) tyX7 tyX7_ok nmX7 hown hK hP hD hS 0 rfl rfl 6 (by decide) (hts (Cond.fieldLink RX7 37 "ReliefBuilder$ReliefText" "rowsTold" "I") (List.mem_of_getElem? (i := 1) rfl)) (fun _ h9 => h9) rfl (tyX7_ok 6 (by decide)) rfl rfl (Nat.le_of_ble_eq_true rfl) dX7_readRow_88 (fun H locs hP hD hS => ?_)
        have hP : va_P D vwCl (ce_X7 kA q_this q_this_tokens q_this_draft (ss_I o_this 6 ((os_I o_this 6) + (1 : Int32))) ++ (ce_X10 kA q_this_tokens o_this_tokens ++ (ce_X5 kA q_this_draft o_this_draft))) H := hP
        have hD : va_D A (ce_X7 kA q_this q_this_tokens q_this_draft (ss_I o_this 6 ((os_I o_this 6) + (1 : Int32))) ++ (ce_X10 kA q_this_tokens o_this_tokens ++ (ce_X5 kA q_this_draft o_this_draft))) := hD
        refine lv_iconst (v := 1) hx hb dX7_readRow_91 (by decide) ?_
        rw [← Option.some.inj hf]
        exact mc_retz (v := 1) hx hb hr rfl hlk hP hK hD hS dX7_readRow_92
      · rw [if_neg hc_7] at hf
        refine lv_aload_n hx hb dX7_readRow_43 rfl (lv_at hl 0 rfl) ?_
        refine va_get (D := D) (ci := 4) (v := .ref (q_this_tokens 0)) (C := RX7) (T := TX7) (N := 8) hx hb hUX7 (fun _ h9 => h9) hown hK hP 0 rfl rfl 0 (by decide) (hts (Cond.fieldLink RX7 9 "ReliefBuilder$ReliefText" "tokens" "LReliefBuilder$Tokens;") (List.mem_of_getElem? (i := 4) rfl)) (fun _ h9 => h9) rfl dX7_readRow_44 ?_
        refine lv_iconst (v := 0) hx hb dX7_readRow_47 (by decide) ?_
        refine lv_sipush (v := 255) hx hb dX7_readRow_48 (by decide) ?_
        obtain ⟨u_8, he_9, hf⟩ := os_bd hf
        refine mc_callV ⟨hx, hb, hml, hown, hts⟩ (mm_X10_takeNumber l D kA N q_this_tokens o_this_tokens (0 : Int32) (255 : Int32) u_8 he_9) (cwV 2 hts gX7_readRow_X10_takeNumber rfl rfl rfl (by decide +kernel) ⟨Nat.le_of_ble_eq_true rfl, Nat.le_of_ble_eq_true rfl⟩) (wc := (ce_X10 kA q_this_tokens o_this_tokens)) (ci := 6) (q0 := 0) rfl rfl rfl hl.1 (As := [.int (0 : Int32), .int (255 : Int32)]) (rest := []) rfl (Nat.le_of_ble_eq_true rfl) dX7_readRow_51 ⟨Nat.le_of_ble_eq_true rfl, Nat.le_of_ble_eq_true rfl⟩ hK hP hD hS hA [1, 2, 3, 4, 5] [0, 6, 7, 8, 9] [0, 5, 6, 7, 8, 9, 1, 2, 3, 4] rfl (by decide) rfl (by decide) (by decide) rfl (by decide) (wr := (ce_X7 kA q_this q_this_tokens q_this_draft o_this ++ (ce_X5 kA q_this_draft o_this_draft))) (w2 := (ce_X7 kA q_this q_this_tokens q_this_draft o_this ++ (ce_X10 kA q_this_tokens u_8.2 ++ (ce_X5 kA q_this_draft o_this_draft)))) (fun H locs hP hD hS => ?_)
        have hP : va_P D vwCl (ce_X7 kA q_this q_this_tokens q_this_draft o_this ++ (ce_X10 kA q_this_tokens u_8.2 ++ (ce_X5 kA q_this_draft o_this_draft))) H := hP
        refine lv_istore_n (lv' := [(2, .int u_8.1), (0, .ref (q_this 0)), (1, .int x1)]) hx hb dX7_readRow_54 rfl hl (by decide) rfl (fun ls hl => ?_)
        refine lv_iload_n hx hb dX7_readRow_55 rfl (lv_at hl 0 rfl) ?_
        refine lv_iconst (v := (-1)) hx hb dX7_readRow_56 (by decide) ?_
        refine lv_icmp_ne (tgt := 62) hx hb dX7_readRow_57 (by decide) (fun hc_10 => ?_) (fun hc_10 => ?_)
        · rw [if_neg hc_10] at hf
          refine lv_aload_n hx hb dX7_readRow_62 rfl (lv_at hl 1 rfl) ?_
          refine va_get (D := D) (ci := 4) (v := .ref (q_this_draft 0)) (C := RX7) (T := TX7) (N := 8) hx hb hUX7 (fun _ h9 => h9) hown hK hP 0 rfl rfl 1 (by decide) (hts (Cond.fieldLink RX7 15 "ReliefBuilder$ReliefText" "draft" "LReliefBuilder$Panel;") (List.mem_of_getElem? (i := 2) rfl)) (fun _ h9 => h9) rfl dX7_readRow_63 ?_
          refine lv_iload_n hx hb dX7_readRow_66 rfl (lv_at hl 2 rfl) ?_
          refine lv_aload_n hx hb dX7_readRow_67 rfl (lv_at hl 1 rfl) ?_
          refine va_get (D := D) (ci := 4) (v := .int (os_I o_this 6)) (C := RX7) (T := TX7) (N := 8) hx hb hUX7 (fun _ h9 => h9) hown hK hP 0 rfl rfl 6 (by decide) (hts (Cond.fieldLink RX7 37 "ReliefBuilder$ReliefText" "rowsTold" "I") (List.mem_of_getElem? (i := 1) rfl)) (fun _ h9 => h9) rfl dX7_readRow_68 ?_
          refine lv_iload_n hx hb dX7_readRow_71 rfl (lv_at hl 0 rfl) ?_
          obtain ⟨u_11, he_12, hf⟩ := os_bd hf
          refine mc_callV ⟨hx, hb, hml, hown, hts⟩ (mm_X5_dye l D kA N q_this_draft o_this_draft x1 (os_I o_this 6) u_8.1 u_11 he_12) (cwV 3 hts gX7_readRow_X5_dye rfl rfl rfl (by decide +kernel) ⟨Nat.le_of_ble_eq_true rfl, Nat.le_of_ble_eq_true rfl⟩) (wc := (ce_X5 kA q_this_draft o_this_draft)) (ci := 2) (q0 := 0) rfl rfl rfl hl.1 (As := [.int x1, .int (os_I o_this 6), .int u_8.1]) (rest := []) rfl (Nat.le_of_ble_eq_true rfl) dX7_readRow_72 ⟨Nat.le_of_ble_eq_true rfl, Nat.le_of_ble_eq_true rfl⟩ hK hP hD hS hA [6, 7, 8, 9] [0, 1, 2, 3, 4, 5] [0, 1, 2, 3, 4, 5, 6, 7, 8, 9] rfl (by decide) rfl (by decide) (by decide) rfl (by decide) (wr := (ce_X7 kA q_this q_this_tokens q_this_draft o_this ++ (ce_X10 kA q_this_tokens u_8.2))) (w2 := (ce_X7 kA q_this q_this_tokens q_this_draft o_this ++ (ce_X10 kA q_this_tokens u_8.2 ++ (ce_X5 kA q_this_draft u_11)))) (fun H locs hP hD hS => ?_)
          have hP : va_P D vwCl (ce_X7 kA q_this q_this_tokens q_this_draft o_this ++ (ce_X10 kA q_this_tokens u_8.2 ++ (ce_X5 kA q_this_draft u_11))) H := hP
          refine lv_iinc (v := x1 + 1) (lv' := [(1, .int (x1 + 1)), (2, .int u_8.1), (0, .ref (q_this 0))]) hx hb dX7_readRow_75 hl (k := 2) rfl rfl (by decide) rfl (fun ls hl => ?_)
          refine lv_goto (tgt := 32) hx hb dX7_readRow_78 (by decide) ?_
          exact hk32 o_this u_8.2 u_11 (x1 + 1) _ _ _ hP hD hS (lv_sub hl [2, 0] rfl) hf
        · rw [if_pos hc_10] at hf
          refine lv_iconst (v := 0) hx hb dX7_readRow_60 (by decide) ?_
          rw [← Option.some.inj hf]
          exact mc_retz (v := 0) hx hb hr rfl hlk hP hK hD hS dX7_readRow_61
  unfold ff_X7_readRow at hf
  refine lv_aload_n hx hb dX7_readRow_0 rfl (lv_at hl 0 rfl) ?_
  refine va_get (D := D) (ci := 4) (v := .int (os_I o_this 6)) (C := RX7) (T := TX7) (N := 8) hx hb hUX7 (fun _ h9 => h9) hown hK hP 0 rfl rfl 6 (by decide) (hts (Cond.fieldLink RX7 37 "ReliefBuilder$ReliefText" "rowsTold" "I") (List.mem_of_getElem? (i := 1) rfl)) (fun _ h9 => h9) rfl dX7_readRow_1 ?_
  refine lv_aload_n hx hb dX7_readRow_4 rfl (lv_at hl 0 rfl) ?_
  refine va_get (D := D) (ci := 4) (v := .ref (q_this_draft 0)) (C := RX7) (T := TX7) (N := 8) hx hb hUX7 (fun _ h9 => h9) hown hK hP 0 rfl rfl 1 (by decide) (hts (Cond.fieldLink RX7 15 "ReliefBuilder$ReliefText" "draft" "LReliefBuilder$Panel;") (List.mem_of_getElem? (i := 2) rfl)) (fun _ h9 => h9) rfl dX7_readRow_5 ?_
  refine va_get (D := D) (ci := 2) (v := .int (os_I o_this_draft 1)) (C := RX5) (T := TX5) (N := 10) hx hb hUX5 (fun _ h9 => h9) hown hK hP 6 rfl rfl 1 (by decide) (hts (Cond.fieldLink RX7 106 "ReliefBuilder$Panel" "rows" "I") (List.mem_of_getElem? (i := 3) rfl)) (fun _ h9 => h9) rfl dX7_readRow_8 ?_
  refine lv_icmp_lt (tgt := 23) hx hb dX7_readRow_11 (by decide) (fun hc_1 => ?_) (fun hc_1 => ?_)
  · rw [if_pos hc_1] at hf
    refine lv_aload_n hx hb dX7_readRow_23 rfl (lv_at hl 0 rfl) ?_
    refine va_get (D := D) (ci := 4) (v := .ref (q_this_tokens 0)) (C := RX7) (T := TX7) (N := 8) hx hb hUX7 (fun _ h9 => h9) hown hK hP 0 rfl rfl 0 (by decide) (hts (Cond.fieldLink RX7 9 "ReliefBuilder$ReliefText" "tokens" "LReliefBuilder$Tokens;") (List.mem_of_getElem? (i := 4) rfl)) (fun _ h9 => h9) rfl dX7_readRow_24 ?_
    obtain ⟨u_2, he_3, hf⟩ := os_bd hf
    refine mc_callV ⟨hx, hb, hml, hown, hts⟩ (mm_X10_advance l D kA N q_this_tokens o_this_tokens u_2 he_3) (cwV 0 hts gX7_readRow_X10_advance rfl rfl rfl (by decide +kernel) ⟨Nat.le_of_ble_eq_true rfl, Nat.le_of_ble_eq_true rfl⟩) (wc := (ce_X10 kA q_this_tokens o_this_tokens)) (ci := 6) (q0 := 0) rfl rfl rfl hl.1 (As := []) (rest := []) rfl (Nat.le_of_ble_eq_true rfl) dX7_readRow_27 ⟨Nat.le_of_ble_eq_true rfl, Nat.le_of_ble_eq_true rfl⟩ hK hP hD hS hA [1, 2, 3, 4, 5] [0, 6, 7, 8, 9] [0, 5, 6, 7, 8, 9, 1, 2, 3, 4] rfl (by decide) rfl (by decide) (by decide) rfl (by decide) (wr := (ce_X7 kA q_this q_this_tokens q_this_draft o_this ++ (ce_X5 kA q_this_draft o_this_draft))) (w2 := (ce_X7 kA q_this q_this_tokens q_this_draft o_this ++ (ce_X10 kA q_this_tokens u_2 ++ (ce_X5 kA q_this_draft o_this_draft)))) (fun H locs hP hD hS => ?_)
    have hP : va_P D vwCl (ce_X7 kA q_this q_this_tokens q_this_draft o_this ++ (ce_X10 kA q_this_tokens u_2 ++ (ce_X5 kA q_this_draft o_this_draft))) H := hP
    refine lv_iconst (v := 0) hx hb dX7_readRow_30 (by decide) ?_
    refine lv_istore_n (lv' := [(1, .int (0 : Int32)), (0, .ref (q_this 0))]) hx hb dX7_readRow_31 rfl hl (by decide) rfl (fun ls hl => ?_)
    exact hL32 N o_this u_2 o_this_draft (0 : Int32) _ _ _ hP hD hS (lv_sub hl [1, 0] rfl) hf
  · rw [if_neg hc_1] at hf
    refine lv_aload_n hx hb dX7_readRow_14 rfl (lv_at hl 0 rfl) ?_
    refine va_get (D := D) (ci := 4) (v := .ref (q_this_tokens 0)) (C := RX7) (T := TX7) (N := 8) hx hb hUX7 (fun _ h9 => h9) hown hK hP 0 rfl rfl 0 (by decide) (hts (Cond.fieldLink RX7 9 "ReliefBuilder$ReliefText" "tokens" "LReliefBuilder$Tokens;") (List.mem_of_getElem? (i := 4) rfl)) (fun _ h9 => h9) rfl dX7_readRow_15 ?_
    refine lv_iconst (v := 5) hx hb dX7_readRow_18 (by decide) ?_
    obtain ⟨u_4, he_5, hf⟩ := os_bd hf
    refine mc_callV ⟨hx, hb, hml, hown, hts⟩ (mm_X10_fail l D kA N q_this_tokens o_this_tokens (5 : Int32) u_4 he_5) (cwV 1 hts gX7_readRow_X10_fail rfl rfl rfl (by decide +kernel) ⟨Nat.le_of_ble_eq_true rfl, Nat.le_of_ble_eq_true rfl⟩) (wc := (ce_X10 kA q_this_tokens o_this_tokens)) (ci := 6) (q0 := 0) rfl rfl rfl hl.1 (As := [.int (5 : Int32)]) (rest := []) rfl (Nat.le_of_ble_eq_true rfl) dX7_readRow_19 ⟨Nat.le_of_ble_eq_true rfl, Nat.le_of_ble_eq_true rfl⟩ hK hP hD hS hA [1, 2, 3, 4, 5] [0, 6, 7, 8, 9] [0, 5, 6, 7, 8, 9, 1, 2, 3, 4] rfl (by decide) rfl (by decide) (by decide) rfl (by decide) (wr := (ce_X7 kA q_this q_this_tokens q_this_draft o_this ++ (ce_X5 kA q_this_draft o_this_draft))) (w2 := (ce_X7 kA q_this q_this_tokens q_this_draft o_this ++ (ce_X10 kA q_this_tokens u_4.2 ++ (ce_X5 kA q_this_draft o_this_draft)))) (fun H locs hP hD hS => ?_)
    have hP : va_P D vwCl (ce_X7 kA q_this q_this_tokens q_this_draft o_this ++ (ce_X10 kA q_this_tokens u_4.2 ++ (ce_X5 kA q_this_draft o_this_draft))) H := hP
    obtain ⟨hz_6, hf⟩ := os_if hf
    rw [← Option.some.inj hf]
    exact mc_retz hx hb hr (os_z_n hz_6) hlk hP hK hD hS dX7_readRow_22
def ff_X7_readSlope (N : Nat) (o_this : os_T) (o_this_tokens : os_T) (o_this_draft : os_T) : Option (Int32 × os_T × os_T × os_T) :=
  (if (os_I o_this 5) = 0 then ((ff_X10_advance N o_this_tokens).bind fun u_2 => ((ff_X10_takeNumber N u_2 (0 : Int32) (9 : Int32)).bind fun u_4 => (if u_4.1 = (-1 : Int32) then some ((0 : Int32), ss_I o_this 5 (1 : Int32), u_4.2, ss_I o_this_draft 6 u_4.1) else some ((1 : Int32), ss_I o_this 5 (1 : Int32), u_4.2, ss_I o_this_draft 6 u_4.1)))) else ((ff_X10_fail N o_this_tokens (3 : Int32)).bind fun u_7 => (if os_z u_7.1 then some (u_7.1, o_this, u_7.2, o_this_draft) else none)))
set_option maxHeartbeats 4000000 in
set_option maxRecDepth 100000 in
theorem mm_X7_readSlope (l : Launch) (D : va_G) (kA : Nat → ClassId) (N : Nat) (q_this : Nat → Nat) (q_this_tokens : Nat → Nat) (q_this_draft : Nat → Nat) (o_this : os_T) (o_this_tokens : os_T) (o_this_draft : os_T) (out : (Int32 × os_T × os_T × os_T)) (hf : ff_X7_readSlope N o_this o_this_tokens o_this_draft = some out) : mc_C l D kA yX7_readSlope wsX7_readSlope ({ frames := 2, cells := 0, slots := 0, locals := 45 } : Room) [.ref (q_this 0)] (ce_X7 kA q_this q_this_tokens q_this_draft o_this ++ (ce_X10 kA q_this_tokens o_this_tokens ++ (ce_X5 kA q_this_draft o_this_draft))) (some (.int out.1)) (ce_X7 kA q_this q_this_tokens q_this_draft out.2.1 ++ (ce_X10 kA q_this_tokens out.2.2.1 ++ (ce_X5 kA q_this_draft out.2.2.2))) := by
  refine mc_of (cc := cX7_readSlope) (maxL := 1) (ret := (some .boolean)) (by decide) rfl (Nat.le_of_ble_eq_true rfl) ?_
  intro p e s m below meth c A B hD hP hS ls hl
  obtain ⟨hx, hb, hr, hlk, hml, hown, hts, hK, hA, hnm⟩ := B
  have hown : s.vm.findClass RX7 = some m.cls := hown
  have hl : lv_has ls 1 [(0, .ref (q_this 0))] := hl
  have hUX5 : ∀ w ∈ u_ws RX5 TX5 10, w.before [.ref (q_this 0)].toArray s = true := fun w h => hts w (List.mem_cons_of_mem _ (List.mem_append_left _ (List.mem_append_right _ h)))
  have hUX7 : ∀ w ∈ u_ws RX7 TX7 8, w.before [.ref (q_this 0)].toArray s = true := fun w h => hts w (List.mem_cons_of_mem _ (List.mem_append_left _ (List.mem_append_left _ (List.mem_append_right _ h))))
  unfold ff_X7_readSlope at hf
  refine lv_aload_n hx hb dX7_readSlope_0 rfl (lv_at hl 0 rfl) ?_
  refine va_get (D := D) (ci := 4) (v := .int (os_I o_this 5)) (C := RX7) (T := TX7) (N := 8) hx hb hUX7 (fun _ h9 => h9) hown hK hP 0 rfl rfl 5 (by decide) (hts (Cond.fieldLink RX7 34 "ReliefBuilder$ReliefText" "hasSlope" "Z") (List.mem_of_getElem? (i := 1) rfl)) (fun _ h9 => h9) rfl dX7_readSlope_1 ?_
  refine lv_if_eq (tgt := 16) hx hb dX7_readSlope_4 (by decide) (fun hc_1 => ?_) (fun hc_1 => ?_)
  · rw [if_pos hc_1] at hf
    refine lv_aload_n hx hb dX7_readSlope_16 rfl (lv_at hl 0 rfl) ?_
    refine lv_iconst (v := 1) hx hb dX7_readSlope_17 (by decide) ?_
    refine va_put (D := D) (ci := 4) (v := .int (1 : Int32)) (ty := .boolean) (C := RX7) (T := TX7) (N := 8) hx hb hUX7 (fun _ h9 => h9) tyX7 tyX7_ok nmX7 hown hK hP hD hS 0 rfl rfl 5 (by decide) (hts (Cond.fieldLink RX7 34 "ReliefBuilder$ReliefText" "hasSlope" "Z") (List.mem_of_getElem? (i := 1) rfl)) (fun _ h9 => h9) rfl (tyX7_ok 5 (by decide)) rfl rfl (Nat.le_of_ble_eq_true rfl) dX7_readSlope_18 (fun H locs hP hD hS => ?_)
    have hP : va_P D vwCl (ce_X7 kA q_this q_this_tokens q_this_draft (ss_I o_this 5 (1 : Int32)) ++ (ce_X10 kA q_this_tokens o_this_tokens ++ (ce_X5 kA q_this_draft o_this_draft))) H := hP
    have hD : va_D A (ce_X7 kA q_this q_this_tokens q_this_draft (ss_I o_this 5 (1 : Int32)) ++ (ce_X10 kA q_this_tokens o_this_tokens ++ (ce_X5 kA q_this_draft o_this_draft))) := hD
    refine lv_aload_n hx hb dX7_readSlope_21 rfl (lv_at hl 0 rfl) ?_
    refine va_get (D := D) (ci := 4) (v := .ref (q_this_tokens 0)) (C := RX7) (T := TX7) (N := 8) hx hb hUX7 (fun _ h9 => h9) hown hK hP 0 rfl rfl 0 (by decide) (hts (Cond.fieldLink RX7 9 "ReliefBuilder$ReliefText" "tokens" "LReliefBuilder$Tokens;") (List.mem_of_getElem? (i := 2) rfl)) (fun _ h9 => h9) rfl dX7_readSlope_22 ?_
    obtain ⟨u_2, he_3, hf⟩ := os_bd hf
    refine mc_callV ⟨hx, hb, hml, hown, hts⟩ (mm_X10_advance l D kA N q_this_tokens o_this_tokens u_2 he_3) (cwV 0 hts gX7_readSlope_X10_advance rfl rfl rfl (by decide +kernel) ⟨Nat.le_of_ble_eq_true rfl, Nat.le_of_ble_eq_true rfl⟩) (wc := (ce_X10 kA q_this_tokens o_this_tokens)) (ci := 6) (q0 := 0) rfl rfl rfl hl.1 (As := []) (rest := []) rfl (Nat.le_of_ble_eq_true rfl) dX7_readSlope_25 ⟨Nat.le_of_ble_eq_true rfl, Nat.le_of_ble_eq_true rfl⟩ hK hP hD hS hA [1, 2, 3, 4, 5] [0, 6, 7, 8, 9] [0, 5, 6, 7, 8, 9, 1, 2, 3, 4] rfl (by decide) rfl (by decide) (by decide) rfl (by decide) (wr := (ce_X7 kA q_this q_this_tokens q_this_draft (ss_I o_this 5 (1 : Int32)) ++ (ce_X5 kA q_this_draft o_this_draft))) (w2 := (ce_X7 kA q_this q_this_tokens q_this_draft (ss_I o_this 5 (1 : Int32)) ++ (ce_X10 kA q_this_tokens u_2 ++ (ce_X5 kA q_this_draft o_this_draft)))) (fun H locs hP hD hS => ?_)
    have hP : va_P D vwCl (ce_X7 kA q_this q_this_tokens q_this_draft (ss_I o_this 5 (1 : Int32)) ++ (ce_X10 kA q_this_tokens u_2 ++ (ce_X5 kA q_this_draft o_this_draft))) H := hP
    refine lv_aload_n hx hb dX7_readSlope_28 rfl (lv_at hl 0 rfl) ?_
    refine va_get (D := D) (ci := 4) (v := .ref (q_this_draft 0)) (C := RX7) (T := TX7) (N := 8) hx hb hUX7 (fun _ h9 => h9) hown hK hP 0 rfl rfl 1 (by decide) (hts (Cond.fieldLink RX7 15 "ReliefBuilder$ReliefText" "draft" "LReliefBuilder$Panel;") (List.mem_of_getElem? (i := 3) rfl)) (fun _ h9 => h9) rfl dX7_readSlope_29 ?_
    refine lv_aload_n hx hb dX7_readSlope_32 rfl (lv_at hl 0 rfl) ?_
    refine va_get (D := D) (ci := 4) (v := .ref (q_this_tokens 0)) (C := RX7) (T := TX7) (N := 8) hx hb hUX7 (fun _ h9 => h9) hown hK hP 0 rfl rfl 0 (by decide) (hts (Cond.fieldLink RX7 9 "ReliefBuilder$ReliefText" "tokens" "LReliefBuilder$Tokens;") (List.mem_of_getElem? (i := 2) rfl)) (fun _ h9 => h9) rfl dX7_readSlope_33 ?_
    refine lv_iconst (v := 0) hx hb dX7_readSlope_36 (by decide) ?_
    refine lv_bipush (v := 9) hx hb dX7_readSlope_37 (by decide) ?_
    obtain ⟨u_4, he_5, hf⟩ := os_bd hf
    refine mc_callV ⟨hx, hb, hml, hown, hts⟩ (mm_X10_takeNumber l D kA N q_this_tokens u_2 (0 : Int32) (9 : Int32) u_4 he_5) (cwV 2 hts gX7_readSlope_X10_takeNumber rfl rfl rfl (by decide +kernel) ⟨Nat.le_of_ble_eq_true rfl, Nat.le_of_ble_eq_true rfl⟩) (wc := (ce_X10 kA q_this_tokens u_2)) (ci := 6) (q0 := 0) rfl rfl rfl hl.1 (As := [.int (0 : Int32), .int (9 : Int32)]) (rest := [.ref (q_this_draft 0)]) rfl (Nat.le_of_ble_eq_true rfl) dX7_readSlope_39 ⟨Nat.le_of_ble_eq_true rfl, Nat.le_of_ble_eq_true rfl⟩ hK hP hD hS hA [1, 2, 3, 4, 5] [0, 6, 7, 8, 9] [0, 5, 6, 7, 8, 9, 1, 2, 3, 4] rfl (by decide) rfl (by decide) (by decide) rfl (by decide) (wr := (ce_X7 kA q_this q_this_tokens q_this_draft (ss_I o_this 5 (1 : Int32)) ++ (ce_X5 kA q_this_draft o_this_draft))) (w2 := (ce_X7 kA q_this q_this_tokens q_this_draft (ss_I o_this 5 (1 : Int32)) ++ (ce_X10 kA q_this_tokens u_4.2 ++ (ce_X5 kA q_this_draft o_this_draft)))) (fun H locs hP hD hS => ?_)
    have hP : va_P D vwCl (ce_X7 kA q_this q_this_tokens q_this_draft (ss_I o_this 5 (1 : Int32)) ++ (ce_X10 kA q_this_tokens u_4.2 ++ (ce_X5 kA q_this_draft o_this_draft))) H := hP
    refine va_put (D := D) (ci := 2) (v := .int u_4.1) (ty := .int) (C := RX5) (T := TX5) (N := 10) hx hb hUX5 (fun _ h9 => h9) tyX5 tyX5_ok nmX5 hown hK hP hD hS 6 rfl rfl 6 (by decide) (hts (Cond.fieldLink RX7 125 "ReliefBuilder$Panel" "slope" "I") (List.mem_of_getElem? (i := 4) rfl)) (fun _ h9 => h9) rfl (tyX5_ok 6 (by decide)) rfl rfl (Nat.le_of_ble_eq_true rfl) dX7_readSlope_42 (fun H locs hP hD hS => ?_)
    have hP : va_P D vwCl (ce_X7 kA q_this q_this_tokens q_this_draft (ss_I o_this 5 (1 : Int32)) ++ (ce_X10 kA q_this_tokens u_4.2 ++ (ce_X5 kA q_this_draft (ss_I o_this_draft 6 u_4.1)))) H := hP
    have hD : va_D A (ce_X7 kA q_this q_this_tokens q_this_draft (ss_I o_this 5 (1 : Int32)) ++ (ce_X10 kA q_this_tokens u_4.2 ++ (ce_X5 kA q_this_draft (ss_I o_this_draft 6 u_4.1)))) := hD
    refine lv_aload_n hx hb dX7_readSlope_45 rfl (lv_at hl 0 rfl) ?_
    refine va_get (D := D) (ci := 4) (v := .ref (q_this_draft 0)) (C := RX7) (T := TX7) (N := 8) hx hb hUX7 (fun _ h9 => h9) hown hK hP 0 rfl rfl 1 (by decide) (hts (Cond.fieldLink RX7 15 "ReliefBuilder$ReliefText" "draft" "LReliefBuilder$Panel;") (List.mem_of_getElem? (i := 3) rfl)) (fun _ h9 => h9) rfl dX7_readSlope_46 ?_
    refine va_get (D := D) (ci := 2) (v := .int u_4.1) (C := RX5) (T := TX5) (N := 10) hx hb hUX5 (fun _ h9 => h9) hown hK hP 6 rfl rfl 6 (by decide) (hts (Cond.fieldLink RX7 125 "ReliefBuilder$Panel" "slope" "I") (List.mem_of_getElem? (i := 4) rfl)) (fun _ h9 => h9) rfl dX7_readSlope_49 ?_
    refine lv_iconst (v := (-1)) hx hb dX7_readSlope_52 (by decide) ?_
    refine lv_icmp_eq (tgt := 60) hx hb dX7_readSlope_53 (by decide) (fun hc_6 => ?_) (fun hc_6 => ?_)
    · rw [if_pos hc_6] at hf
      refine lv_iconst (v := 0) hx hb dX7_readSlope_60 (by decide) ?_
      rw [← Option.some.inj hf]
      exact mc_retz (v := 0) hx hb hr rfl hlk hP hK hD hS dX7_readSlope_61
    · rw [if_neg hc_6] at hf
      refine lv_iconst (v := 1) hx hb dX7_readSlope_56 (by decide) ?_
      refine lv_goto (tgt := 61) hx hb dX7_readSlope_57 (by decide) ?_
      rw [← Option.some.inj hf]
      exact mc_retz (v := 1) hx hb hr rfl hlk hP hK hD hS dX7_readSlope_61
  · rw [if_neg hc_1] at hf
    refine lv_aload_n hx hb dX7_readSlope_7 rfl (lv_at hl 0 rfl) ?_
    refine va_get (D := D) (ci := 4) (v := .ref (q_this_tokens 0)) (C := RX7) (T := TX7) (N := 8) hx hb hUX7 (fun _ h9 => h9) hown hK hP 0 rfl rfl 0 (by decide) (hts (Cond.fieldLink RX7 9 "ReliefBuilder$ReliefText" "tokens" "LReliefBuilder$Tokens;") (List.mem_of_getElem? (i := 2) rfl)) (fun _ h9 => h9) rfl dX7_readSlope_8 ?_
    refine lv_iconst (v := 3) hx hb dX7_readSlope_11 (by decide) ?_
    obtain ⟨u_7, he_8, hf⟩ := os_bd hf
    refine mc_callV ⟨hx, hb, hml, hown, hts⟩ (mm_X10_fail l D kA N q_this_tokens o_this_tokens (3 : Int32) u_7 he_8) (cwV 1 hts gX7_readSlope_X10_fail rfl rfl rfl (by decide +kernel) ⟨Nat.le_of_ble_eq_true rfl, Nat.le_of_ble_eq_true rfl⟩) (wc := (ce_X10 kA q_this_tokens o_this_tokens)) (ci := 6) (q0 := 0) rfl rfl rfl hl.1 (As := [.int (3 : Int32)]) (rest := []) rfl (Nat.le_of_ble_eq_true rfl) dX7_readSlope_12 ⟨Nat.le_of_ble_eq_true rfl, Nat.le_of_ble_eq_true rfl⟩ hK hP hD hS hA [1, 2, 3, 4, 5] [0, 6, 7, 8, 9] [0, 5, 6, 7, 8, 9, 1, 2, 3, 4] rfl (by decide) rfl (by decide) (by decide) rfl (by decide) (wr := (ce_X7 kA q_this q_this_tokens q_this_draft o_this ++ (ce_X5 kA q_this_draft o_this_draft))) (w2 := (ce_X7 kA q_this q_this_tokens q_this_draft o_this ++ (ce_X10 kA q_this_tokens u_7.2 ++ (ce_X5 kA q_this_draft o_this_draft)))) (fun H locs hP hD hS => ?_)
    have hP : va_P D vwCl (ce_X7 kA q_this q_this_tokens q_this_draft o_this ++ (ce_X10 kA q_this_tokens u_7.2 ++ (ce_X5 kA q_this_draft o_this_draft))) H := hP
    obtain ⟨hz_9, hf⟩ := os_if hf
    rw [← Option.some.inj hf]
    exact mc_retz hx hb hr (os_z_n hz_9) hlk hP hK hD hS dX7_readSlope_15
def ff_X7_readSteps (N : Nat) (o_this : os_T) (o_this_tokens : os_T) (o_this_draft : os_T) : Option (Nat × Int32 × os_T × os_T × os_T) :=
  (if (os_I o_this 3) = 0 then ((ff_X10_advance N o_this_tokens).bind fun u_2 => ((ff_X10_takeNumber N u_2 (1 : Int32) (20 : Int32)).bind fun u_4 => (if u_4.1 = (-1 : Int32) then some (0, (0 : Int32), ss_I o_this 3 (1 : Int32), u_4.2, ss_I o_this_draft 2 u_4.1) else ((ff_X10_takeWord N u_4.2 17).bind fun u_7 => (if u_7.1 = 0 then (if u_7.2.1 = 0 then some (0, (0 : Int32), ss_I o_this 3 (1 : Int32), u_7.2.2, ss_I o_this_draft 2 u_4.1) else ((ff_X10_takeNumber N u_7.2.2 (10 : Int32) (99 : Int32)).bind fun u_10 => (if u_10.1 = (-1 : Int32) then some (0, (0 : Int32), ss_I o_this 3 (1 : Int32), u_10.2, ss_I (ss_I o_this_draft 2 u_4.1) 3 u_10.1) else ((ff_X10_takeWord N u_10.2 18).bind fun u_13 => (if u_13.1 = 0 then (if u_13.2.1 = 0 then some (0, (0 : Int32), ss_I o_this 3 (1 : Int32), u_13.2.2, ss_I (ss_I o_this_draft 2 u_4.1) 3 u_10.1) else ((ff_X10_takeNumber N u_13.2.2 (0 : Int32) u_4.1).bind fun u_16 => (if u_16.1 = (-1 : Int32) then some (0, (0 : Int32), ss_I o_this 3 (1 : Int32), u_16.2, ss_I (ss_I (ss_I o_this_draft 2 u_4.1) 3 u_10.1) 4 u_16.1) else some (0, (1 : Int32), ss_I o_this 3 (1 : Int32), u_16.2, ss_I (ss_I (ss_I o_this_draft 2 u_4.1) 3 u_10.1) 4 u_16.1)))) else some (u_13.1, (0 : Int32), ss_I o_this 3 (1 : Int32), u_13.2.2, ss_I (ss_I o_this_draft 2 u_4.1) 3 u_10.1)))))) else some (u_7.1, (0 : Int32), ss_I o_this 3 (1 : Int32), u_7.2.2, ss_I o_this_draft 2 u_4.1)))))) else ((ff_X10_fail N o_this_tokens (3 : Int32)).bind fun u_19 => (if os_z u_19.1 then some (0, u_19.1, o_this, u_19.2, o_this_draft) else none)))
set_option maxHeartbeats 4000000 in
set_option maxRecDepth 100000 in
theorem mm_X7_readSteps (l : Launch) (hst : l.stackTraces = false) (zz : Nat → Nat → Nat) (D : va_G) (kA : Nat → ClassId) (N : Nat) (q_this : Nat → Nat) (q_this_tokens : Nat → Nat) (q_this_draft : Nat → Nat) (o_this : os_T) (o_this_tokens : os_T) (o_this_draft : os_T) (out : (Nat × Int32 × os_T × os_T × os_T)) (hf : ff_X7_readSteps N o_this o_this_tokens o_this_draft = some out) : mx_C l zz D kA yX7_readSteps wsX7_readSteps ({ frames := 6, cells := 0, slots := 0, locals := 128 } : Room) [.ref (q_this 0)] (ce_X7 kA q_this q_this_tokens q_this_draft o_this ++ (ce_X10 kA q_this_tokens o_this_tokens ++ (ce_X5 kA q_this_draft o_this_draft))) out.1 (some (.int out.2.1)) (ce_X7 kA q_this q_this_tokens q_this_draft out.2.2.1 ++ (ce_X10 kA q_this_tokens out.2.2.2.1 ++ (ce_X5 kA q_this_draft out.2.2.2.2))) := by
  refine mx_of (cc := cX7_readSteps) (maxL := 1) (ret := (some .boolean)) (by decide) rfl (Nat.le_of_ble_eq_true rfl) ?_
  intro p e s m below meth c A B hx0 hZ hD hP hS ls hl
  obtain ⟨hx, hb, hr, hlk, hml, hown, hts, hK, hA, hnm⟩ := B
  have hown : s.vm.findClass RX7 = some m.cls := hown
  have hl : lv_has ls 1 [(0, .ref (q_this 0))] := hl
  have hUX5 : ∀ w ∈ u_ws RX5 TX5 10, w.before [.ref (q_this 0)].toArray s = true := fun w h => hts w (List.mem_cons_of_mem _ (List.mem_append_left _ (List.mem_append_right _ h)))
  have hUX7 : ∀ w ∈ u_ws RX7 TX7 8, w.before [.ref (q_this 0)].toArray s = true := fun w h => hts w (List.mem_cons_of_mem _ (List.mem_append_left _ (List.mem_append_left _ (List.mem_append_right _ h))))
  unfold ff_X7_readSteps at hf
  refine lv_aload_n hx hb dX7_readSteps_0 rfl (lv_at hl 0 rfl) ?_
  refine va_get (D := D) (ci := 4) (v := .int (os_I o_this 3)) (C := RX7) (T := TX7) (N := 8) hx hb hUX7 (fun _ h9 => h9) hown hK hP 0 rfl rfl 3 (by decide) (hts (Cond.fieldLink RX7 28 "ReliefBuilder$ReliefText" "hasSteps" "Z") (List.mem_of_getElem? (i := 1) rfl)) (fun _ h9 => h9) rfl dX7_readSteps_1 ?_
  refine lv_if_eq (tgt := 16) hx hb dX7_readSteps_4 (by decide) (fun hc_1 => ?_) (fun hc_1 => ?_)
  · rw [if_pos hc_1] at hf
    refine lv_aload_n hx hb dX7_readSteps_16 rfl (lv_at hl 0 rfl) ?_
    refine lv_iconst (v := 1) hx hb dX7_readSteps_17 (by decide) ?_
    refine va_put (D := D) (ci := 4) (v := .int (1 : Int32)) (ty := .boolean) (C := RX7) (T := TX7) (N := 8) hx hb hUX7 (fun _ h9 => h9) tyX7 tyX7_ok nmX7 hown hK hP hD hS 0 rfl rfl 3 (by decide) (hts (Cond.fieldLink RX7 28 "ReliefBuilder$ReliefText" "hasSteps" "Z") (List.mem_of_getElem? (i := 1) rfl)) (fun _ h9 => h9) rfl (tyX7_ok 3 (by decide)) rfl rfl (Nat.le_of_ble_eq_true rfl) dX7_readSteps_18 (fun H locs hP hD hS => ?_)
    have hP : va_P D vwCl (ce_X7 kA q_this q_this_tokens q_this_draft (ss_I o_this 3 (1 : Int32)) ++ (ce_X10 kA q_this_tokens o_this_tokens ++ (ce_X5 kA q_this_draft o_this_draft))) H := hP
    have hD : va_D A (ce_X7 kA q_this q_this_tokens q_this_draft (ss_I o_this 3 (1 : Int32)) ++ (ce_X10 kA q_this_tokens o_this_tokens ++ (ce_X5 kA q_this_draft o_this_draft))) := hD
    refine lv_aload_n hx hb dX7_readSteps_21 rfl (lv_at hl 0 rfl) ?_
    refine va_get (D := D) (ci := 4) (v := .ref (q_this_tokens 0)) (C := RX7) (T := TX7) (N := 8) hx hb hUX7 (fun _ h9 => h9) hown hK hP 0 rfl rfl 0 (by decide) (hts (Cond.fieldLink RX7 9 "ReliefBuilder$ReliefText" "tokens" "LReliefBuilder$Tokens;") (List.mem_of_getElem? (i := 2) rfl)) (fun _ h9 => h9) rfl dX7_readSteps_22 ?_
    obtain ⟨u_2, he_3, hf⟩ := os_bd hf
    refine mc_callV ⟨hx, hb, hml, hown, hts⟩ (mm_X10_advance l D kA N q_this_tokens o_this_tokens u_2 he_3) (cwV 0 hts gX7_readSteps_X10_advance rfl rfl rfl (by decide +kernel) ⟨Nat.le_of_ble_eq_true rfl, Nat.le_of_ble_eq_true rfl⟩) (wc := (ce_X10 kA q_this_tokens o_this_tokens)) (ci := 6) (q0 := 0) rfl rfl rfl hl.1 (As := []) (rest := []) rfl (Nat.le_of_ble_eq_true rfl) dX7_readSteps_25 ⟨Nat.le_of_ble_eq_true rfl, Nat.le_of_ble_eq_true rfl⟩ hK hP hD hS hA [1, 2, 3, 4, 5] [0, 6, 7, 8, 9] [0, 5, 6, 7, 8, 9, 1, 2, 3, 4] rfl (by decide) rfl (by decide) (by decide) rfl (by decide) (wr := (ce_X7 kA q_this q_this_tokens q_this_draft (ss_I o_this 3 (1 : Int32)) ++ (ce_X5 kA q_this_draft o_this_draft))) (w2 := (ce_X7 kA q_this q_this_tokens q_this_draft (ss_I o_this 3 (1 : Int32)) ++ (ce_X10 kA q_this_tokens u_2 ++ (ce_X5 kA q_this_draft o_this_draft)))) (fun H locs hP hD hS => ?_)
    have hP : va_P D vwCl (ce_X7 kA q_this q_this_tokens q_this_draft (ss_I o_this 3 (1 : Int32)) ++ (ce_X10 kA q_this_tokens u_2 ++ (ce_X5 kA q_this_draft o_this_draft))) H := hP
    refine lv_aload_n hx hb dX7_readSteps_28 rfl (lv_at hl 0 rfl) ?_
    refine va_get (D := D) (ci := 4) (v := .ref (q_this_draft 0)) (C := RX7) (T := TX7) (N := 8) hx hb hUX7 (fun _ h9 => h9) hown hK hP 0 rfl rfl 1 (by decide) (hts (Cond.fieldLink RX7 15 "ReliefBuilder$ReliefText" "draft" "LReliefBuilder$Panel;") (List.mem_of_getElem? (i := 3) rfl)) (fun _ h9 => h9) rfl dX7_readSteps_29 ?_
    refine lv_aload_n hx hb dX7_readSteps_32 rfl (lv_at hl 0 rfl) ?_
    refine va_get (D := D) (ci := 4) (v := .ref (q_this_tokens 0)) (C := RX7) (T := TX7) (N := 8) hx hb hUX7 (fun _ h9 => h9) hown hK hP 0 rfl rfl 0 (by decide) (hts (Cond.fieldLink RX7 9 "ReliefBuilder$ReliefText" "tokens" "LReliefBuilder$Tokens;") (List.mem_of_getElem? (i := 2) rfl)) (fun _ h9 => h9) rfl dX7_readSteps_33 ?_
    refine lv_iconst (v := 1) hx hb dX7_readSteps_36 (by decide) ?_
    refine lv_bipush (v := 20) hx hb dX7_readSteps_37 (by decide) ?_
    obtain ⟨u_4, he_5, hf⟩ := os_bd hf
    refine mc_callV ⟨hx, hb, hml, hown, hts⟩ (mm_X10_takeNumber l D kA N q_this_tokens u_2 (1 : Int32) (20 : Int32) u_4 he_5) (cwV 2 hts gX7_readSteps_X10_takeNumber rfl rfl rfl (by decide +kernel) ⟨Nat.le_of_ble_eq_true rfl, Nat.le_of_ble_eq_true rfl⟩) (wc := (ce_X10 kA q_this_tokens u_2)) (ci := 6) (q0 := 0) rfl rfl rfl hl.1 (As := [.int (1 : Int32), .int (20 : Int32)]) (rest := [.ref (q_this_draft 0)]) rfl (Nat.le_of_ble_eq_true rfl) dX7_readSteps_39 ⟨Nat.le_of_ble_eq_true rfl, Nat.le_of_ble_eq_true rfl⟩ hK hP hD hS hA [1, 2, 3, 4, 5] [0, 6, 7, 8, 9] [0, 5, 6, 7, 8, 9, 1, 2, 3, 4] rfl (by decide) rfl (by decide) (by decide) rfl (by decide) (wr := (ce_X7 kA q_this q_this_tokens q_this_draft (ss_I o_this 3 (1 : Int32)) ++ (ce_X5 kA q_this_draft o_this_draft))) (w2 := (ce_X7 kA q_this q_this_tokens q_this_draft (ss_I o_this 3 (1 : Int32)) ++ (ce_X10 kA q_this_tokens u_4.2 ++ (ce_X5 kA q_this_draft o_this_draft)))) (fun H locs hP hD hS => ?_)
    have hP : va_P D vwCl (ce_X7 kA q_this q_this_tokens q_this_draft (ss_I o_this 3 (1 : Int32)) ++ (ce_X10 kA q_this_tokens u_4.2 ++ (ce_X5 kA q_this_draft o_this_draft))) H := hP
    refine va_put (D := D) (ci := 2) (v := .int u_4.1) (ty := .int) (C := RX5) (T := TX5) (N := 10) hx hb hUX5 (fun _ h9 => h9) tyX5 tyX5_ok nmX5 hown hK hP hD hS 6 rfl rfl 2 (by decide) (hts (Cond.fieldLink RX7 109 "ReliefBuilder$Panel" "greatest" "I") (List.mem_of_getElem? (i := 4) rfl)) (fun _ h9 => h9) rfl (tyX5_ok 2 (by decide)) rfl rfl (Nat.le_of_ble_eq_true rfl) dX7_readSteps_42 (fun H locs hP hD hS => ?_)
    have hP : va_P D vwCl (ce_X7 kA q_this q_this_tokens q_this_draft (ss_I o_this 3 (1 : Int32)) ++ (ce_X10 kA q_this_tokens u_4.2 ++ (ce_X5 kA q_this_draft (ss_I o_this_draft 2 u_4.1)))) H := hP
    have hD : va_D A (ce_X7 kA q_this q_this_tokens q_this_draft (ss_I o_this 3 (1 : Int32)) ++ (ce_X10 kA q_this_tokens u_4.2 ++ (ce_X5 kA q_this_draft (ss_I o_this_draft 2 u_4.1)))) := hD
    refine lv_aload_n hx hb dX7_readSteps_45 rfl (lv_at hl 0 rfl) ?_
    refine va_get (D := D) (ci := 4) (v := .ref (q_this_draft 0)) (C := RX7) (T := TX7) (N := 8) hx hb hUX7 (fun _ h9 => h9) hown hK hP 0 rfl rfl 1 (by decide) (hts (Cond.fieldLink RX7 15 "ReliefBuilder$ReliefText" "draft" "LReliefBuilder$Panel;") (List.mem_of_getElem? (i := 3) rfl)) (fun _ h9 => h9) rfl dX7_readSteps_46 ?_
    refine va_get (D := D) (ci := 2) (v := .int u_4.1) (C := RX5) (T := TX5) (N := 10) hx hb hUX5 (fun _ h9 => h9) hown hK hP 6 rfl rfl 2 (by decide) (hts (Cond.fieldLink RX7 109 "ReliefBuilder$Panel" "greatest" "I") (List.mem_of_getElem? (i := 4) rfl)) (fun _ h9 => h9) rfl dX7_readSteps_49 ?_
    refine lv_iconst (v := (-1)) hx hb dX7_readSteps_52 (by decide) ?_
    refine lv_icmp_eq (tgt := 68) hx hb dX7_readSteps_53 (by decide) (fun hc_6 => ?_) (fun hc_6 => ?_)
    · rw [if_pos hc_6] at hf
      refine lv_iconst (v := 0) hx hb dX7_readSteps_68 (by decide) ?_
      rw [← Option.some.inj hf]
      exact mx_retz (v := 0) (Nat.le_of_ble_eq_true rfl) (Nat.le_of_ble_eq_true rfl) hx hb hr rfl hlk hP hK hD hS dX7_readSteps_69
    · rw [if_neg hc_6] at hf
      refine lv_aload_n hx hb dX7_readSteps_56 rfl (lv_at hl 0 rfl) ?_
      refine va_get (D := D) (ci := 4) (v := .ref (q_this_tokens 0)) (C := RX7) (T := TX7) (N := 8) hx hb hUX7 (fun _ h9 => h9) hown hK hP 0 rfl rfl 0 (by decide) (hts (Cond.fieldLink RX7 9 "ReliefBuilder$ReliefText" "tokens" "LReliefBuilder$Tokens;") (List.mem_of_getElem? (i := 2) rfl)) (fun _ h9 => h9) rfl dX7_readSteps_57 ?_
      refine va_ldcS hx hb hown (hZ.2.2.2.2.2.2.2.2 5 (by decide)) dX7_readSteps_60 ?_
      obtain ⟨u_7, he_8, hf⟩ := os_bd hf
      refine mx_callV ⟨hx, hb, hml, hown, hts⟩ (mm_X10_takeWord l hst zz D kA N q_this_tokens u_4.2 17 u_7 he_8) (cwV 1 hts gX7_readSteps_X10_takeWord rfl rfl rfl (by decide +kernel) ⟨Nat.le_of_ble_eq_true rfl, Nat.le_of_ble_eq_true rfl⟩) (wc := (ce_X10 kA q_this_tokens u_4.2)) (ci := 6) (q0 := 0) rfl rfl rfl hl.1 (As := [.ref (zz 0 17)]) (rest := []) rfl (Nat.le_of_ble_eq_true rfl) dX7_readSteps_62 ⟨Nat.le_of_ble_eq_true rfl, Nat.le_of_ble_eq_true rfl⟩ hK hP hD hS hA hZ [1, 2, 3, 4, 5] [0, 6, 7, 8, 9] [0, 5, 6, 7, 8, 9, 1, 2, 3, 4] rfl (by decide) rfl (by decide) (by decide) rfl (by decide) (wr := (ce_X7 kA q_this q_this_tokens q_this_draft (ss_I o_this 3 (1 : Int32)) ++ (ce_X5 kA q_this_draft (ss_I o_this_draft 2 u_4.1)))) (w2 := (ce_X7 kA q_this q_this_tokens q_this_draft (ss_I o_this 3 (1 : Int32)) ++ (ce_X10 kA q_this_tokens u_7.2.2 ++ (ce_X5 kA q_this_draft (ss_I o_this_draft 2 u_4.1))))) (fun hx9 H locs q9 ce hP hD hS h91 h92 h93 => ?_) (fun hx9 H locs hP hD hS => ?_)
      · rw [if_neg hx9] at hf
        rw [← Option.some.inj hf]
        exact mx_out hx9 hx0 hlk hP hK hD hS h91 h92 h93 (Nat.le_of_ble_eq_true rfl) (Nat.le_of_ble_eq_true rfl)
      · rw [if_pos hx9] at hf
        refine W.widen (k := 0) (n := 0) (Nat.le_of_ble_eq_true rfl) (Nat.le_of_ble_eq_true rfl) ?_
        have hP : va_P D vwCl (ce_X7 kA q_this q_this_tokens q_this_draft (ss_I o_this 3 (1 : Int32)) ++ (ce_X10 kA q_this_tokens u_7.2.2 ++ (ce_X5 kA q_this_draft (ss_I o_this_draft 2 u_4.1)))) H := hP
        refine lv_if_ne (tgt := 70) hx hb dX7_readSteps_65 (by decide) (fun hc_9 => ?_) (fun hc_9 => ?_)
        · rw [if_neg hc_9] at hf
          refine lv_aload_n hx hb dX7_readSteps_70 rfl (lv_at hl 0 rfl) ?_
          refine va_get (D := D) (ci := 4) (v := .ref (q_this_draft 0)) (C := RX7) (T := TX7) (N := 8) hx hb hUX7 (fun _ h9 => h9) hown hK hP 0 rfl rfl 1 (by decide) (hts (Cond.fieldLink RX7 15 "ReliefBuilder$ReliefText" "draft" "LReliefBuilder$Panel;") (List.mem_of_getElem? (i := 3) rfl)) (fun _ h9 => h9) rfl dX7_readSteps_71 ?_
          refine lv_aload_n hx hb dX7_readSteps_74 rfl (lv_at hl 0 rfl) ?_
          refine va_get (D := D) (ci := 4) (v := .ref (q_this_tokens 0)) (C := RX7) (T := TX7) (N := 8) hx hb hUX7 (fun _ h9 => h9) hown hK hP 0 rfl rfl 0 (by decide) (hts (Cond.fieldLink RX7 9 "ReliefBuilder$ReliefText" "tokens" "LReliefBuilder$Tokens;") (List.mem_of_getElem? (i := 2) rfl)) (fun _ h9 => h9) rfl dX7_readSteps_75 ?_
          refine lv_bipush (v := 10) hx hb dX7_readSteps_78 (by decide) ?_
          refine lv_bipush (v := 99) hx hb dX7_readSteps_80 (by decide) ?_
          obtain ⟨u_10, he_11, hf⟩ := os_bd hf
          refine mc_callV ⟨hx, hb, hml, hown, hts⟩ (mm_X10_takeNumber l D kA N q_this_tokens u_7.2.2 (10 : Int32) (99 : Int32) u_10 he_11) (cwV 2 hts gX7_readSteps_X10_takeNumber rfl rfl rfl (by decide +kernel) ⟨Nat.le_of_ble_eq_true rfl, Nat.le_of_ble_eq_true rfl⟩) (wc := (ce_X10 kA q_this_tokens u_7.2.2)) (ci := 6) (q0 := 0) rfl rfl rfl hl.1 (As := [.int (10 : Int32), .int (99 : Int32)]) (rest := [.ref (q_this_draft 0)]) rfl (Nat.le_of_ble_eq_true rfl) dX7_readSteps_82 ⟨Nat.le_of_ble_eq_true rfl, Nat.le_of_ble_eq_true rfl⟩ hK hP hD hS hA [1, 2, 3, 4, 5] [0, 6, 7, 8, 9] [0, 5, 6, 7, 8, 9, 1, 2, 3, 4] rfl (by decide) rfl (by decide) (by decide) rfl (by decide) (wr := (ce_X7 kA q_this q_this_tokens q_this_draft (ss_I o_this 3 (1 : Int32)) ++ (ce_X5 kA q_this_draft (ss_I o_this_draft 2 u_4.1)))) (w2 := (ce_X7 kA q_this q_this_tokens q_this_draft (ss_I o_this 3 (1 : Int32)) ++ (ce_X10 kA q_this_tokens u_10.2 ++ (ce_X5 kA q_this_draft (ss_I o_this_draft 2 u_4.1))))) (fun H locs hP hD hS => ?_)
          have hP : va_P D vwCl (ce_X7 kA q_this q_this_tokens q_this_draft (ss_I o_this 3 (1 : Int32)) ++ (ce_X10 kA q_this_tokens u_10.2 ++ (ce_X5 kA q_this_draft (ss_I o_this_draft 2 u_4.1)))) H := hP
          refine va_put (D := D) (ci := 2) (v := .int u_10.1) (ty := .int) (C := RX5) (T := TX5) (N := 10) hx hb hUX5 (fun _ h9 => h9) tyX5 tyX5_ok nmX5 hown hK hP hD hS 6 rfl rfl 3 (by decide) (hts (Cond.fieldLink RX7 117 "ReliefBuilder$Panel" "glass" "I") (List.mem_of_getElem? (i := 5) rfl)) (fun _ h9 => h9) rfl (tyX5_ok 3 (by decide)) rfl rfl (Nat.le_of_ble_eq_true rfl) dX7_readSteps_85 (fun H locs hP hD hS => ?_)
          have hP : va_P D vwCl (ce_X7 kA q_this q_this_tokens q_this_draft (ss_I o_this 3 (1 : Int32)) ++ (ce_X10 kA q_this_tokens u_10.2 ++ (ce_X5 kA q_this_draft (ss_I (ss_I o_this_draft 2 u_4.1) 3 u_10.1)))) H := hP
          have hD : va_D A (ce_X7 kA q_this q_this_tokens q_this_draft (ss_I o_this 3 (1 : Int32)) ++ (ce_X10 kA q_this_tokens u_10.2 ++ (ce_X5 kA q_this_draft (ss_I (ss_I o_this_draft 2 u_4.1) 3 u_10.1)))) := hD
          refine lv_aload_n hx hb dX7_readSteps_88 rfl (lv_at hl 0 rfl) ?_
          refine va_get (D := D) (ci := 4) (v := .ref (q_this_draft 0)) (C := RX7) (T := TX7) (N := 8) hx hb hUX7 (fun _ h9 => h9) hown hK hP 0 rfl rfl 1 (by decide) (hts (Cond.fieldLink RX7 15 "ReliefBuilder$ReliefText" "draft" "LReliefBuilder$Panel;") (List.mem_of_getElem? (i := 3) rfl)) (fun _ h9 => h9) rfl dX7_readSteps_89 ?_
          refine va_get (D := D) (ci := 2) (v := .int u_10.1) (C := RX5) (T := TX5) (N := 10) hx hb hUX5 (fun _ h9 => h9) hown hK hP 6 rfl rfl 3 (by decide) (hts (Cond.fieldLink RX7 117 "ReliefBuilder$Panel" "glass" "I") (List.mem_of_getElem? (i := 5) rfl)) (fun _ h9 => h9) rfl dX7_readSteps_92 ?_
          refine lv_iconst (v := (-1)) hx hb dX7_readSteps_95 (by decide) ?_
          refine lv_icmp_eq (tgt := 111) hx hb dX7_readSteps_96 (by decide) (fun hc_12 => ?_) (fun hc_12 => ?_)
          · rw [if_pos hc_12] at hf
            refine lv_iconst (v := 0) hx hb dX7_readSteps_111 (by decide) ?_
            rw [← Option.some.inj hf]
            exact mx_retz (v := 0) (Nat.le_of_ble_eq_true rfl) (Nat.le_of_ble_eq_true rfl) hx hb hr rfl hlk hP hK hD hS dX7_readSteps_112
          · rw [if_neg hc_12] at hf
            refine lv_aload_n hx hb dX7_readSteps_99 rfl (lv_at hl 0 rfl) ?_
            refine va_get (D := D) (ci := 4) (v := .ref (q_this_tokens 0)) (C := RX7) (T := TX7) (N := 8) hx hb hUX7 (fun _ h9 => h9) hown hK hP 0 rfl rfl 0 (by decide) (hts (Cond.fieldLink RX7 9 "ReliefBuilder$ReliefText" "tokens" "LReliefBuilder$Tokens;") (List.mem_of_getElem? (i := 2) rfl)) (fun _ h9 => h9) rfl dX7_readSteps_100 ?_
            refine va_ldcS hx hb hown (hZ.2.2.2.2.2.2.2.2 6 (by decide)) dX7_readSteps_103 ?_
            obtain ⟨u_13, he_14, hf⟩ := os_bd hf
            refine mx_callV ⟨hx, hb, hml, hown, hts⟩ (mm_X10_takeWord l hst zz D kA N q_this_tokens u_10.2 18 u_13 he_14) (cwV 1 hts gX7_readSteps_X10_takeWord rfl rfl rfl (by decide +kernel) ⟨Nat.le_of_ble_eq_true rfl, Nat.le_of_ble_eq_true rfl⟩) (wc := (ce_X10 kA q_this_tokens u_10.2)) (ci := 6) (q0 := 0) rfl rfl rfl hl.1 (As := [.ref (zz 0 18)]) (rest := []) rfl (Nat.le_of_ble_eq_true rfl) dX7_readSteps_105 ⟨Nat.le_of_ble_eq_true rfl, Nat.le_of_ble_eq_true rfl⟩ hK hP hD hS hA hZ [1, 2, 3, 4, 5] [0, 6, 7, 8, 9] [0, 5, 6, 7, 8, 9, 1, 2, 3, 4] rfl (by decide) rfl (by decide) (by decide) rfl (by decide) (wr := (ce_X7 kA q_this q_this_tokens q_this_draft (ss_I o_this 3 (1 : Int32)) ++ (ce_X5 kA q_this_draft (ss_I (ss_I o_this_draft 2 u_4.1) 3 u_10.1)))) (w2 := (ce_X7 kA q_this q_this_tokens q_this_draft (ss_I o_this 3 (1 : Int32)) ++ (ce_X10 kA q_this_tokens u_13.2.2 ++ (ce_X5 kA q_this_draft (ss_I (ss_I o_this_draft 2 u_4.1) 3 u_10.1))))) (fun hx9 H locs q9 ce hP hD hS h91 h92 h93 => ?_) (fun hx9 H locs hP hD hS => ?_)
            · rw [if_neg hx9] at hf
              rw [← Option.some.inj hf]
              exact mx_out hx9 hx0 hlk hP hK hD hS h91 h92 h93 (Nat.le_of_ble_eq_true rfl) (Nat.le_of_ble_eq_true rfl)
            · rw [if_pos hx9] at hf
              refine W.widen (k := 0) (n := 0) (Nat.le_of_ble_eq_true rfl) (Nat.le_of_ble_eq_true rfl) ?_
              have hP : va_P D vwCl (ce_X7 kA q_this q_this_tokens q_this_draft (ss_I o_this 3 (1 : Int32)) ++ (ce_X10 kA q_this_tokens u_13.2.2 ++ (ce_X5 kA q_this_draft (ss_I (ss_I o_this_draft 2 u_4.1) 3 u_10.1)))) H := hP
              refine lv_if_ne (tgt := 113) hx hb dX7_readSteps_108 (by decide) (fun hc_15 => ?_) (fun hc_15 => ?_)
              · rw [if_neg hc_15] at hf
                refine lv_aload_n hx hb dX7_readSteps_113 rfl (lv_at hl 0 rfl) ?_
                refine va_get (D := D) (ci := 4) (v := .ref (q_this_draft 0)) (C := RX7) (T := TX7) (N := 8) hx hb hUX7 (fun _ h9 => h9) hown hK hP 0 rfl rfl 1 (by decide) (hts (Cond.fieldLink RX7 15 "ReliefBuilder$ReliefText" "draft" "LReliefBuilder$Panel;") (List.mem_of_getElem? (i := 3) rfl)) (fun _ h9 => h9) rfl dX7_readSteps_114 ?_
                refine lv_aload_n hx hb dX7_readSteps_117 rfl (lv_at hl 0 rfl) ?_
                refine va_get (D := D) (ci := 4) (v := .ref (q_this_tokens 0)) (C := RX7) (T := TX7) (N := 8) hx hb hUX7 (fun _ h9 => h9) hown hK hP 0 rfl rfl 0 (by decide) (hts (Cond.fieldLink RX7 9 "ReliefBuilder$ReliefText" "tokens" "LReliefBuilder$Tokens;") (List.mem_of_getElem? (i := 2) rfl)) (fun _ h9 => h9) rfl dX7_readSteps_118 ?_
                refine lv_iconst (v := 0) hx hb dX7_readSteps_121 (by decide) ?_
                refine lv_aload_n hx hb dX7_readSteps_122 rfl (lv_at hl 0 rfl) ?_
                refine va_get (D := D) (ci := 4) (v := .ref (q_this_draft 0)) (C := RX7) (T := TX7) (N := 8) hx hb hUX7 (fun _ h9 => h9) hown hK hP 0 rfl rfl 1 (by decide) (hts (Cond.fieldLink RX7 15 "ReliefBuilder$ReliefText" "draft" "LReliefBuilder$Panel;") (List.mem_of_getElem? (i := 3) rfl)) (fun _ h9 => h9) rfl dX7_readSteps_123 ?_
                refine va_get (D := D) (ci := 2) (v := .int u_4.1) (C := RX5) (T := TX5) (N := 10) hx hb hUX5 (fun _ h9 => h9) hown hK hP 6 rfl rfl 2 (by decide) (hts (Cond.fieldLink RX7 109 "ReliefBuilder$Panel" "greatest" "I") (List.mem_of_getElem? (i := 4) rfl)) (fun _ h9 => h9) rfl dX7_readSteps_126 ?_
                obtain ⟨u_16, he_17, hf⟩ := os_bd hf
                refine mc_callV ⟨hx, hb, hml, hown, hts⟩ (mm_X10_takeNumber l D kA N q_this_tokens u_13.2.2 (0 : Int32) u_4.1 u_16 he_17) (cwV 2 hts gX7_readSteps_X10_takeNumber rfl rfl rfl (by decide +kernel) ⟨Nat.le_of_ble_eq_true rfl, Nat.le_of_ble_eq_true rfl⟩) (wc := (ce_X10 kA q_this_tokens u_13.2.2)) (ci := 6) (q0 := 0) rfl rfl rfl hl.1 (As := [.int (0 : Int32), .int u_4.1]) (rest := [.ref (q_this_draft 0)]) rfl (Nat.le_of_ble_eq_true rfl) dX7_readSteps_129 ⟨Nat.le_of_ble_eq_true rfl, Nat.le_of_ble_eq_true rfl⟩ hK hP hD hS hA [1, 2, 3, 4, 5] [0, 6, 7, 8, 9] [0, 5, 6, 7, 8, 9, 1, 2, 3, 4] rfl (by decide) rfl (by decide) (by decide) rfl (by decide) (wr := (ce_X7 kA q_this q_this_tokens q_this_draft (ss_I o_this 3 (1 : Int32)) ++ (ce_X5 kA q_this_draft (ss_I (ss_I o_this_draft 2 u_4.1) 3 u_10.1)))) (w2 := (ce_X7 kA q_this q_this_tokens q_this_draft (ss_I o_this 3 (1 : Int32)) ++ (ce_X10 kA q_this_tokens u_16.2 ++ (ce_X5 kA q_this_draft (ss_I (ss_I o_this_draft 2 u_4.1) 3 u_10.1))))) (fun H locs hP hD hS => ?_)
                have hP : va_P D vwCl (ce_X7 kA q_this q_this_tokens q_this_draft (ss_I o_this 3 (1 : Int32)) ++ (ce_X10 kA q_this_tokens u_16.2 ++ (ce_X5 kA q_this_draft (ss_I (ss_I o_this_draft 2 u_4.1) 3 u_10.1)))) H := hP
                refine va_put (D := D) (ci := 2) (v := .int u_16.1) (ty := .int) (C := RX5) (T := TX5) (N := 10) hx hb hUX5 (fun _ h9 => h9) tyX5 tyX5_ok nmX5 hown hK hP hD hS 6 rfl rfl 4 (by decide) (hts (Cond.fieldLink RX7 121 "ReliefBuilder$Panel" "base" "I") (List.mem_of_getElem? (i := 6) rfl)) (fun _ h9 => h9) rfl (tyX5_ok 4 (by decide)) rfl rfl (Nat.le_of_ble_eq_true rfl) dX7_readSteps_132 (fun H locs hP hD hS => ?_)
                have hP : va_P D vwCl (ce_X7 kA q_this q_this_tokens q_this_draft (ss_I o_this 3 (1 : Int32)) ++ (ce_X10 kA q_this_tokens u_16.2 ++ (ce_X5 kA q_this_draft (ss_I (ss_I (ss_I o_this_draft 2 u_4.1) 3 u_10.1) 4 u_16.1)))) H := hP
                have hD : va_D A (ce_X7 kA q_this q_this_tokens q_this_draft (ss_I o_this 3 (1 : Int32)) ++ (ce_X10 kA q_this_tokens u_16.2 ++ (ce_X5 kA q_this_draft (ss_I (ss_I (ss_I o_this_draft 2 u_4.1) 3 u_10.1) 4 u_16.1)))) := hD
                refine lv_aload_n hx hb dX7_readSteps_135 rfl (lv_at hl 0 rfl) ?_
                refine va_get (D := D) (ci := 4) (v := .ref (q_this_draft 0)) (C := RX7) (T := TX7) (N := 8) hx hb hUX7 (fun _ h9 => h9) hown hK hP 0 rfl rfl 1 (by decide) (hts (Cond.fieldLink RX7 15 "ReliefBuilder$ReliefText" "draft" "LReliefBuilder$Panel;") (List.mem_of_getElem? (i := 3) rfl)) (fun _ h9 => h9) rfl dX7_readSteps_136 ?_
                refine va_get (D := D) (ci := 2) (v := .int u_16.1) (C := RX5) (T := TX5) (N := 10) hx hb hUX5 (fun _ h9 => h9) hown hK hP 6 rfl rfl 4 (by decide) (hts (Cond.fieldLink RX7 121 "ReliefBuilder$Panel" "base" "I") (List.mem_of_getElem? (i := 6) rfl)) (fun _ h9 => h9) rfl dX7_readSteps_139 ?_
                refine lv_iconst (v := (-1)) hx hb dX7_readSteps_142 (by decide) ?_
                refine lv_icmp_eq (tgt := 150) hx hb dX7_readSteps_143 (by decide) (fun hc_18 => ?_) (fun hc_18 => ?_)
                · rw [if_pos hc_18] at hf
                  refine lv_iconst (v := 0) hx hb dX7_readSteps_150 (by decide) ?_
                  rw [← Option.some.inj hf]
                  exact mx_retz (v := 0) (Nat.le_of_ble_eq_true rfl) (Nat.le_of_ble_eq_true rfl) hx hb hr rfl hlk hP hK hD hS dX7_readSteps_151
                · rw [if_neg hc_18] at hf
                  refine lv_iconst (v := 1) hx hb dX7_readSteps_146 (by decide) ?_
                  refine lv_goto (tgt := 151) hx hb dX7_readSteps_147 (by decide) ?_
                  rw [← Option.some.inj hf]
                  exact mx_retz (v := 1) (Nat.le_of_ble_eq_true rfl) (Nat.le_of_ble_eq_true rfl) hx hb hr rfl hlk hP hK hD hS dX7_readSteps_151
              · rw [if_pos hc_15] at hf
                refine lv_iconst (v := 0) hx hb dX7_readSteps_111 (by decide) ?_
                rw [← Option.some.inj hf]
                exact mx_retz (v := 0) (Nat.le_of_ble_eq_true rfl) (Nat.le_of_ble_eq_true rfl) hx hb hr rfl hlk hP hK hD hS dX7_readSteps_112
        · rw [if_pos hc_9] at hf
          refine lv_iconst (v := 0) hx hb dX7_readSteps_68 (by decide) ?_
          rw [← Option.some.inj hf]
          exact mx_retz (v := 0) (Nat.le_of_ble_eq_true rfl) (Nat.le_of_ble_eq_true rfl) hx hb hr rfl hlk hP hK hD hS dX7_readSteps_69
  · rw [if_neg hc_1] at hf
    refine lv_aload_n hx hb dX7_readSteps_7 rfl (lv_at hl 0 rfl) ?_
    refine va_get (D := D) (ci := 4) (v := .ref (q_this_tokens 0)) (C := RX7) (T := TX7) (N := 8) hx hb hUX7 (fun _ h9 => h9) hown hK hP 0 rfl rfl 0 (by decide) (hts (Cond.fieldLink RX7 9 "ReliefBuilder$ReliefText" "tokens" "LReliefBuilder$Tokens;") (List.mem_of_getElem? (i := 2) rfl)) (fun _ h9 => h9) rfl dX7_readSteps_8 ?_
    refine lv_iconst (v := 3) hx hb dX7_readSteps_11 (by decide) ?_
    obtain ⟨u_19, he_20, hf⟩ := os_bd hf
    refine mc_callV ⟨hx, hb, hml, hown, hts⟩ (mm_X10_fail l D kA N q_this_tokens o_this_tokens (3 : Int32) u_19 he_20) (cwV 1 hts gX7_readSteps_X10_fail rfl rfl rfl (by decide +kernel) ⟨Nat.le_of_ble_eq_true rfl, Nat.le_of_ble_eq_true rfl⟩) (wc := (ce_X10 kA q_this_tokens o_this_tokens)) (ci := 6) (q0 := 0) rfl rfl rfl hl.1 (As := [.int (3 : Int32)]) (rest := []) rfl (Nat.le_of_ble_eq_true rfl) dX7_readSteps_12 ⟨Nat.le_of_ble_eq_true rfl, Nat.le_of_ble_eq_true rfl⟩ hK hP hD hS hA [1, 2, 3, 4, 5] [0, 6, 7, 8, 9] [0, 5, 6, 7, 8, 9, 1, 2, 3, 4] rfl (by decide) rfl (by decide) (by decide) rfl (by decide) (wr := (ce_X7 kA q_this q_this_tokens q_this_draft o_this ++ (ce_X5 kA q_this_draft o_this_draft))) (w2 := (ce_X7 kA q_this q_this_tokens q_this_draft o_this ++ (ce_X10 kA q_this_tokens u_19.2 ++ (ce_X5 kA q_this_draft o_this_draft)))) (fun H locs hP hD hS => ?_)
    have hP : va_P D vwCl (ce_X7 kA q_this q_this_tokens q_this_draft o_this ++ (ce_X10 kA q_this_tokens u_19.2 ++ (ce_X5 kA q_this_draft o_this_draft))) H := hP
    obtain ⟨hz_21, hf⟩ := os_if hf
    rw [← Option.some.inj hf]
    exact mx_retz (Nat.le_of_ble_eq_true rfl) (Nat.le_of_ble_eq_true rfl) hx hb hr (os_z_n hz_21) hlk hP hK hD hS dX7_readSteps_15
def ff_X7_readWall (N : Nat) (o_this : os_T) (o_this_tokens : os_T) (o_this_draft : os_T) : Option (Int32 × os_T × os_T × os_T) :=
  (if (os_I o_this 4) = 0 then ((ff_X10_advance N o_this_tokens).bind fun u_2 => ((ff_X10_takeNumber N u_2 (1 : Int32) (4 : Int32)).bind fun u_4 => (if u_4.1 = (-1 : Int32) then some ((0 : Int32), ss_I o_this 4 (1 : Int32), u_4.2, ss_I o_this_draft 5 u_4.1) else some ((1 : Int32), ss_I o_this 4 (1 : Int32), u_4.2, ss_I o_this_draft 5 u_4.1)))) else ((ff_X10_fail N o_this_tokens (3 : Int32)).bind fun u_7 => (if os_z u_7.1 then some (u_7.1, o_this, u_7.2, o_this_draft) else none)))
set_option maxHeartbeats 4000000 in
set_option maxRecDepth 100000 in
theorem mm_X7_readWall (l : Launch) (D : va_G) (kA : Nat → ClassId) (N : Nat) (q_this : Nat → Nat) (q_this_tokens : Nat → Nat) (q_this_draft : Nat → Nat) (o_this : os_T) (o_this_tokens : os_T) (o_this_draft : os_T) (out : (Int32 × os_T × os_T × os_T)) (hf : ff_X7_readWall N o_this o_this_tokens o_this_draft = some out) : mc_C l D kA yX7_readWall wsX7_readWall ({ frames := 2, cells := 0, slots := 0, locals := 45 } : Room) [.ref (q_this 0)] (ce_X7 kA q_this q_this_tokens q_this_draft o_this ++ (ce_X10 kA q_this_tokens o_this_tokens ++ (ce_X5 kA q_this_draft o_this_draft))) (some (.int out.1)) (ce_X7 kA q_this q_this_tokens q_this_draft out.2.1 ++ (ce_X10 kA q_this_tokens out.2.2.1 ++ (ce_X5 kA q_this_draft out.2.2.2))) := by
  refine mc_of (cc := cX7_readWall) (maxL := 1) (ret := (some .boolean)) (by decide) rfl (Nat.le_of_ble_eq_true rfl) ?_
  intro p e s m below meth c A B hD hP hS ls hl
  obtain ⟨hx, hb, hr, hlk, hml, hown, hts, hK, hA, hnm⟩ := B
  have hown : s.vm.findClass RX7 = some m.cls := hown
  have hl : lv_has ls 1 [(0, .ref (q_this 0))] := hl
  have hUX5 : ∀ w ∈ u_ws RX5 TX5 10, w.before [.ref (q_this 0)].toArray s = true := fun w h => hts w (List.mem_cons_of_mem _ (List.mem_append_left _ (List.mem_append_right _ h)))
  have hUX7 : ∀ w ∈ u_ws RX7 TX7 8, w.before [.ref (q_this 0)].toArray s = true := fun w h => hts w (List.mem_cons_of_mem _ (List.mem_append_left _ (List.mem_append_left _ (List.mem_append_right _ h))))
  unfold ff_X7_readWall at hf
  refine lv_aload_n hx hb dX7_readWall_0 rfl (lv_at hl 0 rfl) ?_
  refine va_get (D := D) (ci := 4) (v := .int (os_I o_this 4)) (C := RX7) (T := TX7) (N := 8) hx hb hUX7 (fun _ h9 => h9) hown hK hP 0 rfl rfl 4 (by decide) (hts (Cond.fieldLink RX7 31 "ReliefBuilder$ReliefText" "hasWall" "Z") (List.mem_of_getElem? (i := 1) rfl)) (fun _ h9 => h9) rfl dX7_readWall_1 ?_
  refine lv_if_eq (tgt := 16) hx hb dX7_readWall_4 (by decide) (fun hc_1 => ?_) (fun hc_1 => ?_)
  · rw [if_pos hc_1] at hf
    refine lv_aload_n hx hb dX7_readWall_16 rfl (lv_at hl 0 rfl) ?_
    refine lv_iconst (v := 1) hx hb dX7_readWall_17 (by decide) ?_
    refine va_put (D := D) (ci := 4) (v := .int (1 : Int32)) (ty := .boolean) (C := RX7) (T := TX7) (N := 8) hx hb hUX7 (fun _ h9 => h9) tyX7 tyX7_ok nmX7 hown hK hP hD hS 0 rfl rfl 4 (by decide) (hts (Cond.fieldLink RX7 31 "ReliefBuilder$ReliefText" "hasWall" "Z") (List.mem_of_getElem? (i := 1) rfl)) (fun _ h9 => h9) rfl (tyX7_ok 4 (by decide)) rfl rfl (Nat.le_of_ble_eq_true rfl) dX7_readWall_18 (fun H locs hP hD hS => ?_)
    have hP : va_P D vwCl (ce_X7 kA q_this q_this_tokens q_this_draft (ss_I o_this 4 (1 : Int32)) ++ (ce_X10 kA q_this_tokens o_this_tokens ++ (ce_X5 kA q_this_draft o_this_draft))) H := hP
    have hD : va_D A (ce_X7 kA q_this q_this_tokens q_this_draft (ss_I o_this 4 (1 : Int32)) ++ (ce_X10 kA q_this_tokens o_this_tokens ++ (ce_X5 kA q_this_draft o_this_draft))) := hD
    refine lv_aload_n hx hb dX7_readWall_21 rfl (lv_at hl 0 rfl) ?_
    refine va_get (D := D) (ci := 4) (v := .ref (q_this_tokens 0)) (C := RX7) (T := TX7) (N := 8) hx hb hUX7 (fun _ h9 => h9) hown hK hP 0 rfl rfl 0 (by decide) (hts (Cond.fieldLink RX7 9 "ReliefBuilder$ReliefText" "tokens" "LReliefBuilder$Tokens;") (List.mem_of_getElem? (i := 2) rfl)) (fun _ h9 => h9) rfl dX7_readWall_22 ?_
    obtain ⟨u_2, he_3, hf⟩ := os_bd hf
    refine mc_callV ⟨hx, hb, hml, hown, hts⟩ (mm_X10_advance l D kA N q_this_tokens o_this_tokens u_2 he_3) (cwV 0 hts gX7_readWall_X10_advance rfl rfl rfl (by decide +kernel) ⟨Nat.le_of_ble_eq_true rfl, Nat.le_of_ble_eq_true rfl⟩) (wc := (ce_X10 kA q_this_tokens o_this_tokens)) (ci := 6) (q0 := 0) rfl rfl rfl hl.1 (As := []) (rest := []) rfl (Nat.le_of_ble_eq_true rfl) dX7_readWall_25 ⟨Nat.le_of_ble_eq_true rfl, Nat.le_of_ble_eq_true rfl⟩ hK hP hD hS hA [1, 2, 3, 4, 5] [0, 6, 7, 8, 9] [0, 5, 6, 7, 8, 9, 1, 2, 3, 4] rfl (by decide) rfl (by decide) (by decide) rfl (by decide) (wr := (ce_X7 kA q_this q_this_tokens q_this_draft (ss_I o_this 4 (1 : Int32)) ++ (ce_X5 kA q_this_draft o_this_draft))) (w2 := (ce_X7 kA q_this q_this_tokens q_this_draft (ss_I o_this 4 (1 : Int32)) ++ (ce_X10 kA q_this_tokens u_2 ++ (ce_X5 kA q_this_draft o_this_draft)))) (fun H locs hP hD hS => ?_)
    have hP : va_P D vwCl (ce_X7 kA q_this q_this_tokens q_this_draft (ss_I o_this 4 (1 : Int32)) ++ (ce_X10 kA q_this_tokens u_2 ++ (ce_X5 kA q_this_draft o_this_draft))) H := hP
    refine lv_aload_n hx hb dX7_readWall_28 rfl (lv_at hl 0 rfl) ?_
    refine va_get (D := D) (ci := 4) (v := .ref (q_this_draft 0)) (C := RX7) (T := TX7) (N := 8) hx hb hUX7 (fun _ h9 => h9) hown hK hP 0 rfl rfl 1 (by decide) (hts (Cond.fieldLink RX7 15 "ReliefBuilder$ReliefText" "draft" "LReliefBuilder$Panel;") (List.mem_of_getElem? (i := 3) rfl)) (fun _ h9 => h9) rfl dX7_readWall_29 ?_
    refine lv_aload_n hx hb dX7_readWall_32 rfl (lv_at hl 0 rfl) ?_
    refine va_get (D := D) (ci := 4) (v := .ref (q_this_tokens 0)) (C := RX7) (T := TX7) (N := 8) hx hb hUX7 (fun _ h9 => h9) hown hK hP 0 rfl rfl 0 (by decide) (hts (Cond.fieldLink RX7 9 "ReliefBuilder$ReliefText" "tokens" "LReliefBuilder$Tokens;") (List.mem_of_getElem? (i := 2) rfl)) (fun _ h9 => h9) rfl dX7_readWall_33 ?_
    refine lv_iconst (v := 1) hx hb dX7_readWall_36 (by decide) ?_
    refine lv_iconst (v := 4) hx hb dX7_readWall_37 (by decide) ?_
    obtain ⟨u_4, he_5, hf⟩ := os_bd hf
    refine mc_callV ⟨hx, hb, hml, hown, hts⟩ (mm_X10_takeNumber l D kA N q_this_tokens u_2 (1 : Int32) (4 : Int32) u_4 he_5) (cwV 2 hts gX7_readWall_X10_takeNumber rfl rfl rfl (by decide +kernel) ⟨Nat.le_of_ble_eq_true rfl, Nat.le_of_ble_eq_true rfl⟩) (wc := (ce_X10 kA q_this_tokens u_2)) (ci := 6) (q0 := 0) rfl rfl rfl hl.1 (As := [.int (1 : Int32), .int (4 : Int32)]) (rest := [.ref (q_this_draft 0)]) rfl (Nat.le_of_ble_eq_true rfl) dX7_readWall_38 ⟨Nat.le_of_ble_eq_true rfl, Nat.le_of_ble_eq_true rfl⟩ hK hP hD hS hA [1, 2, 3, 4, 5] [0, 6, 7, 8, 9] [0, 5, 6, 7, 8, 9, 1, 2, 3, 4] rfl (by decide) rfl (by decide) (by decide) rfl (by decide) (wr := (ce_X7 kA q_this q_this_tokens q_this_draft (ss_I o_this 4 (1 : Int32)) ++ (ce_X5 kA q_this_draft o_this_draft))) (w2 := (ce_X7 kA q_this q_this_tokens q_this_draft (ss_I o_this 4 (1 : Int32)) ++ (ce_X10 kA q_this_tokens u_4.2 ++ (ce_X5 kA q_this_draft o_this_draft)))) (fun H locs hP hD hS => ?_)
    have hP : va_P D vwCl (ce_X7 kA q_this q_this_tokens q_this_draft (ss_I o_this 4 (1 : Int32)) ++ (ce_X10 kA q_this_tokens u_4.2 ++ (ce_X5 kA q_this_draft o_this_draft))) H := hP
    refine va_put (D := D) (ci := 2) (v := .int u_4.1) (ty := .int) (C := RX5) (T := TX5) (N := 10) hx hb hUX5 (fun _ h9 => h9) tyX5 tyX5_ok nmX5 hown hK hP hD hS 6 rfl rfl 5 (by decide) (hts (Cond.fieldLink RX7 123 "ReliefBuilder$Panel" "wall" "I") (List.mem_of_getElem? (i := 4) rfl)) (fun _ h9 => h9) rfl (tyX5_ok 5 (by decide)) rfl rfl (Nat.le_of_ble_eq_true rfl) dX7_readWall_41 (fun H locs hP hD hS => ?_)
    have hP : va_P D vwCl (ce_X7 kA q_this q_this_tokens q_this_draft (ss_I o_this 4 (1 : Int32)) ++ (ce_X10 kA q_this_tokens u_4.2 ++ (ce_X5 kA q_this_draft (ss_I o_this_draft 5 u_4.1)))) H := hP
    have hD : va_D A (ce_X7 kA q_this q_this_tokens q_this_draft (ss_I o_this 4 (1 : Int32)) ++ (ce_X10 kA q_this_tokens u_4.2 ++ (ce_X5 kA q_this_draft (ss_I o_this_draft 5 u_4.1)))) := hD
    refine lv_aload_n hx hb dX7_readWall_44 rfl (lv_at hl 0 rfl) ?_
    refine va_get (D := D) (ci := 4) (v := .ref (q_this_draft 0)) (C := RX7) (T := TX7) (N := 8) hx hb hUX7 (fun _ h9 => h9) hown hK hP 0 rfl rfl 1 (by decide) (hts (Cond.fieldLink RX7 15 "ReliefBuilder$ReliefText" "draft" "LReliefBuilder$Panel;") (List.mem_of_getElem? (i := 3) rfl)) (fun _ h9 => h9) rfl dX7_readWall_45 ?_
    refine va_get (D := D) (ci := 2) (v := .int u_4.1) (C := RX5) (T := TX5) (N := 10) hx hb hUX5 (fun _ h9 => h9) hown hK hP 6 rfl rfl 5 (by decide) (hts (Cond.fieldLink RX7 123 "ReliefBuilder$Panel" "wall" "I") (List.mem_of_getElem? (i := 4) rfl)) (fun _ h9 => h9) rfl dX7_readWall_48 ?_
    refine lv_iconst (v := (-1)) hx hb dX7_readWall_51 (by decide) ?_
    refine lv_icmp_eq (tgt := 59) hx hb dX7_readWall_52 (by decide) (fun hc_6 => ?_) (fun hc_6 => ?_)
    · rw [if_pos hc_6] at hf
      refine lv_iconst (v := 0) hx hb dX7_readWall_59 (by decide) ?_
      rw [← Option.some.inj hf]
      exact mc_retz (v := 0) hx hb hr rfl hlk hP hK hD hS dX7_readWall_60
    · rw [if_neg hc_6] at hf
      refine lv_iconst (v := 1) hx hb dX7_readWall_55 (by decide) ?_
      refine lv_goto (tgt := 60) hx hb dX7_readWall_56 (by decide) ?_
      rw [← Option.some.inj hf]
      exact mc_retz (v := 1) hx hb hr rfl hlk hP hK hD hS dX7_readWall_60
  · rw [if_neg hc_1] at hf
    refine lv_aload_n hx hb dX7_readWall_7 rfl (lv_at hl 0 rfl) ?_
    refine va_get (D := D) (ci := 4) (v := .ref (q_this_tokens 0)) (C := RX7) (T := TX7) (N := 8) hx hb hUX7 (fun _ h9 => h9) hown hK hP 0 rfl rfl 0 (by decide) (hts (Cond.fieldLink RX7 9 "ReliefBuilder$ReliefText" "tokens" "LReliefBuilder$Tokens;") (List.mem_of_getElem? (i := 2) rfl)) (fun _ h9 => h9) rfl dX7_readWall_8 ?_
    refine lv_iconst (v := 3) hx hb dX7_readWall_11 (by decide) ?_
    obtain ⟨u_7, he_8, hf⟩ := os_bd hf
    refine mc_callV ⟨hx, hb, hml, hown, hts⟩ (mm_X10_fail l D kA N q_this_tokens o_this_tokens (3 : Int32) u_7 he_8) (cwV 1 hts gX7_readWall_X10_fail rfl rfl rfl (by decide +kernel) ⟨Nat.le_of_ble_eq_true rfl, Nat.le_of_ble_eq_true rfl⟩) (wc := (ce_X10 kA q_this_tokens o_this_tokens)) (ci := 6) (q0 := 0) rfl rfl rfl hl.1 (As := [.int (3 : Int32)]) (rest := []) rfl (Nat.le_of_ble_eq_true rfl) dX7_readWall_12 ⟨Nat.le_of_ble_eq_true rfl, Nat.le_of_ble_eq_true rfl⟩ hK hP hD hS hA [1, 2, 3, 4, 5] [0, 6, 7, 8, 9] [0, 5, 6, 7, 8, 9, 1, 2, 3, 4] rfl (by decide) rfl (by decide) (by decide) rfl (by decide) (wr := (ce_X7 kA q_this q_this_tokens q_this_draft o_this ++ (ce_X5 kA q_this_draft o_this_draft))) (w2 := (ce_X7 kA q_this q_this_tokens q_this_draft o_this ++ (ce_X10 kA q_this_tokens u_7.2 ++ (ce_X5 kA q_this_draft o_this_draft)))) (fun H locs hP hD hS => ?_)
    have hP : va_P D vwCl (ce_X7 kA q_this q_this_tokens q_this_draft o_this ++ (ce_X10 kA q_this_tokens u_7.2 ++ (ce_X5 kA q_this_draft o_this_draft))) H := hP
    obtain ⟨hz_9, hf⟩ := os_if hf
    rw [← Option.some.inj hf]
    exact mc_retz hx hb hr (os_z_n hz_9) hlk hP hK hD hS dX7_readWall_15
def ff_X7_readStatement (N : Nat) (o_this : os_T) (o_this_tokens : os_T) (o_this_draft : os_T) : Option (Nat × Int32 × os_T × os_T × os_T) :=
  ((ff_X10_isWord N o_this_tokens 12).bind fun u_1 => (if u_1.1 = 0 then (if u_1.2 = 0 then ((ff_X10_isWord N o_this_tokens 13).bind fun u_4 => (if u_4.1 = 0 then (if u_4.2 = 0 then ((ff_X10_isWord N o_this_tokens 14).bind fun u_7 => (if u_7.1 = 0 then (if u_7.2 = 0 then ((ff_X10_isWord N o_this_tokens 15).bind fun u_10 => (if u_10.1 = 0 then (if u_10.2 = 0 then ((ff_X10_isWord N o_this_tokens 16).bind fun u_13 => (if u_13.1 = 0 then (if u_13.2 = 0 then ((ff_X10_fail N o_this_tokens (1 : Int32)).bind fun u_16 => (if os_z u_16.1 then some (0, u_16.1, o_this, u_16.2, o_this_draft) else none)) else ((ff_X7_readRow N o_this o_this_tokens o_this_draft).bind fun u_19 => (if os_z u_19.1 then some (0, u_19.1, u_19.2.1, u_19.2.2.1, u_19.2.2.2) else none))) else some (u_13.1, (0 : Int32), o_this, o_this_tokens, o_this_draft))) else ((ff_X7_readSlope N o_this o_this_tokens o_this_draft).bind fun u_22 => (if os_z u_22.1 then some (0, u_22.1, u_22.2.1, u_22.2.2.1, u_22.2.2.2) else none))) else some (u_10.1, (0 : Int32), o_this, o_this_tokens, o_this_draft))) else ((ff_X7_readWall N o_this o_this_tokens o_this_draft).bind fun u_25 => (if os_z u_25.1 then some (0, u_25.1, u_25.2.1, u_25.2.2.1, u_25.2.2.2) else none))) else some (u_7.1, (0 : Int32), o_this, o_this_tokens, o_this_draft))) else ((ff_X7_readSteps N o_this o_this_tokens o_this_draft).bind fun u_28 => (if u_28.1 = 0 then (if os_z u_28.2.1 then some (0, u_28.2.1, u_28.2.2.1, u_28.2.2.2.1, u_28.2.2.2.2) else none) else some (u_28.1, (0 : Int32), u_28.2.2.1, u_28.2.2.2.1, u_28.2.2.2.2)))) else some (u_4.1, (0 : Int32), o_this, o_this_tokens, o_this_draft))) else ((ff_X7_readPanel N o_this o_this_tokens o_this_draft).bind fun u_31 => (if os_z u_31.1 then some (0, u_31.1, u_31.2.1, u_31.2.2.1, u_31.2.2.2) else none))) else some (u_1.1, (0 : Int32), o_this, o_this_tokens, o_this_draft)))
set_option maxHeartbeats 4000000 in
set_option maxRecDepth 100000 in
theorem mm_X7_readStatement (l : Launch) (hst : l.stackTraces = false) (zz : Nat → Nat → Nat) (D : va_G) (kA : Nat → ClassId) (N : Nat) (q_this : Nat → Nat) (q_this_tokens : Nat → Nat) (q_this_draft : Nat → Nat) (o_this : os_T) (o_this_tokens : os_T) (o_this_draft : os_T) (out : (Nat × Int32 × os_T × os_T × os_T)) (hf : ff_X7_readStatement N o_this o_this_tokens o_this_draft = some out) : mx_C l zz D kA yX7_readStatement wsX7_readStatement ({ frames := 7, cells := 0, slots := 0, locals := 148 } : Room) [.ref (q_this 0)] (ce_X7 kA q_this q_this_tokens q_this_draft o_this ++ (ce_X10 kA q_this_tokens o_this_tokens ++ (ce_X5 kA q_this_draft o_this_draft))) out.1 (some (.int out.2.1)) (ce_X7 kA q_this q_this_tokens q_this_draft out.2.2.1 ++ (ce_X10 kA q_this_tokens out.2.2.2.1 ++ (ce_X5 kA q_this_draft out.2.2.2.2))) := by
  refine mx_of (cc := cX7_readStatement) (maxL := 1) (ret := (some .boolean)) (by decide) rfl (Nat.le_of_ble_eq_true rfl) ?_
  intro p e s m below meth c A B hx0 hZ hD hP hS ls hl
  obtain ⟨hx, hb, hr, hlk, hml, hown, hts, hK, hA, hnm⟩ := B
  have hown : s.vm.findClass RX7 = some m.cls := hown
  have hl : lv_has ls 1 [(0, .ref (q_this 0))] := hl
  have hUX7 : ∀ w ∈ u_ws RX7 TX7 8, w.before [.ref (q_this 0)].toArray s = true := fun w h => hts w (List.mem_cons_of_mem _ (List.mem_append_left _ (List.mem_append_left _ (List.mem_append_right _ h))))
  unfold ff_X7_readStatement at hf
  refine lv_aload_n hx hb dX7_readStatement_0 rfl (lv_at hl 0 rfl) ?_
  refine va_get (D := D) (ci := 4) (v := .ref (q_this_tokens 0)) (C := RX7) (T := TX7) (N := 8) hx hb hUX7 (fun _ h9 => h9) hown hK hP 0 rfl rfl 0 (by decide) (hts (Cond.fieldLink RX7 9 "ReliefBuilder$ReliefText" "tokens" "LReliefBuilder$Tokens;") (List.mem_of_getElem? (i := 1) rfl)) (fun _ h9 => h9) rfl dX7_readStatement_1 ?_
  refine va_ldcS hx hb hown (hZ.2.2.2.2.2.2.2.2 0 (by decide)) dX7_readStatement_4 ?_
  obtain ⟨u_1, he_2, hf⟩ := os_bd hf
  refine mx_callV ⟨hx, hb, hml, hown, hts⟩ (mm_X10_isWord l hst zz D kA N q_this_tokens o_this_tokens 12 u_1 he_2) (cwV 1 hts gX7_readStatement_X10_isWord rfl rfl rfl (by decide +kernel) ⟨Nat.le_of_ble_eq_true rfl, Nat.le_of_ble_eq_true rfl⟩) (wc := (ce_X10 kA q_this_tokens o_this_tokens)) (ci := 6) (q0 := 0) rfl rfl rfl hl.1 (As := [.ref (zz 0 12)]) (rest := []) rfl (Nat.le_of_ble_eq_true rfl) dX7_readStatement_6 ⟨Nat.le_of_ble_eq_true rfl, Nat.le_of_ble_eq_true rfl⟩ hK hP hD hS hA hZ [1, 2, 3, 4, 5] [0, 6, 7, 8, 9] [0, 5, 6, 7, 8, 9, 1, 2, 3, 4] rfl (by decide) rfl (by decide) (by decide) rfl (by decide) (wr := (ce_X7 kA q_this q_this_tokens q_this_draft o_this ++ (ce_X5 kA q_this_draft o_this_draft))) (w2 := (ce_X7 kA q_this q_this_tokens q_this_draft o_this ++ (ce_X10 kA q_this_tokens o_this_tokens ++ (ce_X5 kA q_this_draft o_this_draft)))) (fun hx9 H locs q9 ce hP hD hS h91 h92 h93 => ?_) (fun hx9 H locs hP hD hS => ?_)
  · rw [if_neg hx9] at hf
    rw [← Option.some.inj hf]
    exact mx_out hx9 hx0 hlk hP hK hD hS h91 h92 h93 (Nat.le_of_ble_eq_true rfl) (Nat.le_of_ble_eq_true rfl)
  · rw [if_pos hx9] at hf
    refine W.widen (k := 0) (n := 0) (Nat.le_of_ble_eq_true rfl) (Nat.le_of_ble_eq_true rfl) ?_
    have hP : va_P D vwCl (ce_X7 kA q_this q_this_tokens q_this_draft o_this ++ (ce_X10 kA q_this_tokens o_this_tokens ++ (ce_X5 kA q_this_draft o_this_draft))) H := hP
    refine lv_if_eq (tgt := 17) hx hb dX7_readStatement_9 (by decide) (fun hc_3 => ?_) (fun hc_3 => ?_)
    · rw [if_pos hc_3] at hf
      refine lv_aload_n hx hb dX7_readStatement_17 rfl (lv_at hl 0 rfl) ?_
      refine va_get (D := D) (ci := 4) (v := .ref (q_this_tokens 0)) (C := RX7) (T := TX7) (N := 8) hx hb hUX7 (fun _ h9 => h9) hown hK hP 0 rfl rfl 0 (by decide) (hts (Cond.fieldLink RX7 9 "ReliefBuilder$ReliefText" "tokens" "LReliefBuilder$Tokens;") (List.mem_of_getElem? (i := 1) rfl)) (fun _ h9 => h9) rfl dX7_readStatement_18 ?_
      refine va_ldcS hx hb hown (hZ.2.2.2.2.2.2.2.2 1 (by decide)) dX7_readStatement_21 ?_
      obtain ⟨u_4, he_5, hf⟩ := os_bd hf
      refine mx_callV ⟨hx, hb, hml, hown, hts⟩ (mm_X10_isWord l hst zz D kA N q_this_tokens o_this_tokens 13 u_4 he_5) (cwV 1 hts gX7_readStatement_X10_isWord rfl rfl rfl (by decide +kernel) ⟨Nat.le_of_ble_eq_true rfl, Nat.le_of_ble_eq_true rfl⟩) (wc := (ce_X10 kA q_this_tokens o_this_tokens)) (ci := 6) (q0 := 0) rfl rfl rfl hl.1 (As := [.ref (zz 0 13)]) (rest := []) rfl (Nat.le_of_ble_eq_true rfl) dX7_readStatement_23 ⟨Nat.le_of_ble_eq_true rfl, Nat.le_of_ble_eq_true rfl⟩ hK hP hD hS hA hZ [1, 2, 3, 4, 5] [0, 6, 7, 8, 9] [0, 5, 6, 7, 8, 9, 1, 2, 3, 4] rfl (by decide) rfl (by decide) (by decide) rfl (by decide) (wr := (ce_X7 kA q_this q_this_tokens q_this_draft o_this ++ (ce_X5 kA q_this_draft o_this_draft))) (w2 := (ce_X7 kA q_this q_this_tokens q_this_draft o_this ++ (ce_X10 kA q_this_tokens o_this_tokens ++ (ce_X5 kA q_this_draft o_this_draft)))) (fun hx9 H locs q9 ce hP hD hS h91 h92 h93 => ?_) (fun hx9 H locs hP hD hS => ?_)
      · rw [if_neg hx9] at hf
        rw [← Option.some.inj hf]
        exact mx_out hx9 hx0 hlk hP hK hD hS h91 h92 h93 (Nat.le_of_ble_eq_true rfl) (Nat.le_of_ble_eq_true rfl)
      · rw [if_pos hx9] at hf
        refine W.widen (k := 0) (n := 0) (Nat.le_of_ble_eq_true rfl) (Nat.le_of_ble_eq_true rfl) ?_
        have hP : va_P D vwCl (ce_X7 kA q_this q_this_tokens q_this_draft o_this ++ (ce_X10 kA q_this_tokens o_this_tokens ++ (ce_X5 kA q_this_draft o_this_draft))) H := hP
        refine lv_if_eq (tgt := 34) hx hb dX7_readStatement_26 (by decide) (fun hc_6 => ?_) (fun hc_6 => ?_)
        · rw [if_pos hc_6] at hf
          refine lv_aload_n hx hb dX7_readStatement_34 rfl (lv_at hl 0 rfl) ?_
          refine va_get (D := D) (ci := 4) (v := .ref (q_this_tokens 0)) (C := RX7) (T := TX7) (N := 8) hx hb hUX7 (fun _ h9 => h9) hown hK hP 0 rfl rfl 0 (by decide) (hts (Cond.fieldLink RX7 9 "ReliefBuilder$ReliefText" "tokens" "LReliefBuilder$Tokens;") (List.mem_of_getElem? (i := 1) rfl)) (fun _ h9 => h9) rfl dX7_readStatement_35 ?_
          refine va_ldcS hx hb hown (hZ.2.2.2.2.2.2.2.2 2 (by decide)) dX7_readStatement_38 ?_
          obtain ⟨u_7, he_8, hf⟩ := os_bd hf
          refine mx_callV ⟨hx, hb, hml, hown, hts⟩ (mm_X10_isWord l hst zz D kA N q_this_tokens o_this_tokens 14 u_7 he_8) (cwV 1 hts gX7_readStatement_X10_isWord rfl rfl rfl (by decide +kernel) ⟨Nat.le_of_ble_eq_true rfl, Nat.le_of_ble_eq_true rfl⟩) (wc := (ce_X10 kA q_this_tokens o_this_tokens)) (ci := 6) (q0 := 0) rfl rfl rfl hl.1 (As := [.ref (zz 0 14)]) (rest := []) rfl (Nat.le_of_ble_eq_true rfl) dX7_readStatement_40 ⟨Nat.le_of_ble_eq_true rfl, Nat.le_of_ble_eq_true rfl⟩ hK hP hD hS hA hZ [1, 2, 3, 4, 5] [0, 6, 7, 8, 9] [0, 5, 6, 7, 8, 9, 1, 2, 3, 4] rfl (by decide) rfl (by decide) (by decide) rfl (by decide) (wr := (ce_X7 kA q_this q_this_tokens q_this_draft o_this ++ (ce_X5 kA q_this_draft o_this_draft))) (w2 := (ce_X7 kA q_this q_this_tokens q_this_draft o_this ++ (ce_X10 kA q_this_tokens o_this_tokens ++ (ce_X5 kA q_this_draft o_this_draft)))) (fun hx9 H locs q9 ce hP hD hS h91 h92 h93 => ?_) (fun hx9 H locs hP hD hS => ?_)
          · rw [if_neg hx9] at hf
            rw [← Option.some.inj hf]
            exact mx_out hx9 hx0 hlk hP hK hD hS h91 h92 h93 (Nat.le_of_ble_eq_true rfl) (Nat.le_of_ble_eq_true rfl)
          · rw [if_pos hx9] at hf
            refine W.widen (k := 0) (n := 0) (Nat.le_of_ble_eq_true rfl) (Nat.le_of_ble_eq_true rfl) ?_
            have hP : va_P D vwCl (ce_X7 kA q_this q_this_tokens q_this_draft o_this ++ (ce_X10 kA q_this_tokens o_this_tokens ++ (ce_X5 kA q_this_draft o_this_draft))) H := hP
            refine lv_if_eq (tgt := 51) hx hb dX7_readStatement_43 (by decide) (fun hc_9 => ?_) (fun hc_9 => ?_)
            · rw [if_pos hc_9] at hf
              refine lv_aload_n hx hb dX7_readStatement_51 rfl (lv_at hl 0 rfl) ?_
              refine va_get (D := D) (ci := 4) (v := .ref (q_this_tokens 0)) (C := RX7) (T := TX7) (N := 8) hx hb hUX7 (fun _ h9 => h9) hown hK hP 0 rfl rfl 0 (by decide) (hts (Cond.fieldLink RX7 9 "ReliefBuilder$ReliefText" "tokens" "LReliefBuilder$Tokens;") (List.mem_of_getElem? (i := 1) rfl)) (fun _ h9 => h9) rfl dX7_readStatement_52 ?_
              refine va_ldcS hx hb hown (hZ.2.2.2.2.2.2.2.2 3 (by decide)) dX7_readStatement_55 ?_
              obtain ⟨u_10, he_11, hf⟩ := os_bd hf
              refine mx_callV ⟨hx, hb, hml, hown, hts⟩ (mm_X10_isWord l hst zz D kA N q_this_tokens o_this_tokens 15 u_10 he_11) (cwV 1 hts gX7_readStatement_X10_isWord rfl rfl rfl (by decide +kernel) ⟨Nat.le_of_ble_eq_true rfl, Nat.le_of_ble_eq_true rfl⟩) (wc := (ce_X10 kA q_this_tokens o_this_tokens)) (ci := 6) (q0 := 0) rfl rfl rfl hl.1 (As := [.ref (zz 0 15)]) (rest := []) rfl (Nat.le_of_ble_eq_true rfl) dX7_readStatement_57 ⟨Nat.le_of_ble_eq_true rfl, Nat.le_of_ble_eq_true rfl⟩ hK hP hD hS hA hZ [1, 2, 3, 4, 5] [0, 6, 7, 8, 9] [0, 5, 6, 7, 8, 9, 1, 2, 3, 4] rfl (by decide) rfl (by decide) (by decide) rfl (by decide) (wr := (ce_X7 kA q_this q_this_tokens q_this_draft o_this ++ (ce_X5 kA q_this_draft o_this_draft))) (w2 := (ce_X7 kA q_this q_this_tokens q_this_draft o_this ++ (ce_X10 kA q_this_tokens o_this_tokens ++ (ce_X5 kA q_this_draft o_this_draft)))) (fun hx9 H locs q9 ce hP hD hS h91 h92 h93 => ?_) (fun hx9 H locs hP hD hS => ?_)
              · rw [if_neg hx9] at hf
                rw [← Option.some.inj hf]
                exact mx_out hx9 hx0 hlk hP hK hD hS h91 h92 h93 (Nat.le_of_ble_eq_true rfl) (Nat.le_of_ble_eq_true rfl)
              · rw [if_pos hx9] at hf
                refine W.widen (k := 0) (n := 0) (Nat.le_of_ble_eq_true rfl) (Nat.le_of_ble_eq_true rfl) ?_
                have hP : va_P D vwCl (ce_X7 kA q_this q_this_tokens q_this_draft o_this ++ (ce_X10 kA q_this_tokens o_this_tokens ++ (ce_X5 kA q_this_draft o_this_draft))) H := hP
                refine lv_if_eq (tgt := 68) hx hb dX7_readStatement_60 (by decide) (fun hc_12 => ?_) (fun hc_12 => ?_)
                · rw [if_pos hc_12] at hf
                  refine lv_aload_n hx hb dX7_readStatement_68 rfl (lv_at hl 0 rfl) ?_
                  refine va_get (D := D) (ci := 4) (v := .ref (q_this_tokens 0)) (C := RX7) (T := TX7) (N := 8) hx hb hUX7 (fun _ h9 => h9) hown hK hP 0 rfl rfl 0 (by decide) (hts (Cond.fieldLink RX7 9 "ReliefBuilder$ReliefText" "tokens" "LReliefBuilder$Tokens;") (List.mem_of_getElem? (i := 1) rfl)) (fun _ h9 => h9) rfl dX7_readStatement_69 ?_
                  refine va_ldcS hx hb hown (hZ.2.2.2.2.2.2.2.2 4 (by decide)) dX7_readStatement_72 ?_
                  obtain ⟨u_13, he_14, hf⟩ := os_bd hf
                  refine mx_callV ⟨hx, hb, hml, hown, hts⟩ (mm_X10_isWord l hst zz D kA N q_this_tokens o_this_tokens 16 u_13 he_14) (cwV 1 hts gX7_readStatement_X10_isWord rfl rfl rfl (by decide +kernel) ⟨Nat.le_of_ble_eq_true rfl, Nat.le_of_ble_eq_true rfl⟩) (wc := (ce_X10 kA q_this_tokens o_this_tokens)) (ci := 6) (q0 := 0) rfl rfl rfl hl.1 (As := [.ref (zz 0 16)]) (rest := []) rfl (Nat.le_of_ble_eq_true rfl) dX7_readStatement_74 ⟨Nat.le_of_ble_eq_true rfl, Nat.le_of_ble_eq_true rfl⟩ hK hP hD hS hA hZ [1, 2, 3, 4, 5] [0, 6, 7, 8, 9] [0, 5, 6, 7, 8, 9, 1, 2, 3, 4] rfl (by decide) rfl (by decide) (by decide) rfl (by decide) (wr := (ce_X7 kA q_this q_this_tokens q_this_draft o_this ++ (ce_X5 kA q_this_draft o_this_draft))) (w2 := (ce_X7 kA q_this q_this_tokens q_this_draft o_this ++ (ce_X10 kA q_this_tokens o_this_tokens ++ (ce_X5 kA q_this_draft o_this_draft)))) (fun hx9 H locs q9 ce hP hD hS h91 h92 h93 => ?_) (fun hx9 H locs hP hD hS => ?_)
                  · rw [if_neg hx9] at hf
                    rw [← Option.some.inj hf]
                    exact mx_out hx9 hx0 hlk hP hK hD hS h91 h92 h93 (Nat.le_of_ble_eq_true rfl) (Nat.le_of_ble_eq_true rfl)
                  · rw [if_pos hx9] at hf
                    refine W.widen (k := 0) (n := 0) (Nat.le_of_ble_eq_true rfl) (Nat.le_of_ble_eq_true rfl) ?_
                    have hP : va_P D vwCl (ce_X7 kA q_this q_this_tokens q_this_draft o_this ++ (ce_X10 kA q_this_tokens o_this_tokens ++ (ce_X5 kA q_this_draft o_this_draft))) H := hP
                    refine lv_if_eq (tgt := 85) hx hb dX7_readStatement_77 (by decide) (fun hc_15 => ?_) (fun hc_15 => ?_)
                    · rw [if_pos hc_15] at hf
                      refine lv_aload_n hx hb dX7_readStatement_85 rfl (lv_at hl 0 rfl) ?_
                      refine va_get (D := D) (ci := 4) (v := .ref (q_this_tokens 0)) (C := RX7) (T := TX7) (N := 8) hx hb hUX7 (fun _ h9 => h9) hown hK hP 0 rfl rfl 0 (by decide) (hts (Cond.fieldLink RX7 9 "ReliefBuilder$ReliefText" "tokens" "LReliefBuilder$Tokens;") (List.mem_of_getElem? (i := 1) rfl)) (fun _ h9 => h9) rfl dX7_readStatement_86 ?_
                      refine lv_iconst (v := 1) hx hb dX7_readStatement_89 (by decide) ?_
                      obtain ⟨u_16, he_17, hf⟩ := os_bd hf
                      refine mc_callV ⟨hx, hb, hml, hown, hts⟩ (mm_X10_fail l D kA N q_this_tokens o_this_tokens (1 : Int32) u_16 he_17) (cwV 1 hts gX7_readStatement_X10_fail rfl rfl rfl (by decide +kernel) ⟨Nat.le_of_ble_eq_true rfl, Nat.le_of_ble_eq_true rfl⟩) (wc := (ce_X10 kA q_this_tokens o_this_tokens)) (ci := 6) (q0 := 0) rfl rfl rfl hl.1 (As := [.int (1 : Int32)]) (rest := []) rfl (Nat.le_of_ble_eq_true rfl) dX7_readStatement_90 ⟨Nat.le_of_ble_eq_true rfl, Nat.le_of_ble_eq_true rfl⟩ hK hP hD hS hA [1, 2, 3, 4, 5] [0, 6, 7, 8, 9] [0, 5, 6, 7, 8, 9, 1, 2, 3, 4] rfl (by decide) rfl (by decide) (by decide) rfl (by decide) (wr := (ce_X7 kA q_this q_this_tokens q_this_draft o_this ++ (ce_X5 kA q_this_draft o_this_draft))) (w2 := (ce_X7 kA q_this q_this_tokens q_this_draft o_this ++ (ce_X10 kA q_this_tokens u_16.2 ++ (ce_X5 kA q_this_draft o_this_draft)))) (fun H locs hP hD hS => ?_)
                      have hP : va_P D vwCl (ce_X7 kA q_this q_this_tokens q_this_draft o_this ++ (ce_X10 kA q_this_tokens u_16.2 ++ (ce_X5 kA q_this_draft o_this_draft))) H := hP
                      obtain ⟨hz_18, hf⟩ := os_if hf
                      rw [← Option.some.inj hf]
                      exact mx_retz (Nat.le_of_ble_eq_true rfl) (Nat.le_of_ble_eq_true rfl) hx hb hr (os_z_n hz_18) hlk hP hK hD hS dX7_readStatement_93
                    · rw [if_neg hc_15] at hf
                      refine lv_aload_n hx hb dX7_readStatement_80 rfl (lv_at hl 0 rfl) ?_
                      obtain ⟨u_19, he_20, hf⟩ := os_bd hf
                      refine mc_callV ⟨hx, hb, hml, hown, hts⟩ (mm_X7_readRow l D kA N q_this q_this_tokens q_this_draft o_this o_this_tokens o_this_draft u_19 he_20) (cwV 0 hts gX7_readStatement_X7_readRow rfl rfl rfl (by decide +kernel) ⟨Nat.le_of_ble_eq_true rfl, Nat.le_of_ble_eq_true rfl⟩) (wc := (ce_X7 kA q_this q_this_tokens q_this_draft o_this ++ (ce_X10 kA q_this_tokens o_this_tokens ++ (ce_X5 kA q_this_draft o_this_draft)))) (ci := 4) (q0 := 0) rfl rfl rfl hl.1 (As := []) (rest := []) rfl (Nat.le_of_ble_eq_true rfl) dX7_readStatement_81 ⟨Nat.le_of_ble_eq_true rfl, Nat.le_of_ble_eq_true rfl⟩ hK hP hD hS hA [0, 1, 2, 3, 4, 5, 6, 7, 8, 9] [] [0, 1, 2, 3, 4, 5, 6, 7, 8, 9] rfl (by decide) rfl (by decide) (by decide) rfl (by decide) (wr := []) (w2 := (ce_X7 kA q_this q_this_tokens q_this_draft u_19.2.1 ++ (ce_X10 kA q_this_tokens u_19.2.2.1 ++ (ce_X5 kA q_this_draft u_19.2.2.2)))) (fun H locs hP hD hS => ?_)
                      have hP : va_P D vwCl (ce_X7 kA q_this q_this_tokens q_this_draft u_19.2.1 ++ (ce_X10 kA q_this_tokens u_19.2.2.1 ++ (ce_X5 kA q_this_draft u_19.2.2.2))) H := hP
                      obtain ⟨hz_21, hf⟩ := os_if hf
                      rw [← Option.some.inj hf]
                      exact mx_retz (Nat.le_of_ble_eq_true rfl) (Nat.le_of_ble_eq_true rfl) hx hb hr (os_z_n hz_21) hlk hP hK hD hS dX7_readStatement_84
                · rw [if_neg hc_12] at hf
                  refine lv_aload_n hx hb dX7_readStatement_63 rfl (lv_at hl 0 rfl) ?_
                  obtain ⟨u_22, he_23, hf⟩ := os_bd hf
                  refine mc_callV ⟨hx, hb, hml, hown, hts⟩ (mm_X7_readSlope l D kA N q_this q_this_tokens q_this_draft o_this o_this_tokens o_this_draft u_22 he_23) (cwV 0 hts gX7_readStatement_X7_readSlope rfl rfl rfl (by decide +kernel) ⟨Nat.le_of_ble_eq_true rfl, Nat.le_of_ble_eq_true rfl⟩) (wc := (ce_X7 kA q_this q_this_tokens q_this_draft o_this ++ (ce_X10 kA q_this_tokens o_this_tokens ++ (ce_X5 kA q_this_draft o_this_draft)))) (ci := 4) (q0 := 0) rfl rfl rfl hl.1 (As := []) (rest := []) rfl (Nat.le_of_ble_eq_true rfl) dX7_readStatement_64 ⟨Nat.le_of_ble_eq_true rfl, Nat.le_of_ble_eq_true rfl⟩ hK hP hD hS hA [0, 1, 2, 3, 4, 5, 6, 7, 8, 9] [] [0, 1, 2, 3, 4, 5, 6, 7, 8, 9] rfl (by decide) rfl (by decide) (by decide) rfl (by decide) (wr := []) (w2 := (ce_X7 kA q_this q_this_tokens q_this_draft u_22.2.1 ++ (ce_X10 kA q_this_tokens u_22.2.2.1 ++ (ce_X5 kA q_this_draft u_22.2.2.2)))) (fun H locs hP hD hS => ?_)
                  have hP : va_P D vwCl (ce_X7 kA q_this q_this_tokens q_this_draft u_22.2.1 ++ (ce_X10 kA q_this_tokens u_22.2.2.1 ++ (ce_X5 kA q_this_draft u_22.2.2.2))) H := hP
                  obtain ⟨hz_24, hf⟩ := os_if hf
                  rw [← Option.some.inj hf]
                  exact mx_retz (Nat.le_of_ble_eq_true rfl) (Nat.le_of_ble_eq_true rfl) hx hb hr (os_z_n hz_24) hlk hP hK hD hS dX7_readStatement_67
            · rw [if_neg hc_9] at hf
              refine lv_aload_n hx hb dX7_readStatement_46 rfl (lv_at hl 0 rfl) ?_
              obtain ⟨u_25, he_26, hf⟩ := os_bd hf
              refine mc_callV ⟨hx, hb, hml, hown, hts⟩ (mm_X7_readWall l D kA N q_this q_this_tokens q_this_draft o_this o_this_tokens o_this_draft u_25 he_26) (cwV 0 hts gX7_readStatement_X7_readWall rfl rfl rfl (by decide +kernel) ⟨Nat.le_of_ble_eq_true rfl, Nat.le_of_ble_eq_true rfl⟩) (wc := (ce_X7 kA q_this q_this_tokens q_this_draft o_this ++ (ce_X10 kA q_this_tokens o_this_tokens ++ (ce_X5 kA q_this_draft o_this_draft)))) (ci := 4) (q0 := 0) rfl rfl rfl hl.1 (As := []) (rest := []) rfl (Nat.le_of_ble_eq_true rfl) dX7_readStatement_47 ⟨Nat.le_of_ble_eq_true rfl, Nat.le_of_ble_eq_true rfl⟩ hK hP hD hS hA [0, 1, 2, 3, 4, 5, 6, 7, 8, 9] [] [0, 1, 2, 3, 4, 5, 6, 7, 8, 9] rfl (by decide) rfl (by decide) (by decide) rfl (by decide) (wr := []) (w2 := (ce_X7 kA q_this q_this_tokens q_this_draft u_25.2.1 ++ (ce_X10 kA q_this_tokens u_25.2.2.1 ++ (ce_X5 kA q_this_draft u_25.2.2.2)))) (fun H locs hP hD hS => ?_)
              have hP : va_P D vwCl (ce_X7 kA q_this q_this_tokens q_this_draft u_25.2.1 ++ (ce_X10 kA q_this_tokens u_25.2.2.1 ++ (ce_X5 kA q_this_draft u_25.2.2.2))) H := hP
              obtain ⟨hz_27, hf⟩ := os_if hf
              rw [← Option.some.inj hf]
              exact mx_retz (Nat.le_of_ble_eq_true rfl) (Nat.le_of_ble_eq_true rfl) hx hb hr (os_z_n hz_27) hlk hP hK hD hS dX7_readStatement_50
        · rw [if_neg hc_6] at hf
          refine lv_aload_n hx hb dX7_readStatement_29 rfl (lv_at hl 0 rfl) ?_
          obtain ⟨u_28, he_29, hf⟩ := os_bd hf
          refine mx_callV ⟨hx, hb, hml, hown, hts⟩ (mm_X7_readSteps l hst zz D kA N q_this q_this_tokens q_this_draft o_this o_this_tokens o_this_draft u_28 he_29) (cwV 0 hts gX7_readStatement_X7_readSteps rfl rfl rfl (by decide +kernel) ⟨Nat.le_of_ble_eq_true rfl, Nat.le_of_ble_eq_true rfl⟩) (wc := (ce_X7 kA q_this q_this_tokens q_this_draft o_this ++ (ce_X10 kA q_this_tokens o_this_tokens ++ (ce_X5 kA q_this_draft o_this_draft)))) (ci := 4) (q0 := 0) rfl rfl rfl hl.1 (As := []) (rest := []) rfl (Nat.le_of_ble_eq_true rfl) dX7_readStatement_30 ⟨Nat.le_of_ble_eq_true rfl, Nat.le_of_ble_eq_true rfl⟩ hK hP hD hS hA hZ [0, 1, 2, 3, 4, 5, 6, 7, 8, 9] [] [0, 1, 2, 3, 4, 5, 6, 7, 8, 9] rfl (by decide) rfl (by decide) (by decide) rfl (by decide) (wr := []) (w2 := (ce_X7 kA q_this q_this_tokens q_this_draft u_28.2.2.1 ++ (ce_X10 kA q_this_tokens u_28.2.2.2.1 ++ (ce_X5 kA q_this_draft u_28.2.2.2.2)))) (fun hx9 H locs q9 ce hP hD hS h91 h92 h93 => ?_) (fun hx9 H locs hP hD hS => ?_)
          · rw [if_neg hx9] at hf
            rw [← Option.some.inj hf]
            exact mx_out hx9 hx0 hlk hP hK hD hS h91 h92 h93 (Nat.le_of_ble_eq_true rfl) (Nat.le_of_ble_eq_true rfl)
          · rw [if_pos hx9] at hf
            refine W.widen (k := 0) (n := 0) (Nat.le_of_ble_eq_true rfl) (Nat.le_of_ble_eq_true rfl) ?_
            have hP : va_P D vwCl (ce_X7 kA q_this q_this_tokens q_this_draft u_28.2.2.1 ++ (ce_X10 kA q_this_tokens u_28.2.2.2.1 ++ (ce_X5 kA q_this_draft u_28.2.2.2.2))) H := hP
            obtain ⟨hz_30, hf⟩ := os_if hf
            rw [← Option.some.inj hf]
            exact mx_retz (Nat.le_of_ble_eq_true rfl) (Nat.le_of_ble_eq_true rfl) hx hb hr (os_z_n hz_30) hlk hP hK hD hS dX7_readStatement_33
    · rw [if_neg hc_3] at hf
      refine lv_aload_n hx hb dX7_readStatement_12 rfl (lv_at hl 0 rfl) ?_
      obtain ⟨u_31, he_32, hf⟩ := os_bd hf
      refine mc_callV ⟨hx, hb, hml, hown, hts⟩ (mm_X7_readPanel l D kA N q_this q_this_tokens q_this_draft o_this o_this_tokens o_this_draft u_31 he_32) (cwV 0 hts gX7_readStatement_X7_readPanel rfl rfl rfl (by decide +kernel) ⟨Nat.le_of_ble_eq_true rfl, Nat.le_of_ble_eq_true rfl⟩) (wc := (ce_X7 kA q_this q_this_tokens q_this_draft o_this ++ (ce_X10 kA q_this_tokens o_this_tokens ++ (ce_X5 kA q_this_draft o_this_draft)))) (ci := 4) (q0 := 0) rfl rfl rfl hl.1 (As := []) (rest := []) rfl (Nat.le_of_ble_eq_true rfl) dX7_readStatement_13 ⟨Nat.le_of_ble_eq_true rfl, Nat.le_of_ble_eq_true rfl⟩ hK hP hD hS hA [0, 1, 2, 3, 4, 5, 6, 7, 8, 9] [] [0, 1, 2, 3, 4, 5, 6, 7, 8, 9] rfl (by decide) rfl (by decide) (by decide) rfl (by decide) (wr := []) (w2 := (ce_X7 kA q_this q_this_tokens q_this_draft u_31.2.1 ++ (ce_X10 kA q_this_tokens u_31.2.2.1 ++ (ce_X5 kA q_this_draft u_31.2.2.2)))) (fun H locs hP hD hS => ?_)
      have hP : va_P D vwCl (ce_X7 kA q_this q_this_tokens q_this_draft u_31.2.1 ++ (ce_X10 kA q_this_tokens u_31.2.2.1 ++ (ce_X5 kA q_this_draft u_31.2.2.2))) H := hP
      obtain ⟨hz_33, hf⟩ := os_if hf
      rw [← Option.some.inj hf]
      exact mx_retz (Nat.le_of_ble_eq_true rfl) (Nat.le_of_ble_eq_true rfl) hx hb hr (os_z_n hz_33) hlk hP hK hD hS dX7_readStatement_16
def ff_X7_readDraft_b100 (N : Nat) (o_this : os_T) (o_this_tokens : os_T) (o_this_draft : os_T) : Option (Nat × Int32 × os_T × os_T × os_T) :=
  ((ff_X5_develop N o_this_draft).bind fun u_15 => some (0, (1 : Int32), o_this, o_this_tokens, u_15))
def ff_X7_readDraft_c46 (N : Nat) (k46 : (os_T × os_T × os_T × Int32) → Option (Nat × Int32 × os_T × os_T × os_T)) (o_this : os_T) (o_this_tokens : os_T) (o_this_draft : os_T) (x1 : Int32) : Option (Nat × Int32 × os_T × os_T × os_T) :=
  (if (900 : Int32) ≤ x1 then ff_X7_readDraft_b100 N o_this o_this_tokens o_this_draft else ((ff_X10_isAtEnd N o_this_tokens).bind fun u_6 => (if u_6 = 0 then ((ff_X7_readStatement N o_this o_this_tokens o_this_draft).bind fun u_9 => (if u_9.1 = 0 then (if u_9.2.1 = 0 then some (0, (0 : Int32), u_9.2.2.1, u_9.2.2.2.1, u_9.2.2.2.2) else ((ff_X10_takeSign N u_9.2.2.2.1 (59 : Int32)).bind fun u_12 => (if u_12.1 = 0 then some (0, (0 : Int32), u_9.2.2.1, u_12.2, u_9.2.2.2.2) else k46 (ss_I u_9.2.2.1 7 ((os_I u_9.2.2.1 7) + (1 : Int32)), u_12.2, u_9.2.2.2.2, x1 + 1)))) else some (u_9.1, (0 : Int32), u_9.2.2.1, u_9.2.2.2.1, u_9.2.2.2.2))) else ff_X7_readDraft_b100 N o_this o_this_tokens o_this_draft)))
def ff_X7_readDraft_l46 (N : Nat) : Nat → (os_T × os_T × os_T × Int32) → Option (Nat × Int32 × os_T × os_T × os_T) := os_loop (fun k46 s1 => ff_X7_readDraft_c46 N k46 s1.1 s1.2.1 s1.2.2.1 s1.2.2.2)
def ff_X7_readDraft (N : Nat) (o_this : os_T) (o_this_tokens : os_T) (o_this_draft : os_T) : Option (Nat × Int32 × os_T × os_T × os_T) :=
  ((ff_X5_clear N o_this_draft).bind fun u_1 => ((ff_X10_begin N o_this_tokens).bind fun u_3 => ff_X7_readDraft_l46 N N (ss_I (ss_I (ss_I (ss_I (ss_I (ss_I o_this 2 (0 : Int32)) 3 (0 : Int32)) 4 (0 : Int32)) 5 (0 : Int32)) 6 (0 : Int32)) 7 (0 : Int32), u_3, u_1, (0 : Int32))))
set_option maxHeartbeats 4000000 in
set_option maxRecDepth 100000 in
theorem mm_X7_readDraft (l : Launch) (hst : l.stackTraces = false) (zz : Nat → Nat → Nat) (D : va_G) (kA : Nat → ClassId) (N : Nat) (q_this : Nat → Nat) (q_this_tokens : Nat → Nat) (q_this_draft : Nat → Nat) (o_this : os_T) (o_this_tokens : os_T) (o_this_draft : os_T) (out : (Nat × Int32 × os_T × os_T × os_T)) (hf : ff_X7_readDraft N o_this o_this_tokens o_this_draft = some out) : mx_C l zz D kA yX7_readDraft wsX7_readDraft ({ frames := 8, cells := 0, slots := 0, locals := 168 } : Room) [.ref (q_this 0)] (ce_X7 kA q_this q_this_tokens q_this_draft o_this ++ (ce_X10 kA q_this_tokens o_this_tokens ++ (ce_X5 kA q_this_draft o_this_draft))) out.1 (some (.int out.2.1)) (ce_X7 kA q_this q_this_tokens q_this_draft out.2.2.1 ++ (ce_X10 kA q_this_tokens out.2.2.2.1 ++ (ce_X5 kA q_this_draft out.2.2.2.2))) := by
  refine mx_of (cc := cX7_readDraft) (maxL := 2) (ret := (some .boolean)) (by decide) rfl (Nat.le_of_ble_eq_true rfl) ?_
  intro p e s m below meth c A B hx0 hZ hD hP hS ls hl
  obtain ⟨hx, hb, hr, hlk, hml, hown, hts, hK, hA, hnm⟩ := B
  have hown : s.vm.findClass RX7 = some m.cls := hown
  have hl : lv_has ls 2 [(0, .ref (q_this 0))] := hl
  have hUX7 : ∀ w ∈ u_ws RX7 TX7 8, w.before [.ref (q_this 0)].toArray s = true := fun w h => hts w (List.mem_cons_of_mem _ (List.mem_append_left _ (List.mem_append_left _ (List.mem_append_right _ h))))
  have hB100 : ∀ (o_this : os_T) (o_this_tokens : os_T) (o_this_draft : os_T) (H : Heap) (locs : List Loc) (ls : Array Slot), va_P D vwCl (ce_X7 kA q_this q_this_tokens q_this_draft o_this ++ (ce_X10 kA q_this_tokens o_this_tokens ++ (ce_X5 kA q_this_draft o_this_draft))) H → va_D A (ce_X7 kA q_this q_this_tokens q_this_draft o_this ++ (ce_X10 kA q_this_tokens o_this_tokens ++ (ce_X5 kA q_this_draft o_this_draft))) → va_S A s.heap H locs → lv_has ls 2 [(0, .ref (q_this 0))] → ff_X7_readDraft_b100 N o_this o_this_tokens o_this_draft = some out → W p l e ({ frames := 8, cells := 0, slots := 0, locals := 168 } : Room) s m [.ref (q_this 0)].toArray below meth c H locs 0 0 (vx_MQ below (mx_Q D kA A out.1 (some (.int out.2.1)) (ce_X7 kA q_this q_this_tokens q_this_draft out.2.2.1 ++ (ce_X10 kA q_this_tokens out.2.2.2.1 ++ (ce_X5 kA q_this_draft out.2.2.2.2)))) (mx_X D kA A out.1 (ce_X7 kA q_this q_this_tokens q_this_draft out.2.2.1 ++ (ce_X10 kA q_this_tokens out.2.2.2.1 ++ (ce_X5 kA q_this_draft out.2.2.2.2)))) [.ref (q_this 0)].toArray s 0 0 A) (F0 m 100 ls []) := by
    intro o_this o_this_tokens o_this_draft H locs ls hP hD hS hl hf
    unfold ff_X7_readDraft_b100 at hf
    refine lv_aload_n hx hb dX7_readDraft_100 rfl (lv_at hl 0 rfl) ?_
    refine va_get (D := D) (ci := 4) (v := .ref (q_this_draft 0)) (C := RX7) (T := TX7) (N := 8) hx hb hUX7 (fun _ h9 => h9) hown hK hP 0 rfl rfl 1 (by decide) (hts (Cond.fieldLink RX7 15 "ReliefBuilder$ReliefText" "draft" "LReliefBuilder$Panel;") (List.mem_of_getElem? (i := 1) rfl)) (fun _ h9 => h9) rfl dX7_readDraft_101 ?_
    obtain ⟨u_15, he_16, hf⟩ := os_bd hf
    refine mc_callV ⟨hx, hb, hml, hown, hts⟩ (mm_X5_develop l D kA N q_this_draft o_this_draft u_15 he_16) (cwV 0 hts gX7_readDraft_X5_develop rfl rfl rfl (by decide +kernel) ⟨Nat.le_of_ble_eq_true rfl, Nat.le_of_ble_eq_true rfl⟩) (wc := (ce_X5 kA q_this_draft o_this_draft)) (ci := 2) (q0 := 0) rfl rfl rfl hl.1 (As := []) (rest := []) rfl (Nat.le_of_ble_eq_true rfl) dX7_readDraft_104 ⟨Nat.le_of_ble_eq_true rfl, Nat.le_of_ble_eq_true rfl⟩ hK hP hD hS hA [6, 7, 8, 9] [0, 1, 2, 3, 4, 5] [0, 1, 2, 3, 4, 5, 6, 7, 8, 9] rfl (by decide) rfl (by decide) (by decide) rfl (by decide) (wr := (ce_X7 kA q_this q_this_tokens q_this_draft o_this ++ (ce_X10 kA q_this_tokens o_this_tokens))) (w2 := (ce_X7 kA q_this q_this_tokens q_this_draft o_this ++ (ce_X10 kA q_this_tokens o_this_tokens ++ (ce_X5 kA q_this_draft u_15)))) (fun H locs hP hD hS => ?_)
    have hP : va_P D vwCl (ce_X7 kA q_this q_this_tokens q_this_draft o_this ++ (ce_X10 kA q_this_tokens o_this_tokens ++ (ce_X5 kA q_this_draft u_15))) H := hP
    refine lv_iconst (v := 1) hx hb dX7_readDraft_107 (by decide) ?_
    rw [← Option.some.inj hf]
    exact mx_retz (v := 1) (Nat.le_of_ble_eq_true rfl) (Nat.le_of_ble_eq_true rfl) hx hb hr rfl hlk hP hK hD hS dX7_readDraft_108
  have hL46 : ∀ (n : Nat) (o_this : os_T) (o_this_tokens : os_T) (o_this_draft : os_T) (x1 : Int32) (H : Heap) (locs : List Loc) (ls : Array Slot), va_P D vwCl (ce_X7 kA q_this q_this_tokens q_this_draft o_this ++ (ce_X10 kA q_this_tokens o_this_tokens ++ (ce_X5 kA q_this_draft o_this_draft))) H → va_D A (ce_X7 kA q_this q_this_tokens q_this_draft o_this ++ (ce_X10 kA q_this_tokens o_this_tokens ++ (ce_X5 kA q_this_draft o_this_draft))) → va_S A s.heap H locs → lv_has ls 2 [(0, .ref (q_this 0)), (1, .int x1)] → ff_X7_readDraft_l46 N n (o_this, o_this_tokens, o_this_draft, x1) = some out → W p l e ({ frames := 8, cells := 0, slots := 0, locals := 168 } : Room) s m [.ref (q_this 0)].toArray below meth c H locs 0 0 (vx_MQ below (mx_Q D kA A out.1 (some (.int out.2.1)) (ce_X7 kA q_this q_this_tokens q_this_draft out.2.2.1 ++ (ce_X10 kA q_this_tokens out.2.2.2.1 ++ (ce_X5 kA q_this_draft out.2.2.2.2)))) (mx_X D kA A out.1 (ce_X7 kA q_this q_this_tokens q_this_draft out.2.2.1 ++ (ce_X10 kA q_this_tokens out.2.2.2.1 ++ (ce_X5 kA q_this_draft out.2.2.2.2)))) [.ref (q_this 0)].toArray s 0 0 A) (F0 m 46 ls []) := by
    intro n
    induction n with
    | zero => intro o_this o_this_tokens o_this_draft x1 H locs ls _ _ _ _ hf; cases hf
    | succ n hk46 =>
      intro o_this o_this_tokens o_this_draft x1 H locs ls hP hD hS hl hf
      have hf : ff_X7_readDraft_c46 N (ff_X7_readDraft_l46 N n) o_this o_this_tokens o_this_draft x1 = some out := hf
      generalize hke : ff_X7_readDraft_l46 N n = k46 at hk46 hf
      unfold ff_X7_readDraft_c46 at hf
      refine lv_iload_n hx hb dX7_readDraft_46 rfl (lv_at hl 1 rfl) ?_
      refine lv_sipush (v := 900) hx hb dX7_readDraft_47 (by decide) ?_
      refine lv_icmp_ge (tgt := 100) hx hb dX7_readDraft_50 (by decide) (fun hc_5 => ?_) (fun hc_5 => ?_)
      · rw [if_pos hc_5] at hf
        exact hB100 o_this o_this_tokens o_this_draft _ _ _ hP hD hS (lv_sub hl [0] rfl) hf
      · rw [if_neg hc_5] at hf
        refine lv_aload_n hx hb dX7_readDraft_53 rfl (lv_at hl 0 rfl) ?_
        refine va_get (D := D) (ci := 4) (v := .ref (q_this_tokens 0)) (C := RX7) (T := TX7) (N := 8) hx hb hUX7 (fun _ h9 => h9) hown hK hP 0 rfl rfl 0 (by decide) (hts (Cond.fieldLink RX7 9 "ReliefBuilder$ReliefText" "tokens" "LReliefBuilder$Tokens;") (List.mem_of_getElem? (i := 8) rfl)) (fun _ h9 => h9) rfl dX7_readDraft_54 ?_
        obtain ⟨u_6, he_7, hf⟩ := os_bd hf
        refine mc_callV ⟨hx, hb, hml, hown, hts⟩ (mm_X10_isAtEnd l D kA N q_this_tokens o_this_tokens u_6 he_7) (cwV 0 hts gX7_readDraft_X10_isAtEnd rfl rfl rfl (by decide +kernel) ⟨Nat.le_of_ble_eq_true rfl, Nat.le_of_ble_eq_true rfl⟩) (wc := (ce_X10 kA q_this_tokens o_this_tokens)) (ci := 6) (q0 := 0) rfl rfl rfl hl.1 (As := []) (rest := []) rfl (Nat.le_of_ble_eq_true rfl) dX7_readDraft_57 ⟨Nat.le_of_ble_eq_true rfl, Nat.le_of_ble_eq_true rfl⟩ hK hP hD hS hA [1, 2, 3, 4, 5] [0, 6, 7, 8, 9] [0, 5, 6, 7, 8, 9, 1, 2, 3, 4] rfl (by decide) rfl (by decide) (by decide) rfl (by decide) (wr := (ce_X7 kA q_this q_this_tokens q_this_draft o_this ++ (ce_X5 kA q_this_draft o_this_draft))) (w2 := (ce_X7 kA q_this q_this_tokens q_this_draft o_this ++ (ce_X10 kA q_this_tokens o_this_tokens ++ (ce_X5 kA q_this_draft o_this_draft)))) (fun H locs hP hD hS => ?_)
        have hP : va_P D vwCl (ce_X7 kA q_this q_this_tokens q_this_draft o_this ++ (ce_X10 kA q_this_tokens o_this_tokens ++ (ce_X5 kA q_this_draft o_this_draft))) H := hP
        refine lv_if_ne (tgt := 100) hx hb dX7_readDraft_60 (by decide) (fun hc_8 => ?_) (fun hc_8 => ?_)
        · rw [if_neg hc_8] at hf
          exact hB100 o_this o_this_tokens o_this_draft _ _ _ hP hD hS (lv_sub hl [0] rfl) hf
        · rw [if_pos hc_8] at hf
          refine lv_aload_n hx hb dX7_readDraft_63 rfl (lv_at hl 0 rfl) ?_
          obtain ⟨u_9, he_10, hf⟩ := os_bd hf
          refine mx_callV ⟨hx, hb, hml, hown, hts⟩ (mm_X7_readStatement l hst zz D kA N q_this q_this_tokens q_this_draft o_this o_this_tokens o_this_draft u_9 he_10) (cwV 0 hts gX7_readDraft_X7_readStatement rfl rfl rfl (by decide +kernel) ⟨Nat.le_of_ble_eq_true rfl, Nat.le_of_ble_eq_true rfl⟩) (wc := (ce_X7 kA q_this q_this_tokens q_this_draft o_this ++ (ce_X10 kA q_this_tokens o_this_tokens ++ (ce_X5 kA q_this_draft o_this_draft)))) (ci := 4) (q0 := 0) rfl rfl rfl hl.1 (As := []) (rest := []) rfl (Nat.le_of_ble_eq_true rfl) dX7_readDraft_64 ⟨Nat.le_of_ble_eq_true rfl, Nat.le_of_ble_eq_true rfl⟩ hK hP hD hS hA hZ [0, 1, 2, 3, 4, 5, 6, 7, 8, 9] [] [0, 1, 2, 3, 4, 5, 6, 7, 8, 9] rfl (by decide) rfl (by decide) (by decide) rfl (by decide) (wr := []) (w2 := (ce_X7 kA q_this q_this_tokens q_this_draft u_9.2.2.1 ++ (ce_X10 kA q_this_tokens u_9.2.2.2.1 ++ (ce_X5 kA q_this_draft u_9.2.2.2.2)))) (fun hx9 H locs q9 ce hP hD hS h91 h92 h93 => ?_) (fun hx9 H locs hP hD hS => ?_)
          · rw [if_neg hx9] at hf
            rw [← Option.some.inj hf]
            exact mx_out hx9 hx0 hlk hP hK hD hS h91 h92 h93 (Nat.le_of_ble_eq_true rfl) (Nat.le_of_ble_eq_true rfl)
          · rw [if_pos hx9] at hf
            refine W.widen (k := 0) (n := 0) (Nat.le_of_ble_eq_true rfl) (Nat.le_of_ble_eq_true rfl) ?_
            have hP : va_P D vwCl (ce_X7 kA q_this q_this_tokens q_this_draft u_9.2.2.1 ++ (ce_X10 kA q_this_tokens u_9.2.2.2.1 ++ (ce_X5 kA q_this_draft u_9.2.2.2.2))) H := hP
            refine lv_if_eq (tgt := 82) hx hb dX7_readDraft_67 (by decide) (fun hc_11 => ?_) (fun hc_11 => ?_)
            · rw [if_pos hc_11] at hf
              refine lv_iconst (v := 0) hx hb dX7_readDraft_82 (by decide) ?_
              rw [← Option.some.inj hf]
              exact mx_retz (v := 0) (Nat.le_of_ble_eq_true rfl) (Nat.le_of_ble_eq_true rfl) hx hb hr rfl hlk hP hK hD hS dX7_readDraft_83
            · rw [if_neg hc_11] at hf
              refine lv_aload_n hx hb dX7_readDraft_70 rfl (lv_at hl 0 rfl) ?_
              refine va_get (D := D) (ci := 4) (v := .ref (q_this_tokens 0)) (C := RX7) (T := TX7) (N := 8) hx hb hUX7 (fun _ h9 => h9) hown hK hP 0 rfl rfl 0 (by decide) (hts (Cond.fieldLink RX7 9 "ReliefBuilder$ReliefText" "tokens" "LReliefBuilder$Tokens;") (List.mem_of_getElem? (i := 8) rfl)) (fun _ h9 => h9) rfl dX7_readDraft_71 ?_
              refine lv_bipush (v := 59) hx hb dX7_readDraft_74 (by decide) ?_
              obtain ⟨u_12, he_13, hf⟩ := os_bd hf
              refine mc_callV ⟨hx, hb, hml, hown, hts⟩ (mm_X10_takeSign l D kA N q_this_tokens u_9.2.2.2.1 (59 : Int32) u_12 he_13) (cwV 1 hts gX7_readDraft_X10_takeSign rfl rfl rfl (by decide +kernel) ⟨Nat.le_of_ble_eq_true rfl, Nat.le_of_ble_eq_true rfl⟩) (wc := (ce_X10 kA q_this_tokens u_9.2.2.2.1)) (ci := 6) (q0 := 0) rfl rfl rfl hl.1 (As := [.int (59 : Int32)]) (rest := []) rfl (Nat.le_of_ble_eq_true rfl) dX7_readDraft_76 ⟨Nat.le_of_ble_eq_true rfl, Nat.le_of_ble_eq_true rfl⟩ hK hP hD hS hA [1, 2, 3, 4, 5] [0, 6, 7, 8, 9] [0, 5, 6, 7, 8, 9, 1, 2, 3, 4] rfl (by decide) rfl (by decide) (by decide) rfl (by decide) (wr := (ce_X7 kA q_this q_this_tokens q_this_draft u_9.2.2.1 ++ (ce_X5 kA q_this_draft u_9.2.2.2.2))) (w2 := (ce_X7 kA q_this q_this_tokens q_this_draft u_9.2.2.1 ++ (ce_X10 kA q_this_tokens u_12.2 ++ (ce_X5 kA q_this_draft u_9.2.2.2.2)))) (fun H locs hP hD hS => ?_)
              have hP : va_P D vwCl (ce_X7 kA q_this q_this_tokens q_this_draft u_9.2.2.1 ++ (ce_X10 kA q_this_tokens u_12.2 ++ (ce_X5 kA q_this_draft u_9.2.2.2.2))) H := hP
              refine lv_if_ne (tgt := 84) hx hb dX7_readDraft_79 (by decide) (fun hc_14 => ?_) (fun hc_14 => ?_)
              · rw [if_neg hc_14] at hf
                refine lv_aload_n hx hb dX7_readDraft_84 rfl (lv_at hl 0 rfl) ?_
                refine lv_dup hx hb dX7_readDraft_85 rfl ?_
                refine va_get (D := D) (ci := 4) (v := .int (os_I u_9.2.2.1 7)) (C := RX7) (T := TX7) (N := 8) hx hb hUX7 (fun _ h9 => h9) hown hK hP 0 rfl rfl 7 (by decide) (hts (Cond.fieldLink RX7 41 "ReliefBuilder$ReliefText" "statements" "I") (List.mem_of_getElem? (i := 7) rfl)) (fun _ h9 => h9) rfl dX7_readDraft_86 ?_
                refine lv_iconst (v := 1) hx hb dX7_readDraft_89 (by decide) ?_
                refine lv_iadd hx hb dX7_readDraft_90 ?_
                refine va_put (D := D) (ci := 4) (v := .int ((os_I u_9.2.2.1 7) + (1 : Int32))) (ty := .int) (C := RX7) (T := TX7) (N := 8) hx hb hUX7 (fun _ h9 => h9) tyX7 tyX7_ok nmX7 hown hK hP hD hS 0 rfl rfl 7 (by decide) (hts (Cond.fieldLink RX7 41 "ReliefBuilder$ReliefText" "statements" "I") (List.mem_of_getElem? (i := 7) rfl)) (fun _ h9 => h9) rfl (tyX7_ok 7 (by decide)) rfl rfl (Nat.le_of_ble_eq_true rfl) dX7_readDraft_91 (fun H locs hP hD hS => ?_)
                have hP : va_P D vwCl (ce_X7 kA q_this q_this_tokens q_this_draft (ss_I u_9.2.2.1 7 ((os_I u_9.2.2.1 7) + (1 : Int32))) ++ (ce_X10 kA q_this_tokens u_12.2 ++ (ce_X5 kA q_this_draft u_9.2.2.2.2))) H := hP
                have hD : va_D A (ce_X7 kA q_this q_this_tokens q_this_draft (ss_I u_9.2.2.1 7 ((os_I u_9.2.2.1 7) + (1 : Int32))) ++ (ce_X10 kA q_this_tokens u_12.2 ++ (ce_X5 kA q_this_draft u_9.2.2.2.2))) := hD
                refine lv_iinc (v := x1 + 1) (lv' := [(1, .int (x1 + 1)), (0, .ref (q_this 0))]) hx hb dX7_readDraft_94 hl (k := 1) rfl rfl (by decide) rfl (fun ls hl => ?_)
                refine lv_goto (tgt := 46) hx hb dX7_readDraft_97 (by decide) ?_
                exact hk46 (ss_I u_9.2.2.1 7 ((os_I u_9.2.2.1 7) + (1 : Int32))) u_12.2 u_9.2.2.2.2 (x1 + 1) _ _ _ hP hD hS (lv_sub hl [1, 0] rfl) hf
              · rw [if_pos hc_14] at hf
                refine lv_iconst (v := 0) hx hb dX7_readDraft_82 (by decide) ?_
                rw [← Option.some.inj hf]
                exact mx_retz (v := 0) (Nat.le_of_ble_eq_true rfl) (Nat.le_of_ble_eq_true rfl) hx hb hr rfl hlk hP hK hD hS dX7_readDraft_83
  unfold ff_X7_readDraft at hf
  refine lv_aload_n hx hb dX7_readDraft_0 rfl (lv_at hl 0 rfl) ?_
  refine va_get (D := D) (ci := 4) (v := .ref (q_this_draft 0)) (C := RX7) (T := TX7) (N := 8) hx hb hUX7 (fun _ h9 => h9) hown hK hP 0 rfl rfl 1 (by decide) (hts (Cond.fieldLink RX7 15 "ReliefBuilder$ReliefText" "draft" "LReliefBuilder$Panel;") (List.mem_of_getElem? (i := 1) rfl)) (fun _ h9 => h9) rfl dX7_readDraft_1 ?_
  obtain ⟨u_1, he_2, hf⟩ := os_bd hf
  refine mc_callV ⟨hx, hb, hml, hown, hts⟩ (mm_X5_clear l D kA N q_this_draft o_this_draft u_1 he_2) (cwV 0 hts gX7_readDraft_X5_clear rfl rfl rfl (by decide +kernel) ⟨Nat.le_of_ble_eq_true rfl, Nat.le_of_ble_eq_true rfl⟩) (wc := (ce_X5 kA q_this_draft o_this_draft)) (ci := 2) (q0 := 0) rfl rfl rfl hl.1 (As := []) (rest := []) rfl (Nat.le_of_ble_eq_true rfl) dX7_readDraft_4 ⟨Nat.le_of_ble_eq_true rfl, Nat.le_of_ble_eq_true rfl⟩ hK hP hD hS hA [6, 7, 8, 9] [0, 1, 2, 3, 4, 5] [0, 1, 2, 3, 4, 5, 6, 7, 8, 9] rfl (by decide) rfl (by decide) (by decide) rfl (by decide) (wr := (ce_X7 kA q_this q_this_tokens q_this_draft o_this ++ (ce_X10 kA q_this_tokens o_this_tokens))) (w2 := (ce_X7 kA q_this q_this_tokens q_this_draft o_this ++ (ce_X10 kA q_this_tokens o_this_tokens ++ (ce_X5 kA q_this_draft u_1)))) (fun H locs hP hD hS => ?_)
  have hP : va_P D vwCl (ce_X7 kA q_this q_this_tokens q_this_draft o_this ++ (ce_X10 kA q_this_tokens o_this_tokens ++ (ce_X5 kA q_this_draft u_1))) H := hP
  refine lv_aload_n hx hb dX7_readDraft_7 rfl (lv_at hl 0 rfl) ?_
  refine lv_iconst (v := 0) hx hb dX7_readDraft_8 (by decide) ?_
  refine va_put (D := D) (ci := 4) (v := .int (0 : Int32)) (ty := .boolean) (C := RX7) (T := TX7) (N := 8) hx hb hUX7 (fun _ h9 => h9) tyX7 tyX7_ok nmX7 hown hK hP hD hS 0 rfl rfl 2 (by decide) (hts (Cond.fieldLink RX7 24 "ReliefBuilder$ReliefText" "hasPanel" "Z") (List.mem_of_getElem? (i := 2) rfl)) (fun _ h9 => h9) rfl (tyX7_ok 2 (by decide)) rfl rfl (Nat.le_of_ble_eq_true rfl) dX7_readDraft_9 (fun H locs hP hD hS => ?_)
  have hP : va_P D vwCl (ce_X7 kA q_this q_this_tokens q_this_draft (ss_I o_this 2 (0 : Int32)) ++ (ce_X10 kA q_this_tokens o_this_tokens ++ (ce_X5 kA q_this_draft u_1))) H := hP
  have hD : va_D A (ce_X7 kA q_this q_this_tokens q_this_draft (ss_I o_this 2 (0 : Int32)) ++ (ce_X10 kA q_this_tokens o_this_tokens ++ (ce_X5 kA q_this_draft u_1))) := hD
  refine lv_aload_n hx hb dX7_readDraft_12 rfl (lv_at hl 0 rfl) ?_
  refine lv_iconst (v := 0) hx hb dX7_readDraft_13 (by decide) ?_
  refine va_put (D := D) (ci := 4) (v := .int (0 : Int32)) (ty := .boolean) (C := RX7) (T := TX7) (N := 8) hx hb hUX7 (fun _ h9 => h9) tyX7 tyX7_ok nmX7 hown hK hP hD hS 0 rfl rfl 3 (by decide) (hts (Cond.fieldLink RX7 28 "ReliefBuilder$ReliefText" "hasSteps" "Z") (List.mem_of_getElem? (i := 3) rfl)) (fun _ h9 => h9) rfl (tyX7_ok 3 (by decide)) rfl rfl (Nat.le_of_ble_eq_true rfl) dX7_readDraft_14 (fun H locs hP hD hS => ?_)
  have hP : va_P D vwCl (ce_X7 kA q_this q_this_tokens q_this_draft (ss_I (ss_I o_this 2 (0 : Int32)) 3 (0 : Int32)) ++ (ce_X10 kA q_this_tokens o_this_tokens ++ (ce_X5 kA q_this_draft u_1))) H := hP
  have hD : va_D A (ce_X7 kA q_this q_this_tokens q_this_draft (ss_I (ss_I o_this 2 (0 : Int32)) 3 (0 : Int32)) ++ (ce_X10 kA q_this_tokens o_this_tokens ++ (ce_X5 kA q_this_draft u_1))) := hD
  refine lv_aload_n hx hb dX7_readDraft_17 rfl (lv_at hl 0 rfl) ?_
  refine lv_iconst (v := 0) hx hb dX7_readDraft_18 (by decide) ?_
  refine va_put (D := D) (ci := 4) (v := .int (0 : Int32)) (ty := .boolean) (C := RX7) (T := TX7) (N := 8) hx hb hUX7 (fun _ h9 => h9) tyX7 tyX7_ok nmX7 hown hK hP hD hS 0 rfl rfl 4 (by decide) (hts (Cond.fieldLink RX7 31 "ReliefBuilder$ReliefText" "hasWall" "Z") (List.mem_of_getElem? (i := 4) rfl)) (fun _ h9 => h9) rfl (tyX7_ok 4 (by decide)) rfl rfl (Nat.le_of_ble_eq_true rfl) dX7_readDraft_19 (fun H locs hP hD hS => ?_)
  have hP : va_P D vwCl (ce_X7 kA q_this q_this_tokens q_this_draft (ss_I (ss_I (ss_I o_this 2 (0 : Int32)) 3 (0 : Int32)) 4 (0 : Int32)) ++ (ce_X10 kA q_this_tokens o_this_tokens ++ (ce_X5 kA q_this_draft u_1))) H := hP
  have hD : va_D A (ce_X7 kA q_this q_this_tokens q_this_draft (ss_I (ss_I (ss_I o_this 2 (0 : Int32)) 3 (0 : Int32)) 4 (0 : Int32)) ++ (ce_X10 kA q_this_tokens o_this_tokens ++ (ce_X5 kA q_this_draft u_1))) := hD
  refine lv_aload_n hx hb dX7_readDraft_22 rfl (lv_at hl 0 rfl) ?_
  refine lv_iconst (v := 0) hx hb dX7_readDraft_23 (by decide) ?_
  refine va_put (D := D) (ci := 4) (v := .int (0 : Int32)) (ty := .boolean) (C := RX7) (T := TX7) (N := 8) hx hb hUX7 (fun _ h9 => h9) tyX7 tyX7_ok nmX7 hown hK hP hD hS 0 rfl rfl 5 (by decide) (hts (Cond.fieldLink RX7 34 "ReliefBuilder$ReliefText" "hasSlope" "Z") (List.mem_of_getElem? (i := 5) rfl)) (fun _ h9 => h9) rfl (tyX7_ok 5 (by decide)) rfl rfl (Nat.le_of_ble_eq_true rfl) dX7_readDraft_24 (fun H locs hP hD hS => ?_)
  have hP : va_P D vwCl (ce_X7 kA q_this q_this_tokens q_this_draft (ss_I (ss_I (ss_I (ss_I o_this 2 (0 : Int32)) 3 (0 : Int32)) 4 (0 : Int32)) 5 (0 : Int32)) ++ (ce_X10 kA q_this_tokens o_this_tokens ++ (ce_X5 kA q_this_draft u_1))) H := hP
  have hD : va_D A (ce_X7 kA q_this q_this_tokens q_this_draft (ss_I (ss_I (ss_I (ss_I o_this 2 (0 : Int32)) 3 (0 : Int32)) 4 (0 : Int32)) 5 (0 : Int32)) ++ (ce_X10 kA q_this_tokens o_this_tokens ++ (ce_X5 kA q_this_draft u_1))) := hD
  refine lv_aload_n hx hb dX7_readDraft_27 rfl (lv_at hl 0 rfl) ?_
  refine lv_iconst (v := 0) hx hb dX7_readDraft_28 (by decide) ?_
  refine va_put (D := D) (ci := 4) (v := .int (0 : Int32)) (ty := .int) (C := RX7) (T := TX7) (N := 8) hx hb hUX7 (fun _ h9 => h9) tyX7 tyX7_ok nmX7 hown hK hP hD hS 0 rfl rfl 6 (by decide) (hts (Cond.fieldLink RX7 37 "ReliefBuilder$ReliefText" "rowsTold" "I") (List.mem_of_getElem? (i := 6) rfl)) (fun _ h9 => h9) rfl (tyX7_ok 6 (by decide)) rfl rfl (Nat.le_of_ble_eq_true rfl) dX7_readDraft_29 (fun H locs hP hD hS => ?_)
  have hP : va_P D vwCl (ce_X7 kA q_this q_this_tokens q_this_draft (ss_I (ss_I (ss_I (ss_I (ss_I o_this 2 (0 : Int32)) 3 (0 : Int32)) 4 (0 : Int32)) 5 (0 : Int32)) 6 (0 : Int32)) ++ (ce_X10 kA q_this_tokens o_this_tokens ++ (ce_X5 kA q_this_draft u_1))) H := hP
  have hD : va_D A (ce_X7 kA q_this q_this_tokens q_this_draft (ss_I (ss_I (ss_I (ss_I (ss_I o_this 2 (0 : Int32)) 3 (0 : Int32)) 4 (0 : Int32)) 5 (0 : Int32)) 6 (0 : Int32)) ++ (ce_X10 kA q_this_tokens o_this_tokens ++ (ce_X5 kA q_this_draft u_1))) := hD
  refine lv_aload_n hx hb dX7_readDraft_32 rfl (lv_at hl 0 rfl) ?_
  refine lv_iconst (v := 0) hx hb dX7_readDraft_33 (by decide) ?_
  refine va_put (D := D) (ci := 4) (v := .int (0 : Int32)) (ty := .int) (C := RX7) (T := TX7) (N := 8) hx hb hUX7 (fun _ h9 => h9) tyX7 tyX7_ok nmX7 hown hK hP hD hS 0 rfl rfl 7 (by decide) (hts (Cond.fieldLink RX7 41 "ReliefBuilder$ReliefText" "statements" "I") (List.mem_of_getElem? (i := 7) rfl)) (fun _ h9 => h9) rfl (tyX7_ok 7 (by decide)) rfl rfl (Nat.le_of_ble_eq_true rfl) dX7_readDraft_34 (fun H locs hP hD hS => ?_)
  have hP : va_P D vwCl (ce_X7 kA q_this q_this_tokens q_this_draft (ss_I (ss_I (ss_I (ss_I (ss_I (ss_I o_this 2 (0 : Int32)) 3 (0 : Int32)) 4 (0 : Int32)) 5 (0 : Int32)) 6 (0 : Int32)) 7 (0 : Int32)) ++ (ce_X10 kA q_this_tokens o_this_tokens ++ (ce_X5 kA q_this_draft u_1))) H := hP
  have hD : va_D A (ce_X7 kA q_this q_this_tokens q_this_draft (ss_I (ss_I (ss_I (ss_I (ss_I (ss_I o_this 2 (0 : Int32)) 3 (0 : Int32)) 4 (0 : Int32)) 5 (0 : Int32)) 6 (0 : Int32)) 7 (0 : Int32)) ++ (ce_X10 kA q_this_tokens o_this_tokens ++ (ce_X5 kA q_this_draft u_1))) := hD
  refine lv_aload_n hx hb dX7_readDraft_37 rfl (lv_at hl 0 rfl) ?_
  refine va_get (D := D) (ci := 4) (v := .ref (q_this_tokens 0)) (C := RX7) (T := TX7) (N := 8) hx hb hUX7 (fun _ h9 => h9) hown hK hP 0 rfl rfl 0 (by decide) (hts (Cond.fieldLink RX7 9 "ReliefBuilder$ReliefText" "tokens" "LReliefBuilder$Tokens;") (List.mem_of_getElem? (i := 8) rfl)) (fun _ h9 => h9) rfl dX7_readDraft_38 ?_
  obtain ⟨u_3, he_4, hf⟩ := os_bd hf
  refine mc_callV ⟨hx, hb, hml, hown, hts⟩ (mm_X10_begin l D kA N q_this_tokens o_this_tokens u_3 he_4) (cwV 0 hts gX7_readDraft_X10_begin rfl rfl rfl (by decide +kernel) ⟨Nat.le_of_ble_eq_true rfl, Nat.le_of_ble_eq_true rfl⟩) (wc := (ce_X10 kA q_this_tokens o_this_tokens)) (ci := 6) (q0 := 0) rfl rfl rfl hl.1 (As := []) (rest := []) rfl (Nat.le_of_ble_eq_true rfl) dX7_readDraft_41 ⟨Nat.le_of_ble_eq_true rfl, Nat.le_of_ble_eq_true rfl⟩ hK hP hD hS hA [1, 2, 3, 4, 5] [0, 6, 7, 8, 9] [0, 5, 6, 7, 8, 9, 1, 2, 3, 4] rfl (by decide) rfl (by decide) (by decide) rfl (by decide) (wr := (ce_X7 kA q_this q_this_tokens q_this_draft (ss_I (ss_I (ss_I (ss_I (ss_I (ss_I o_this 2 (0 : Int32)) 3 (0 : Int32)) 4 (0 : Int32)) 5 (0 : Int32)) 6 (0 : Int32)) 7 (0 : Int32)) ++ (ce_X5 kA q_this_draft u_1))) (w2 := (ce_X7 kA q_this q_this_tokens q_this_draft (ss_I (ss_I (ss_I (ss_I (ss_I (ss_I o_this 2 (0 : Int32)) 3 (0 : Int32)) 4 (0 : Int32)) 5 (0 : Int32)) 6 (0 : Int32)) 7 (0 : Int32)) ++ (ce_X10 kA q_this_tokens u_3 ++ (ce_X5 kA q_this_draft u_1)))) (fun H locs hP hD hS => ?_)
  have hP : va_P D vwCl (ce_X7 kA q_this q_this_tokens q_this_draft (ss_I (ss_I (ss_I (ss_I (ss_I (ss_I o_this 2 (0 : Int32)) 3 (0 : Int32)) 4 (0 : Int32)) 5 (0 : Int32)) 6 (0 : Int32)) 7 (0 : Int32)) ++ (ce_X10 kA q_this_tokens u_3 ++ (ce_X5 kA q_this_draft u_1))) H := hP
  refine lv_iconst (v := 0) hx hb dX7_readDraft_44 (by decide) ?_
  refine lv_istore_n (lv' := [(1, .int (0 : Int32)), (0, .ref (q_this 0))]) hx hb dX7_readDraft_45 rfl hl (by decide) rfl (fun ls hl => ?_)
  exact hL46 N (ss_I (ss_I (ss_I (ss_I (ss_I (ss_I o_this 2 (0 : Int32)) 3 (0 : Int32)) 4 (0 : Int32)) 5 (0 : Int32)) 6 (0 : Int32)) 7 (0 : Int32)) u_3 u_1 (0 : Int32) _ _ _ hP hD hS (lv_sub hl [1, 0] rfl) hf
def ff_X8_isIndex (N : Nat) (a0 : Int32) : Option Int32 :=
  (if a0 < 0 then some (0 : Int32) else (if (30 : Int32) ≤ a0 then some (0 : Int32) else some (1 : Int32)))
set_option maxHeartbeats 4000000 in
set_option maxRecDepth 100000 in
theorem mm_X8_isIndex (l : Launch) (D : va_G) (kA : Nat → ClassId) (N : Nat) (a0 : Int32) (out : Int32) (hf : ff_X8_isIndex N a0 = some out) : mc_C l D kA yX8_isIndex wsX8_isIndex ({ frames := 0, cells := 0, slots := 0, locals := 0 } : Room) [.int a0] [] (some (.int out)) [] := by
  refine mc_of (cc := cX8_isIndex) (maxL := 1) (ret := (some .boolean)) (by decide) rfl (Nat.le_of_ble_eq_true rfl) ?_
  intro p e s m below meth c A B hD hP hS ls hl
  obtain ⟨hx, hb, hr, hlk, hml, hown, hts, hK, hA, hnm⟩ := B
  have hown : s.vm.findClass RX8 = some m.cls := hown
  have hl : lv_has ls 1 [(0, .int a0)] := hl
  unfold ff_X8_isIndex at hf
  refine lv_iload_n hx hb dX8_isIndex_0 rfl (lv_at hl 0 rfl) ?_
  refine lv_if_lt (tgt := 14) hx hb dX8_isIndex_1 (by decide) (fun hc_1 => ?_) (fun hc_1 => ?_)
  · rw [if_pos hc_1] at hf
    refine lv_iconst (v := 0) hx hb dX8_isIndex_14 (by decide) ?_
    rw [← Option.some.inj hf]
    exact mc_retz (v := 0) hx hb hr rfl hlk hP hK hD hS dX8_isIndex_15
  · rw [if_neg hc_1] at hf
    refine lv_iload_n hx hb dX8_isIndex_4 rfl (lv_at hl 0 rfl) ?_
    refine lv_bipush (v := 30) hx hb dX8_isIndex_5 (by decide) ?_
    refine lv_icmp_ge (tgt := 14) hx hb dX8_isIndex_7 (by decide) (fun hc_2 => ?_) (fun hc_2 => ?_)
    · rw [if_pos hc_2] at hf
      refine lv_iconst (v := 0) hx hb dX8_isIndex_14 (by decide) ?_
      rw [← Option.some.inj hf]
      exact mc_retz (v := 0) hx hb hr rfl hlk hP hK hD hS dX8_isIndex_15
    · rw [if_neg hc_2] at hf
      refine lv_iconst (v := 1) hx hb dX8_isIndex_10 (by decide) ?_
      refine lv_goto (tgt := 15) hx hb dX8_isIndex_11 (by decide) ?_
      rw [← Option.some.inj hf]
      exact mc_retz (v := 1) hx hb hr rfl hlk hP hK hD hS dX8_isIndex_15
def ff_X8_commandAt (N : Nat) (o_this : os_T) (a1 : Int32) : Option (Nat × Option Nat) :=
  ((ff_X8_isIndex N a1).bind fun u_1 => (if u_1 = 0 then some (0, none) else (if os_in a1 30 then (os_opt ((os_R o_this 0) (Int32.toNatClampNeg a1)) (some (0, none)) (fun c_6 => some (0, (some c_6)))) else none)))
set_option maxHeartbeats 4000000 in
set_option maxRecDepth 100000 in
theorem mm_X8_commandAt (l : Launch) (hst : l.stackTraces = false) (zz : Nat → Nat → Nat) (D : va_G) (kA : Nat → ClassId) (N : Nat) (q_this : Nat → Nat) (q_this_tokens : Nat → Nat) (o_this : os_T) (a1 : Int32) (out : (Nat × Option Nat)) (hf : ff_X8_commandAt N o_this a1 = some out) : mx_C l zz D kA yX8_commandAt wsX8_commandAt ({ frames := 1, cells := 0, slots := 0, locals := 20 } : Room) [.ref (q_this 0), .int a1] (ce_X8 kA (zz 2) q_this q_this_tokens o_this) out.1 (some (va_rf (Option.map (zz 2) out.2))) (ce_X8 kA (zz 2) q_this q_this_tokens o_this) := by
  refine mx_of (cc := cX8_commandAt) (maxL := 2) (ret := (some (.object "ReliefBuilder$Command"))) (by decide) rfl (Nat.le_of_ble_eq_true rfl) ?_
  intro p e s m below meth c A B hx0 hZ hD hP hS ls hl
  obtain ⟨hx, hb, hr, hlk, hml, hown, hts, hK, hA, hnm⟩ := B
  have hown : s.vm.findClass RX8 = some m.cls := hown
  have hl : lv_has ls 2 [(0, .ref (q_this 0)), (1, .int a1)] := hl
  have hUX8 : ∀ w ∈ u_ws RX8 TX8 7, w.before [.ref (q_this 0), .int a1].toArray s = true := fun w h => hts w (List.mem_cons_of_mem _ (List.mem_append_right _ h))
  unfold ff_X8_commandAt at hf
  refine lv_iload_n hx hb dX8_commandAt_0 rfl (lv_at hl 1 rfl) ?_
  obtain ⟨u_1, he_2, hf⟩ := os_bd hf
  refine mc_callS ⟨hx, hb, hml, hown, hts⟩ (mm_X8_isIndex l D kA N a1 u_1 he_2) (va_cwS 1 hts gX8_commandAt_X8_isIndex rfl rfl rfl (by decide +kernel) ⟨Nat.le_of_ble_eq_true rfl, Nat.le_of_ble_eq_true rfl⟩) (wc := []) rfl hl.1 (As := [.int a1]) (rest := []) rfl (Nat.le_of_ble_eq_true rfl) dX8_commandAt_1 ⟨Nat.le_of_ble_eq_true rfl, Nat.le_of_ble_eq_true rfl⟩ hK hP hD hS hA [] [0, 1, 2, 3, 4] [0, 1, 2, 3, 4] rfl (by decide) rfl (by decide) (by decide) rfl (by decide) (wr := (ce_X8 kA (zz 2) q_this q_this_tokens o_this)) (w2 := (ce_X8 kA (zz 2) q_this q_this_tokens o_this)) (fun H locs hP hD hS => ?_)
  have hP : va_P D vwCl (ce_X8 kA (zz 2) q_this q_this_tokens o_this) H := hP
  refine lv_if_eq (tgt := 16) hx hb dX8_commandAt_4 (by decide) (fun hc_3 => ?_) (fun hc_3 => ?_)
  · rw [if_pos hc_3] at hf
    refine lv_null hx hb dX8_commandAt_16 ?_
    rw [← Option.some.inj hf]
    exact mx_reta (v := none) (Nat.le_of_ble_eq_true rfl) (Nat.le_of_ble_eq_true rfl) hx hb hr ⟨_, rfl⟩ hlk hP hK hD hS dX8_commandAt_17
  · rw [if_neg hc_3] at hf
    refine lv_aload_n hx hb dX8_commandAt_7 rfl (lv_at hl 0 rfl) ?_
    refine va_get (D := D) (ci := 5) (v := .ref (q_this 1)) (C := RX8) (T := TX8) (N := 7) hx hb hUX8 (fun _ h9 => h9) hown hK hP 0 rfl rfl 1 (by decide) (hts (Cond.fieldLink RX8 13 "ReliefBuilder$Script" "commands" "[LReliefBuilder$Command;") (List.mem_of_getElem? (i := 1) rfl)) (fun _ h9 => h9) rfl dX8_commandAt_8 ?_
    refine lv_iload_n hx hb dX8_commandAt_11 rfl (lv_at hl 1 rfl) ?_
    obtain ⟨hi_4, hf⟩ := os_if hf
    refine va_aldq hx hb hK hP 1 7 rfl rfl hi_4 dX8_commandAt_12 ?_
    rcases os_op hf with ⟨he_5, hf⟩ | ⟨c_6, he_5, hf⟩
    · rw [he_5]
      refine W.eq (g2 := F0 m 13 ls [.null]) rfl ?_
      refine lv_goto (tgt := 17) hx hb dX8_commandAt_13 (by decide) ?_
      rw [← Option.some.inj hf]
      exact mx_reta (v := none) (Nat.le_of_ble_eq_true rfl) (Nat.le_of_ble_eq_true rfl) hx hb hr ⟨_, rfl⟩ hlk hP hK hD hS dX8_commandAt_17
    · rw [he_5]
      refine W.eq (g2 := F0 m 13 ls [.ref (zz 2 c_6)]) rfl ?_
      refine lv_goto (tgt := 17) hx hb dX8_commandAt_13 (by decide) ?_
      rw [← Option.some.inj hf]
      exact mx_reta (v := some (zz 2 c_6)) (Nat.le_of_ble_eq_true rfl) (Nat.le_of_ble_eq_true rfl) hx hb hr ⟨_, rfl⟩ hlk hP hK hD hS dX8_commandAt_17
def ff_X8_numberOf (N : Nat) (o_this : os_T) (a1 : Int32) (a2 : Int32) : Option Int32 :=
  ((ff_X8_isIndex N a1).bind fun u_1 => (if u_1 = 0 then some (0 : Int32) else (if a2 < 0 then some (0 : Int32) else (if (5 : Int32) ≤ a2 then some (0 : Int32) else (if os_in ((a1 * (5 : Int32)) + a2) 150 then some ((os_A o_this 0) (Int32.toNatClampNeg ((a1 * (5 : Int32)) + a2))) else none)))))
set_option maxHeartbeats 4000000 in
set_option maxRecDepth 100000 in
theorem mm_X8_numberOf (l : Launch) (zz : Nat → Nat → Nat) (D : va_G) (kA : Nat → ClassId) (N : Nat) (q_this : Nat → Nat) (q_this_tokens : Nat → Nat) (o_this : os_T) (a1 : Int32) (a2 : Int32) (out : Int32) (hf : ff_X8_numberOf N o_this a1 a2 = some out) : mc_C l D kA yX8_numberOf wsX8_numberOf ({ frames := 1, cells := 0, slots := 0, locals := 20 } : Room) [.ref (q_this 0), .int a1, .int a2] (ce_X8 kA (zz 2) q_this q_this_tokens o_this) (some (.int out)) (ce_X8 kA (zz 2) q_this q_this_tokens o_this) := by
  refine mc_of (cc := cX8_numberOf) (maxL := 3) (ret := (some .int)) (by decide) rfl (Nat.le_of_ble_eq_true rfl) ?_
  intro p e s m below meth c A B hD hP hS ls hl
  obtain ⟨hx, hb, hr, hlk, hml, hown, hts, hK, hA, hnm⟩ := B
  have hown : s.vm.findClass RX8 = some m.cls := hown
  have hl : lv_has ls 3 [(0, .ref (q_this 0)), (1, .int a1), (2, .int a2)] := hl
  have hUX8 : ∀ w ∈ u_ws RX8 TX8 7, w.before [.ref (q_this 0), .int a1, .int a2].toArray s = true := fun w h => hts w (List.mem_cons_of_mem _ (List.mem_append_right _ h))
  unfold ff_X8_numberOf at hf
  refine lv_iload_n hx hb dX8_numberOf_0 rfl (lv_at hl 1 rfl) ?_
  obtain ⟨u_1, he_2, hf⟩ := os_bd hf
  refine mc_callS ⟨hx, hb, hml, hown, hts⟩ (mm_X8_isIndex l D kA N a1 u_1 he_2) (va_cwS 1 hts gX8_numberOf_X8_isIndex rfl rfl rfl (by decide +kernel) ⟨Nat.le_of_ble_eq_true rfl, Nat.le_of_ble_eq_true rfl⟩) (wc := []) rfl hl.1 (As := [.int a1]) (rest := []) rfl (Nat.le_of_ble_eq_true rfl) dX8_numberOf_1 ⟨Nat.le_of_ble_eq_true rfl, Nat.le_of_ble_eq_true rfl⟩ hK hP hD hS hA [] [0, 1, 2, 3, 4] [0, 1, 2, 3, 4] rfl (by decide) rfl (by decide) (by decide) rfl (by decide) (wr := (ce_X8 kA (zz 2) q_this q_this_tokens o_this)) (w2 := (ce_X8 kA (zz 2) q_this q_this_tokens o_this)) (fun H locs hP hD hS => ?_)
  have hP : va_P D vwCl (ce_X8 kA (zz 2) q_this q_this_tokens o_this) H := hP
  refine lv_if_eq (tgt := 29) hx hb dX8_numberOf_4 (by decide) (fun hc_3 => ?_) (fun hc_3 => ?_)
  · rw [if_pos hc_3] at hf
    refine lv_iconst (v := 0) hx hb dX8_numberOf_29 (by decide) ?_
    rw [← Option.some.inj hf]
    exact mc_reti hx hb hr hlk hP hK hD hS dX8_numberOf_30
  · rw [if_neg hc_3] at hf
    refine lv_iload_n hx hb dX8_numberOf_7 rfl (lv_at hl 2 rfl) ?_
    refine lv_if_lt (tgt := 29) hx hb dX8_numberOf_8 (by decide) (fun hc_4 => ?_) (fun hc_4 => ?_)
    · rw [if_pos hc_4] at hf
      refine lv_iconst (v := 0) hx hb dX8_numberOf_29 (by decide) ?_
      rw [← Option.some.inj hf]
      exact mc_reti hx hb hr hlk hP hK hD hS dX8_numberOf_30
    · rw [if_neg hc_4] at hf
      refine lv_iload_n hx hb dX8_numberOf_11 rfl (lv_at hl 2 rfl) ?_
      refine lv_iconst (v := 5) hx hb dX8_numberOf_12 (by decide) ?_
      refine lv_icmp_ge (tgt := 29) hx hb dX8_numberOf_13 (by decide) (fun hc_5 => ?_) (fun hc_5 => ?_)
      · rw [if_pos hc_5] at hf
        refine lv_iconst (v := 0) hx hb dX8_numberOf_29 (by decide) ?_
        rw [← Option.some.inj hf]
        exact mc_reti hx hb hr hlk hP hK hD hS dX8_numberOf_30
      · rw [if_neg hc_5] at hf
        refine lv_aload_n hx hb dX8_numberOf_16 rfl (lv_at hl 0 rfl) ?_
        refine va_get (D := D) (ci := 5) (v := .ref (q_this 2)) (C := RX8) (T := TX8) (N := 7) hx hb hUX8 (fun _ h9 => h9) hown hK hP 0 rfl rfl 2 (by decide) (hts (Cond.fieldLink RX8 17 "ReliefBuilder$Script" "numbers" "[I") (List.mem_of_getElem? (i := 1) rfl)) (fun _ h9 => h9) rfl dX8_numberOf_17 ?_
        refine lv_iload_n hx hb dX8_numberOf_20 rfl (lv_at hl 1 rfl) ?_
        refine lv_iconst (v := 5) hx hb dX8_numberOf_21 (by decide) ?_
        refine lv_imul hx hb dX8_numberOf_22 ?_
        refine lv_iload_n hx hb dX8_numberOf_23 rfl (lv_at hl 2 rfl) ?_
        refine lv_iadd hx hb dX8_numberOf_24 ?_
        obtain ⟨hi_6, hf⟩ := os_if hf
        refine va_iald hx hb hK hP 2 0 rfl rfl hi_6 dX8_numberOf_25 ?_
        refine lv_goto (tgt := 30) hx hb dX8_numberOf_26 (by decide) ?_
        rw [← Option.some.inj hf]
        exact mc_reti hx hb hr hlk hP hK hD hS dX8_numberOf_30
def ff_X8_planRepeat_v0_c23 (N : Nat) (o_this : os_T) (k23 : (Int32 × Int32 × Int32 × Int32) → Option Unit) (x1 : Int32) (x2 : Int32) (x3 : Int32) (x4 : Int32) : Option Unit :=
  (if x3 ≤ x4 then some () else (if (60 : Int32) ≤ (os_I o_this 6) then some () else (if os_in x1 30 then none else none)))
def ff_X8_planRepeat_v0_l23 (N : Nat) (o_this : os_T) : Nat → (Int32 × Int32 × Int32 × Int32) → Option Unit := os_loop (fun k23 s1 => ff_X8_planRepeat_v0_c23 N o_this k23 s1.1 s1.2.1 s1.2.2.1 s1.2.2.2)
def ff_X8_planRepeat_v0 (N : Nat) (o_this : os_T) (a1 : Int32) (a2 : Int32) : Option Unit :=
  ((ff_X8_isIndex N a1).bind fun u_1 => (if u_1 = 0 then some () else (if a2 < (2 : Int32) then ((ff_X8_numberOf N o_this a1 (0 : Int32)).bind fun u_5 => ff_X8_planRepeat_v0_l23 N o_this N (a1, a2, u_5, (0 : Int32))) else some ())))
set_option maxHeartbeats 4000000 in
set_option maxRecDepth 100000 in
theorem mm_X8_planRepeat_v0 (l : Launch) (zz : Nat → Nat → Nat) (D : va_G) (kA : Nat → ClassId) (N : Nat) (q_this : Nat → Nat) (q_this_tokens : Nat → Nat) (o_this : os_T) (a1 : Int32) (a2 : Int32) (out : Unit) (hf : ff_X8_planRepeat_v0 N o_this a1 a2 = some out) : mc_C l D kA yX8_planRepeat wsX8_planRepeat ({ frames := 2, cells := 0, slots := 0, locals := 42 } : Room) [.ref (q_this 0), .int a1, .int a2] (ce_X8 kA (zz 2) q_this q_this_tokens o_this) none (ce_X8 kA (zz 2) q_this q_this_tokens o_this) := by
  refine mc_of (cc := cX8_planRepeat) (maxL := 5) (ret := none) (by decide) rfl (Nat.le_of_ble_eq_true rfl) ?_
  intro p e s m below meth c A B hD hP hS ls hl
  obtain ⟨hx, hb, hr, hlk, hml, hown, hts, hK, hA, hnm⟩ := B
  have hown : s.vm.findClass RX8 = some m.cls := hown
  have hl : lv_has ls 5 [(0, .ref (q_this 0)), (1, .int a1), (2, .int a2)] := hl
  have hUX8 : ∀ w ∈ u_ws RX8 TX8 7, w.before [.ref (q_this 0), .int a1, .int a2].toArray s = true := fun w h => hts w (List.mem_cons_of_mem _ (List.mem_append_right _ h))
  have hL23 : ∀ (n : Nat) (x1 : Int32) (x2 : Int32) (x3 : Int32) (x4 : Int32) (H : Heap) (locs : List Loc) (ls : Array Slot), va_P D vwCl (ce_X8 kA (zz 2) q_this q_this_tokens o_this) H → va_D A (ce_X8 kA (zz 2) q_this q_this_tokens o_this) → va_S A s.heap H locs → lv_has ls 5 [(0, .ref (q_this 0)), (1, .int x1), (2, .int x2), (3, .int x3), (4, .int x4)] → ff_X8_planRepeat_v0_l23 N o_this n (x1, x2, x3, x4) = some out → W p l e ({ frames := 2, cells := 0, slots := 0, locals := 42 } : Room) s m [.ref (q_this 0), .int a1, .int a2].toArray below meth c H locs 0 0 (MQ below (mc_Q D kA A none (ce_X8 kA (zz 2) q_this q_this_tokens o_this)) [.ref (q_this 0), .int a1, .int a2].toArray s 0 0 A) (F0 m 23 ls []) := by
    intro n
    induction n with
    | zero => intro x1 x2 x3 x4 H locs ls _ _ _ _ hf; cases hf
    | succ n hk23 =>
      intro x1 x2 x3 x4 H locs ls hP hD hS hl hf
      have hf : ff_X8_planRepeat_v0_c23 N o_this (ff_X8_planRepeat_v0_l23 N o_this n) x1 x2 x3 x4 = some out := hf
      generalize hke : ff_X8_planRepeat_v0_l23 N o_this n = k23 at hk23 hf
      unfold ff_X8_planRepeat_v0_c23 at hf
      refine lv_iload hx hb dX8_planRepeat_23 (lv_at hl 4 rfl) ?_
      refine lv_iload_n hx hb dX8_planRepeat_25 rfl (lv_at hl 3 rfl) ?_
      refine lv_icmp_ge (tgt := 60) hx hb dX8_planRepeat_26 (by decide) (fun hc_7 => ?_) (fun hc_7 => ?_)
      · rw [if_pos hc_7] at hf
        exact mc_retv hx hb hr hlk hP hK hD hS dX8_planRepeat_60
      · rw [if_neg hc_7] at hf
        refine lv_aload_n hx hb dX8_planRepeat_29 rfl (lv_at hl 0 rfl) ?_
        refine va_get (D := D) (ci := 5) (v := .int (os_I o_this 6)) (C := RX8) (T := TX8) (N := 7) hx hb hUX8 (fun _ h9 => h9) hown hK hP 0 rfl rfl 6 (by decide) (hts (Cond.fieldLink RX8 39 "ReliefBuilder$Script" "planned" "I") (List.mem_of_getElem? (i := 1) rfl)) (fun _ h9 => h9) rfl dX8_planRepeat_30 ?_
        refine lv_bipush (v := 60) hx hb dX8_planRepeat_33 (by decide) ?_
        refine lv_icmp_ge (tgt := 60) hx hb dX8_planRepeat_35 (by decide) (fun hc_8 => ?_) (fun hc_8 => ?_)
        · rw [if_pos hc_8] at hf
          exact mc_retv hx hb hr hlk hP hK hD hS dX8_planRepeat_60
        · rw [if_neg hc_8] at hf
          refine lv_aload_n hx hb dX8_planRepeat_38 rfl (lv_at hl 0 rfl) ?_
          refine lv_iload_n hx hb dX8_planRepeat_39 rfl (lv_at hl 1 rfl) ?_
          refine lv_iconst (v := 1) hx hb dX8_planRepeat_40 (by decide) ?_
          refine lv_iadd hx hb dX8_planRepeat_41 ?_
          refine lv_aload_n hx hb dX8_planRepeat_42 rfl (lv_at hl 0 rfl) ?_
          refine va_get (D := D) (ci := 5) (v := .ref (q_this 3)) (C := RX8) (T := TX8) (N := 7) hx hb hUX8 (fun _ h9 => h9) hown hK hP 0 rfl rfl 3 (by decide) (hts (Cond.fieldLink RX8 21 "ReliefBuilder$Script" "ends" "[I") (List.mem_of_getElem? (i := 2) rfl)) (fun _ h9 => h9) rfl dX8_planRepeat_43 ?_
          refine lv_iload_n hx hb dX8_planRepeat_46 rfl (lv_at hl 1 rfl) ?_
          obtain ⟨hi_9, hf⟩ := os_if hf
          refine va_iald hx hb hK hP 3 0 rfl rfl hi_9 dX8_planRepeat_47 ?_
          refine lv_iload_n hx hb dX8_planRepeat_48 rfl (lv_at hl 2 rfl) ?_
          refine lv_iconst (v := 1) hx hb dX8_planRepeat_49 (by decide) ?_
          refine lv_iadd hx hb dX8_planRepeat_50 ?_
          cases hf
  unfold ff_X8_planRepeat_v0 at hf
  refine lv_iload_n hx hb dX8_planRepeat_0 rfl (lv_at hl 1 rfl) ?_
  obtain ⟨u_1, he_2, hf⟩ := os_bd hf
  refine mc_callS ⟨hx, hb, hml, hown, hts⟩ (mm_X8_isIndex l D kA N a1 u_1 he_2) (va_cwS 1 hts gX8_planRepeat_X8_isIndex rfl rfl rfl (by decide +kernel) ⟨Nat.le_of_ble_eq_true rfl, Nat.le_of_ble_eq_true rfl⟩) (wc := []) rfl hl.1 (As := [.int a1]) (rest := []) rfl (Nat.le_of_ble_eq_true rfl) dX8_planRepeat_1 ⟨Nat.le_of_ble_eq_true rfl, Nat.le_of_ble_eq_true rfl⟩ hK hP hD hS hA [] [0, 1, 2, 3, 4] [0, 1, 2, 3, 4] rfl (by decide) rfl (by decide) (by decide) rfl (by decide) (wr := (ce_X8 kA (zz 2) q_this q_this_tokens o_this)) (w2 := (ce_X8 kA (zz 2) q_this q_this_tokens o_this)) (fun H locs hP hD hS => ?_)
  have hP : va_P D vwCl (ce_X8 kA (zz 2) q_this q_this_tokens o_this) H := hP
  refine lv_if_eq (tgt := 12) hx hb dX8_planRepeat_4 (by decide) (fun hc_3 => ?_) (fun hc_3 => ?_)
  · rw [if_pos hc_3] at hf
    exact mc_retv hx hb hr hlk hP hK hD hS dX8_planRepeat_12
  · rw [if_neg hc_3] at hf
    refine lv_iload_n hx hb dX8_planRepeat_7 rfl (lv_at hl 2 rfl) ?_
    refine lv_iconst (v := 2) hx hb dX8_planRepeat_8 (by decide) ?_
    refine lv_icmp_lt (tgt := 13) hx hb dX8_planRepeat_9 (by decide) (fun hc_4 => ?_) (fun hc_4 => ?_)
    · rw [if_pos hc_4] at hf
      refine lv_aload_n hx hb dX8_planRepeat_13 rfl (lv_at hl 0 rfl) ?_
      refine lv_iload_n hx hb dX8_planRepeat_14 rfl (lv_at hl 1 rfl) ?_
      refine lv_iconst (v := 0) hx hb dX8_planRepeat_15 (by decide) ?_
      obtain ⟨u_5, he_6, hf⟩ := os_bd hf
      refine mc_callV ⟨hx, hb, hml, hown, hts⟩ (mm_X8_numberOf l zz D kA N q_this q_this_tokens o_this a1 (0 : Int32) u_5 he_6) (cwV 2 hts gX8_planRepeat_X8_numberOf rfl rfl rfl (by decide +kernel) ⟨Nat.le_of_ble_eq_true rfl, Nat.le_of_ble_eq_true rfl⟩) (wc := (ce_X8 kA (zz 2) q_this q_this_tokens o_this)) (ci := 5) (q0 := 0) rfl rfl rfl hl.1 (As := [.int a1, .int (0 : Int32)]) (rest := []) rfl (Nat.le_of_ble_eq_true rfl) dX8_planRepeat_16 ⟨Nat.le_of_ble_eq_true rfl, Nat.le_of_ble_eq_true rfl⟩ hK hP hD hS hA [0, 1, 2, 3, 4] [] [0, 1, 2, 3, 4] rfl (by decide) rfl (by decide) (by decide) rfl (by decide) (wr := []) (w2 := (ce_X8 kA (zz 2) q_this q_this_tokens o_this)) (fun H locs hP hD hS => ?_)
      have hP : va_P D vwCl (ce_X8 kA (zz 2) q_this q_this_tokens o_this) H := hP
      refine lv_istore_n (lv' := [(3, .int u_5), (0, .ref (q_this 0)), (1, .int a1), (2, .int a2)]) hx hb dX8_planRepeat_19 rfl hl (by decide) rfl (fun ls hl => ?_)
      refine lv_iconst (v := 0) hx hb dX8_planRepeat_20 (by decide) ?_
      refine lv_istore (lv' := [(4, .int (0 : Int32)), (3, .int u_5), (0, .ref (q_this 0)), (1, .int a1), (2, .int a2)]) hx hb dX8_planRepeat_21 hl (by decide) rfl (fun ls hl => ?_)
      exact hL23 N a1 a2 u_5 (0 : Int32) _ _ _ hP hD hS (lv_sub hl [2, 3, 4, 1, 0] rfl) hf
    · rw [if_neg hc_4] at hf
      exact mc_retv hx hb hr hlk hP hK hD hS dX8_planRepeat_12
def ff_X8_planCommands_v0_b99 (N : Nat) (k6 : (os_T × Int32 × Int32 × Int32 × Int32) → Option (Nat × os_T)) (o_this : os_T) (x2 : Int32) (x3 : Int32) (x4 : Int32) (x5 : Int32) : Option (Nat × os_T) :=
  k6 (o_this, x2, x3, x4, x5 + 1)
def ff_X8_planCommands_v0_c6 (N : Nat) (k6 : (os_T × Int32 × Int32 × Int32 × Int32) → Option (Nat × os_T)) (o_this : os_T) (x2 : Int32) (x3 : Int32) (x4 : Int32) (x5 : Int32) : Option (Nat × os_T) :=
  (if x2 ≤ x5 then some (0, o_this) else ((ff_X8_isIndex N x5).bind fun u_2 => (if u_2 = 0 then some (0, o_this) else (if x4 ≤ x5 then (if os_in x5 30 then (if os_in x5 30 then (os_opt ((os_R o_this 0) (Int32.toNatClampNeg x5)) (if (os_I o_this 6) < 0 then ff_X8_planCommands_v0_b99 N k6 o_this x2 x3 ((os_A o_this 1) (Int32.toNatClampNeg x5)) x5 else (if (60 : Int32) ≤ (os_I o_this 6) then ff_X8_planCommands_v0_b99 N k6 o_this x2 x3 ((os_A o_this 1) (Int32.toNatClampNeg x5)) x5 else (if os_in (os_I o_this 6) 60 then ff_X8_planCommands_v0_b99 N k6 (ss_I (ss_A o_this 2 (upd (os_A o_this 2) (Int32.toNatClampNeg (os_I o_this 6)) x5)) 6 ((os_I o_this 6) + (1 : Int32))) x2 x3 ((os_A o_this 1) (Int32.toNatClampNeg x5)) x5 else none))) (fun c_9 => (if c_9 < 12 then (if c_9 = 11 then ((ff_X8_planRepeat_v0 N o_this x5 x3).bind fun u_18 => ff_X8_planCommands_v0_b99 N k6 o_this x2 x3 ((os_A o_this 1) (Int32.toNatClampNeg x5)) x5) else (if (os_I o_this 6) < 0 then ff_X8_planCommands_v0_b99 N k6 o_this x2 x3 ((os_A o_this 1) (Int32.toNatClampNeg x5)) x5 else (if (60 : Int32) ≤ (os_I o_this 6) then ff_X8_planCommands_v0_b99 N k6 o_this x2 x3 ((os_A o_this 1) (Int32.toNatClampNeg x5)) x5 else (if os_in (os_I o_this 6) 60 then ff_X8_planCommands_v0_b99 N k6 (ss_I (ss_A o_this 2 (upd (os_A o_this 2) (Int32.toNatClampNeg (os_I o_this 6)) x5)) 6 ((os_I o_this 6) + (1 : Int32))) x2 x3 ((os_A o_this 1) (Int32.toNatClampNeg x5)) x5 else none)))) else none))) else none) else none) else ff_X8_planCommands_v0_b99 N k6 o_this x2 x3 x4 x5))))
def ff_X8_planCommands_v0_l6 (N : Nat) : Nat → (os_T × Int32 × Int32 × Int32 × Int32) → Option (Nat × os_T) := os_loop (fun k6 s1 => ff_X8_planCommands_v0_c6 N k6 s1.1 s1.2.1 s1.2.2.1 s1.2.2.2.1 s1.2.2.2.2)
def ff_X8_planCommands_v0 (N : Nat) (o_this : os_T) (a1 : Int32) (a2 : Int32) (a3 : Int32) : Option (Nat × os_T) :=
  ff_X8_planCommands_v0_l6 N N (o_this, a2, a3, a1, a1)
set_option maxHeartbeats 4000000 in
set_option maxRecDepth 100000 in
theorem mm_X8_planCommands_v0 (l : Launch) (hst : l.stackTraces = false) (zz : Nat → Nat → Nat) (D : va_G) (kA : Nat → ClassId) (N : Nat) (q_this : Nat → Nat) (q_this_tokens : Nat → Nat) (o_this : os_T) (a1 : Int32) (a2 : Int32) (a3 : Int32) (out : (Nat × os_T)) (hf : ff_X8_planCommands_v0 N o_this a1 a2 a3 = some out) : mx_C l zz D kA yX8_planCommands wsX8_planCommands ({ frames := 3, cells := 0, slots := 0, locals := 66 } : Room) [.ref (q_this 0), .int a1, .int a2, .int a3] (ce_X8 kA (zz 2) q_this q_this_tokens o_this) out.1 none (ce_X8 kA (zz 2) q_this q_this_tokens out.2) := by
  refine mx_of (cc := cX8_planCommands) (maxL := 6) (ret := none) (by decide) rfl (Nat.le_of_ble_eq_true rfl) ?_
  intro p e s m below meth c A B hx0 hZ hD hP hS ls hl
  obtain ⟨hx, hb, hr, hlk, hml, hown, hts, hK, hA, hnm⟩ := B
  have hown : s.vm.findClass RX8 = some m.cls := hown
  have hl : lv_has ls 6 [(0, .ref (q_this 0)), (1, .int a1), (2, .int a2), (3, .int a3)] := hl
  have hUX8 : ∀ w ∈ u_ws RX8 TX8 7, w.before [.ref (q_this 0), .int a1, .int a2, .int a3].toArray s = true := fun w h => hts w (List.mem_cons_of_mem _ (List.mem_append_right _ h))
  have hB99 : ∀ (k6 : (os_T × Int32 × Int32 × Int32 × Int32) → Option (Nat × os_T)), (∀ (o_this : os_T) (x2 : Int32) (x3 : Int32) (x4 : Int32) (x5 : Int32) (H : Heap) (locs : List Loc) (ls : Array Slot), va_P D vwCl (ce_X8 kA (zz 2) q_this q_this_tokens o_this) H → va_D A (ce_X8 kA (zz 2) q_this q_this_tokens o_this) → va_S A s.heap H locs → lv_has ls 6 [(0, .ref (q_this 0)), (2, .int x2), (3, .int x3), (4, .int x4), (5, .int x5)] → k6 (o_this, x2, x3, x4, x5) = some out → W p l e ({ frames := 3, cells := 0, slots := 0, locals := 66 } : Room) s m [.ref (q_this 0), .int a1, .int a2, .int a3].toArray below meth c H locs 0 0 (vx_MQ below (mx_Q D kA A out.1 none (ce_X8 kA (zz 2) q_this q_this_tokens out.2)) (mx_X D kA A out.1 (ce_X8 kA (zz 2) q_this q_this_tokens out.2)) [.ref (q_this 0), .int a1, .int a2, .int a3].toArray s 0 0 A) (F0 m 6 ls [])) → ∀ (o_this : os_T) (x2 : Int32) (x3 : Int32) (x4 : Int32) (x5 : Int32) (H : Heap) (locs : List Loc) (ls : Array Slot), va_P D vwCl (ce_X8 kA (zz 2) q_this q_this_tokens o_this) H → va_D A (ce_X8 kA (zz 2) q_this q_this_tokens o_this) → va_S A s.heap H locs → lv_has ls 6 [(0, .ref (q_this 0)), (2, .int x2), (3, .int x3), (4, .int x4), (5, .int x5)] → ff_X8_planCommands_v0_b99 N k6 o_this x2 x3 x4 x5 = some out → W p l e ({ frames := 3, cells := 0, slots := 0, locals := 66 } : Room) s m [.ref (q_this 0), .int a1, .int a2, .int a3].toArray below meth c H locs 0 0 (vx_MQ below (mx_Q D kA A out.1 none (ce_X8 kA (zz 2) q_this q_this_tokens out.2)) (mx_X D kA A out.1 (ce_X8 kA (zz 2) q_this q_this_tokens out.2)) [.ref (q_this 0), .int a1, .int a2, .int a3].toArray s 0 0 A) (F0 m 99 ls []) := by
    intro k6 hk6 o_this x2 x3 x4 x5 H locs ls hP hD hS hl hf
    unfold ff_X8_planCommands_v0_b99 at hf
    refine lv_iinc (v := x5 + 1) (lv' := [(5, .int (x5 + 1)), (0, .ref (q_this 0)), (2, .int x2), (3, .int x3), (4, .int x4)]) hx hb dX8_planCommands_99 hl (k := 4) rfl rfl (by decide) rfl (fun ls hl => ?_)
    refine lv_goto (tgt := 6) hx hb dX8_planCommands_102 (by decide) ?_
    exact hk6 o_this x2 x3 x4 (x5 + 1) _ _ _ hP hD hS (lv_sub hl [1, 2, 3, 4, 0] rfl) hf
  have hL6 : ∀ (n : Nat) (o_this : os_T) (x2 : Int32) (x3 : Int32) (x4 : Int32) (x5 : Int32) (H : Heap) (locs : List Loc) (ls : Array Slot), va_P D vwCl (ce_X8 kA (zz 2) q_this q_this_tokens o_this) H → va_D A (ce_X8 kA (zz 2) q_this q_this_tokens o_this) → va_S A s.heap H locs → lv_has ls 6 [(0, .ref (q_this 0)), (2, .int x2), (3, .int x3), (4, .int x4), (5, .int x5)] → ff_X8_planCommands_v0_l6 N n (o_this, x2, x3, x4, x5) = some out → W p l e ({ frames := 3, cells := 0, slots := 0, locals := 66 } : Room) s m [.ref (q_this 0), .int a1, .int a2, .int a3].toArray below meth c H locs 0 0 (vx_MQ below (mx_Q D kA A out.1 none (ce_X8 kA (zz 2) q_this q_this_tokens out.2)) (mx_X D kA A out.1 (ce_X8 kA (zz 2) q_this q_this_tokens out.2)) [.ref (q_this 0), .int a1, .int a2, .int a3].toArray s 0 0 A) (F0 m 6 ls []) := by
    intro n
    induction n with
    | zero => intro o_this x2 x3 x4 x5 H locs ls _ _ _ _ hf; cases hf
    | succ n hk6 =>
      intro o_this x2 x3 x4 x5 H locs ls hP hD hS hl hf
      have hf : ff_X8_planCommands_v0_c6 N (ff_X8_planCommands_v0_l6 N n) o_this x2 x3 x4 x5 = some out := hf
      generalize hke : ff_X8_planCommands_v0_l6 N n = k6 at hk6 hf
      unfold ff_X8_planCommands_v0_c6 at hf
      refine lv_iload hx hb dX8_planCommands_6 (lv_at hl 4 rfl) ?_
      refine lv_iload_n hx hb dX8_planCommands_8 rfl (lv_at hl 1 rfl) ?_
      refine lv_icmp_ge (tgt := 105) hx hb dX8_planCommands_9 (by decide) (fun hc_1 => ?_) (fun hc_1 => ?_)
      · rw [if_pos hc_1] at hf
        rw [← Option.some.inj hf]
        exact mx_retv (Nat.le_of_ble_eq_true rfl) (Nat.le_of_ble_eq_true rfl) hx hb hr hlk hP hK hD hS dX8_planCommands_105
      · rw [if_neg hc_1] at hf
        refine lv_iload hx hb dX8_planCommands_12 (lv_at hl 4 rfl) ?_
        obtain ⟨u_2, he_3, hf⟩ := os_bd hf
        refine mc_callS ⟨hx, hb, hml, hown, hts⟩ (mm_X8_isIndex l D kA N x5 u_2 he_3) (va_cwS 1 hts gX8_planCommands_X8_isIndex rfl rfl rfl (by decide +kernel) ⟨Nat.le_of_ble_eq_true rfl, Nat.le_of_ble_eq_true rfl⟩) (wc := []) rfl hl.1 (As := [.int x5]) (rest := []) rfl (Nat.le_of_ble_eq_true rfl) dX8_planCommands_14 ⟨Nat.le_of_ble_eq_true rfl, Nat.le_of_ble_eq_true rfl⟩ hK hP hD hS hA [] [0, 1, 2, 3, 4] [0, 1, 2, 3, 4] rfl (by decide) rfl (by decide) (by decide) rfl (by decide) (wr := (ce_X8 kA (zz 2) q_this q_this_tokens o_this)) (w2 := (ce_X8 kA (zz 2) q_this q_this_tokens o_this)) (fun H locs hP hD hS => ?_)
        have hP : va_P D vwCl (ce_X8 kA (zz 2) q_this q_this_tokens o_this) H := hP
        refine lv_if_eq (tgt := 105) hx hb dX8_planCommands_17 (by decide) (fun hc_4 => ?_) (fun hc_4 => ?_)
        · rw [if_pos hc_4] at hf
          rw [← Option.some.inj hf]
          exact mx_retv (Nat.le_of_ble_eq_true rfl) (Nat.le_of_ble_eq_true rfl) hx hb hr hlk hP hK hD hS dX8_planCommands_105
        · rw [if_neg hc_4] at hf
          refine lv_iload hx hb dX8_planCommands_20 (lv_at hl 4 rfl) ?_
          refine lv_iload hx hb dX8_planCommands_22 (lv_at hl 3 rfl) ?_
          refine lv_icmp_ge (tgt := 30) hx hb dX8_planCommands_24 (by decide) (fun hc_5 => ?_) (fun hc_5 => ?_)
          · rw [if_pos hc_5] at hf
            refine lv_aload_n hx hb dX8_planCommands_30 rfl (lv_at hl 0 rfl) ?_
            refine va_get (D := D) (ci := 5) (v := .ref (q_this 3)) (C := RX8) (T := TX8) (N := 7) hx hb hUX8 (fun _ h9 => h9) hown hK hP 0 rfl rfl 3 (by decide) (hts (Cond.fieldLink RX8 21 "ReliefBuilder$Script" "ends" "[I") (List.mem_of_getElem? (i := 1) rfl)) (fun _ h9 => h9) rfl dX8_planCommands_31 ?_
            refine lv_iload hx hb dX8_planCommands_34 (lv_at hl 4 rfl) ?_
            obtain ⟨hi_6, hf⟩ := os_if hf
            refine va_iald hx hb hK hP 3 0 rfl rfl hi_6 dX8_planCommands_36 ?_
            refine lv_istore (lv' := [(4, .int ((os_A o_this 1) (Int32.toNatClampNeg x5))), (0, .ref (q_this 0)), (2, .int x2), (3, .int x3), (5, .int x5)]) hx hb dX8_planCommands_37 hl (by decide) rfl (fun ls hl => ?_)
            refine lv_aload_n hx hb dX8_planCommands_39 rfl (lv_at hl 1 rfl) ?_
            refine va_get (D := D) (ci := 5) (v := .ref (q_this 1)) (C := RX8) (T := TX8) (N := 7) hx hb hUX8 (fun _ h9 => h9) hown hK hP 0 rfl rfl 1 (by decide) (hts (Cond.fieldLink RX8 13 "ReliefBuilder$Script" "commands" "[LReliefBuilder$Command;") (List.mem_of_getElem? (i := 2) rfl)) (fun _ h9 => h9) rfl dX8_planCommands_40 ?_
            refine lv_iload hx hb dX8_planCommands_43 (lv_at hl 4 rfl) ?_
            obtain ⟨hi_7, hf⟩ := os_if hf
            refine va_aldq hx hb hK hP 1 7 rfl rfl hi_7 dX8_planCommands_45 ?_
            rcases os_op hf with ⟨he_8, hf⟩ | ⟨c_9, he_8, hf⟩
            · rw [he_8]
              refine W.eq (g2 := F0 m 46 ls [.null]) rfl ?_
              refine va_gets hx hb (hZ.2.2.2.2.1 11 (by decide)).1 hS hown (hts (Cond.fieldLink RX8 54 "ReliefBuilder$Command" "REPEAT" "LReliefBuilder$Command;") (List.mem_of_getElem? (i := 3) rfl)) (fun _ h9 => h9) dX8_planCommands_46 ?_
              refine lv_acmp_ne (rx := none) (ry := (some (zz 2 11))) (tgt := 62) hx hb dX8_planCommands_49 (by decide) (fun _ => ?_) (fun h9 => by cases h9)
              refine lv_aload_n hx hb dX8_planCommands_62 rfl (lv_at hl 1 rfl) ?_
              refine va_get (D := D) (ci := 5) (v := .int (os_I o_this 6)) (C := RX8) (T := TX8) (N := 7) hx hb hUX8 (fun _ h9 => h9) hown hK hP 0 rfl rfl 6 (by decide) (hts (Cond.fieldLink RX8 39 "ReliefBuilder$Script" "planned" "I") (List.mem_of_getElem? (i := 4) rfl)) (fun _ h9 => h9) rfl dX8_planCommands_63 ?_
              refine lv_if_lt (tgt := 99) hx hb dX8_planCommands_66 (by decide) (fun hc_11 => ?_) (fun hc_11 => ?_)
              · rw [if_pos hc_11] at hf
                exact hB99 k6 hk6 o_this x2 x3 ((os_A o_this 1) (Int32.toNatClampNeg x5)) x5 _ _ _ hP hD hS (lv_sub hl [1, 2, 3, 0, 4] rfl) hf
              · rw [if_neg hc_11] at hf
                refine lv_aload_n hx hb dX8_planCommands_69 rfl (lv_at hl 1 rfl) ?_
                refine va_get (D := D) (ci := 5) (v := .int (os_I o_this 6)) (C := RX8) (T := TX8) (N := 7) hx hb hUX8 (fun _ h9 => h9) hown hK hP 0 rfl rfl 6 (by decide) (hts (Cond.fieldLink RX8 39 "ReliefBuilder$Script" "planned" "I") (List.mem_of_getElem? (i := 4) rfl)) (fun _ h9 => h9) rfl dX8_planCommands_70 ?_
                refine lv_bipush (v := 60) hx hb dX8_planCommands_73 (by decide) ?_
                refine lv_icmp_ge (tgt := 99) hx hb dX8_planCommands_75 (by decide) (fun hc_12 => ?_) (fun hc_12 => ?_)
                · rw [if_pos hc_12] at hf
                  exact hB99 k6 hk6 o_this x2 x3 ((os_A o_this 1) (Int32.toNatClampNeg x5)) x5 _ _ _ hP hD hS (lv_sub hl [1, 2, 3, 0, 4] rfl) hf
                · rw [if_neg hc_12] at hf
                  refine lv_aload_n hx hb dX8_planCommands_78 rfl (lv_at hl 1 rfl) ?_
                  refine va_get (D := D) (ci := 5) (v := .ref (q_this 4)) (C := RX8) (T := TX8) (N := 7) hx hb hUX8 (fun _ h9 => h9) hown hK hP 0 rfl rfl 4 (by decide) (hts (Cond.fieldLink RX8 24 "ReliefBuilder$Script" "plan" "[I") (List.mem_of_getElem? (i := 5) rfl)) (fun _ h9 => h9) rfl dX8_planCommands_79 ?_
                  refine lv_aload_n hx hb dX8_planCommands_82 rfl (lv_at hl 1 rfl) ?_
                  refine va_get (D := D) (ci := 5) (v := .int (os_I o_this 6)) (C := RX8) (T := TX8) (N := 7) hx hb hUX8 (fun _ h9 => h9) hown hK hP 0 rfl rfl 6 (by decide) (hts (Cond.fieldLink RX8 39 "ReliefBuilder$Script" "planned" "I") (List.mem_of_getElem? (i := 4) rfl)) (fun _ h9 => h9) rfl dX8_planCommands_83 ?_
                  refine lv_iload hx hb dX8_planCommands_86 (lv_at hl 4 rfl) ?_
                  obtain ⟨hi_13, hf⟩ := os_if hf
                  refine va_iast hx hb hK hP hD hS 4 0 rfl rfl hi_13 dX8_planCommands_88 (fun H locs hP hD hS => ?_)
                  have hP : va_P D vwCl (ce_X8 kA (zz 2) q_this q_this_tokens (ss_A o_this 2 (upd (os_A o_this 2) (Int32.toNatClampNeg (os_I o_this 6)) x5))) H := hP
                  have hD : va_D A (ce_X8 kA (zz 2) q_this q_this_tokens (ss_A o_this 2 (upd (os_A o_this 2) (Int32.toNatClampNeg (os_I o_this 6)) x5))) := hD
                  refine lv_aload_n hx hb dX8_planCommands_89 rfl (lv_at hl 1 rfl) ?_
                  refine lv_dup hx hb dX8_planCommands_90 rfl ?_
                  refine va_get (D := D) (ci := 5) (v := .int (os_I o_this 6)) (C := RX8) (T := TX8) (N := 7) hx hb hUX8 (fun _ h9 => h9) hown hK hP 0 rfl rfl 6 (by decide) (hts (Cond.fieldLink RX8 39 "ReliefBuilder$Script" "planned" "I") (List.mem_of_getElem? (i := 4) rfl)) (fun _ h9 => h9) rfl dX8_planCommands_91 ?_
                  refine lv_iconst (v := 1) hx hb dX8_planCommands_94 (by decide) ?_
                  refine lv_iadd hx hb dX8_planCommands_95 ?_
                  refine va_put (D := D) (ci := 5) (v := .int ((os_I o_this 6) + (1 : Int32))) (ty := .int) (C := RX8) (T := TX8) (N := 7) hx hb hUX8 (fun _ h9 => h9) tyX8 tyX8_ok nmX8 hown hK hP hD hS 0 rfl rfl 6 (by decide) (hts (Cond.fieldLink RX8 39 "ReliefBuilder$Script" "planned" "I") (List.mem_of_getElem? (i := 4) rfl)) (fun _ h9 => h9) rfl (tyX8_ok 6 (by decide)) rfl rfl (Nat.le_of_ble_eq_true rfl) dX8_planCommands_96 (fun H locs hP hD hS => ?_)
                  have hP : va_P D vwCl (ce_X8 kA (zz 2) q_this q_this_tokens (ss_I (ss_A o_this 2 (upd (os_A o_this 2) (Int32.toNatClampNeg (os_I o_this 6)) x5)) 6 ((os_I o_this 6) + (1 : Int32)))) H := hP
                  have hD : va_D A (ce_X8 kA (zz 2) q_this q_this_tokens (ss_I (ss_A o_this 2 (upd (os_A o_this 2) (Int32.toNatClampNeg (os_I o_this 6)) x5)) 6 ((os_I o_this 6) + (1 : Int32)))) := hD
                  exact hB99 k6 hk6 (ss_I (ss_A o_this 2 (upd (os_A o_this 2) (Int32.toNatClampNeg (os_I o_this 6)) x5)) 6 ((os_I o_this 6) + (1 : Int32))) x2 x3 ((os_A o_this 1) (Int32.toNatClampNeg x5)) x5 _ _ _ hP hD hS (lv_sub hl [1, 2, 3, 0, 4] rfl) hf
            · rw [he_8]
              refine W.eq (g2 := F0 m 46 ls [.ref (zz 2 c_9)]) rfl ?_
              refine va_gets hx hb (hZ.2.2.2.2.1 11 (by decide)).1 hS hown (hts (Cond.fieldLink RX8 54 "ReliefBuilder$Command" "REPEAT" "LReliefBuilder$Command;") (List.mem_of_getElem? (i := 3) rfl)) (fun _ h9 => h9) dX8_planCommands_46 ?_
              obtain ⟨hc_14_k, hf⟩ := os_if hf
              refine lv_acmp_ne (rx := (some (zz 2 c_9))) (ry := (some (zz 2 11))) (tgt := 62) hx hb dX8_planCommands_49 (by decide) (fun hc_14_0 => ?_) (fun hc_14_0 => ?_)
              · have hc_14 : ¬ c_9 = 11 := fun h9 => hc_14_0 (by rw [h9])
                rw [if_neg hc_14] at hf
                refine lv_aload_n hx hb dX8_planCommands_62 rfl (lv_at hl 1 rfl) ?_
                refine va_get (D := D) (ci := 5) (v := .int (os_I o_this 6)) (C := RX8) (T := TX8) (N := 7) hx hb hUX8 (fun _ h9 => h9) hown hK hP 0 rfl rfl 6 (by decide) (hts (Cond.fieldLink RX8 39 "ReliefBuilder$Script" "planned" "I") (List.mem_of_getElem? (i := 4) rfl)) (fun _ h9 => h9) rfl dX8_planCommands_63 ?_
                refine lv_if_lt (tgt := 99) hx hb dX8_planCommands_66 (by decide) (fun hc_15 => ?_) (fun hc_15 => ?_)
                · rw [if_pos hc_15] at hf
                  exact hB99 k6 hk6 o_this x2 x3 ((os_A o_this 1) (Int32.toNatClampNeg x5)) x5 _ _ _ hP hD hS (lv_sub hl [1, 2, 3, 0, 4] rfl) hf
                · rw [if_neg hc_15] at hf
                  refine lv_aload_n hx hb dX8_planCommands_69 rfl (lv_at hl 1 rfl) ?_
                  refine va_get (D := D) (ci := 5) (v := .int (os_I o_this 6)) (C := RX8) (T := TX8) (N := 7) hx hb hUX8 (fun _ h9 => h9) hown hK hP 0 rfl rfl 6 (by decide) (hts (Cond.fieldLink RX8 39 "ReliefBuilder$Script" "planned" "I") (List.mem_of_getElem? (i := 4) rfl)) (fun _ h9 => h9) rfl dX8_planCommands_70 ?_
                  refine lv_bipush (v := 60) hx hb dX8_planCommands_73 (by decide) ?_
                  refine lv_icmp_ge (tgt := 99) hx hb dX8_planCommands_75 (by decide) (fun hc_16 => ?_) (fun hc_16 => ?_)
                  · rw [if_pos hc_16] at hf
                    exact hB99 k6 hk6 o_this x2 x3 ((os_A o_this 1) (Int32.toNatClampNeg x5)) x5 _ _ _ hP hD hS (lv_sub hl [1, 2, 3, 0, 4] rfl) hf
                  · rw [if_neg hc_16] at hf
                    refine lv_aload_n hx hb dX8_planCommands_78 rfl (lv_at hl 1 rfl) ?_
                    refine va_get (D := D) (ci := 5) (v := .ref (q_this 4)) (C := RX8) (T := TX8) (N := 7) hx hb hUX8 (fun _ h9 => h9) hown hK hP 0 rfl rfl 4 (by decide) (hts (Cond.fieldLink RX8 24 "ReliefBuilder$Script" "plan" "[I") (List.mem_of_getElem? (i := 5) rfl)) (fun _ h9 => h9) rfl dX8_planCommands_79 ?_
                    refine lv_aload_n hx hb dX8_planCommands_82 rfl (lv_at hl 1 rfl) ?_
                    refine va_get (D := D) (ci := 5) (v := .int (os_I o_this 6)) (C := RX8) (T := TX8) (N := 7) hx hb hUX8 (fun _ h9 => h9) hown hK hP 0 rfl rfl 6 (by decide) (hts (Cond.fieldLink RX8 39 "ReliefBuilder$Script" "planned" "I") (List.mem_of_getElem? (i := 4) rfl)) (fun _ h9 => h9) rfl dX8_planCommands_83 ?_
                    refine lv_iload hx hb dX8_planCommands_86 (lv_at hl 4 rfl) ?_
                    obtain ⟨hi_17, hf⟩ := os_if hf
                    refine va_iast hx hb hK hP hD hS 4 0 rfl rfl hi_17 dX8_planCommands_88 (fun H locs hP hD hS => ?_)
                    have hP : va_P D vwCl (ce_X8 kA (zz 2) q_this q_this_tokens (ss_A o_this 2 (upd (os_A o_this 2) (Int32.toNatClampNeg (os_I o_this 6)) x5))) H := hP
                    have hD : va_D A (ce_X8 kA (zz 2) q_this q_this_tokens (ss_A o_this 2 (upd (os_A o_this 2) (Int32.toNatClampNeg (os_I o_this 6)) x5))) := hD
                    refine lv_aload_n hx hb dX8_planCommands_89 rfl (lv_at hl 1 rfl) ?_
                    refine lv_dup hx hb dX8_planCommands_90 rfl ?_
                    refine va_get (D := D) (ci := 5) (v := .int (os_I o_this 6)) (C := RX8) (T := TX8) (N := 7) hx hb hUX8 (fun _ h9 => h9) hown hK hP 0 rfl rfl 6 (by decide) (hts (Cond.fieldLink RX8 39 "ReliefBuilder$Script" "planned" "I") (List.mem_of_getElem? (i := 4) rfl)) (fun _ h9 => h9) rfl dX8_planCommands_91 ?_
                    refine lv_iconst (v := 1) hx hb dX8_planCommands_94 (by decide) ?_
                    refine lv_iadd hx hb dX8_planCommands_95 ?_
                    refine va_put (D := D) (ci := 5) (v := .int ((os_I o_this 6) + (1 : Int32))) (ty := .int) (C := RX8) (T := TX8) (N := 7) hx hb hUX8 (fun _ h9 => h9) tyX8 tyX8_ok nmX8 hown hK hP hD hS 0 rfl rfl 6 (by decide) (hts (Cond.fieldLink RX8 39 "ReliefBuilder$Script" "planned" "I") (List.mem_of_getElem? (i := 4) rfl)) (fun _ h9 => h9) rfl (tyX8_ok 6 (by decide)) rfl rfl (Nat.le_of_ble_eq_true rfl) dX8_planCommands_96 (fun H locs hP hD hS => ?_)
                    have hP : va_P D vwCl (ce_X8 kA (zz 2) q_this q_this_tokens (ss_I (ss_A o_this 2 (upd (os_A o_this 2) (Int32.toNatClampNeg (os_I o_this 6)) x5)) 6 ((os_I o_this 6) + (1 : Int32)))) H := hP
                    have hD : va_D A (ce_X8 kA (zz 2) q_this q_this_tokens (ss_I (ss_A o_this 2 (upd (os_A o_this 2) (Int32.toNatClampNeg (os_I o_this 6)) x5)) 6 ((os_I o_this 6) + (1 : Int32)))) := hD
                    exact hB99 k6 hk6 (ss_I (ss_A o_this 2 (upd (os_A o_this 2) (Int32.toNatClampNeg (os_I o_this 6)) x5)) 6 ((os_I o_this 6) + (1 : Int32))) x2 x3 ((os_A o_this 1) (Int32.toNatClampNeg x5)) x5 _ _ _ hP hD hS (lv_sub hl [1, 2, 3, 0, 4] rfl) hf
              · have hc_14 : c_9 = 11 := hZ.2.2.2.2.2.1 _ _ hc_14_k (by decide) (Option.some.inj hc_14_0)
                rw [if_pos hc_14] at hf
                refine lv_aload_n hx hb dX8_planCommands_52 rfl (lv_at hl 1 rfl) ?_
                refine lv_iload hx hb dX8_planCommands_53 (lv_at hl 4 rfl) ?_
                refine lv_iload_n hx hb dX8_planCommands_55 rfl (lv_at hl 3 rfl) ?_
                obtain ⟨u_18, he_19, hf⟩ := os_bd hf
                refine mc_callV ⟨hx, hb, hml, hown, hts⟩ (mm_X8_planRepeat_v0 l zz D kA N q_this q_this_tokens o_this x5 x3 u_18 he_19) (cwV 2 hts gX8_planCommands_X8_planRepeat rfl rfl rfl (by decide +kernel) ⟨Nat.le_of_ble_eq_true rfl, Nat.le_of_ble_eq_true rfl⟩) (wc := (ce_X8 kA (zz 2) q_this q_this_tokens o_this)) (ci := 5) (q0 := 0) rfl rfl rfl hl.1 (As := [.int x5, .int x3]) (rest := []) rfl (Nat.le_of_ble_eq_true rfl) dX8_planCommands_56 ⟨Nat.le_of_ble_eq_true rfl, Nat.le_of_ble_eq_true rfl⟩ hK hP hD hS hA [0, 1, 2, 3, 4] [] [0, 1, 2, 3, 4] rfl (by decide) rfl (by decide) (by decide) rfl (by decide) (wr := []) (w2 := (ce_X8 kA (zz 2) q_this q_this_tokens o_this)) (fun H locs hP hD hS => ?_)
                have hP : va_P D vwCl (ce_X8 kA (zz 2) q_this q_this_tokens o_this) H := hP
                refine lv_goto (tgt := 99) hx hb dX8_planCommands_59 (by decide) ?_
                exact hB99 k6 hk6 o_this x2 x3 ((os_A o_this 1) (Int32.toNatClampNeg x5)) x5 _ _ _ hP hD hS (lv_sub hl [1, 2, 3, 0, 4] rfl) hf
          · rw [if_neg hc_5] at hf
            refine lv_goto (tgt := 99) hx hb dX8_planCommands_27 (by decide) ?_
            exact hB99 k6 hk6 o_this x2 x3 x4 x5 _ _ _ hP hD hS (lv_sub hl [0, 1, 2, 3, 4] rfl) hf
  unfold ff_X8_planCommands_v0 at hf
  refine lv_iload_n hx hb dX8_planCommands_0 rfl (lv_at hl 1 rfl) ?_
  refine lv_istore (lv' := [(4, .int a1), (0, .ref (q_this 0)), (1, .int a1), (2, .int a2), (3, .int a3)]) hx hb dX8_planCommands_1 hl (by decide) rfl (fun ls hl => ?_)
  refine lv_iload_n hx hb dX8_planCommands_3 rfl (lv_at hl 2 rfl) ?_
  refine lv_istore (lv' := [(5, .int a1), (4, .int a1), (0, .ref (q_this 0)), (1, .int a1), (2, .int a2), (3, .int a3)]) hx hb dX8_planCommands_4 hl (by decide) rfl (fun ls hl => ?_)
  exact hL6 N o_this a2 a3 a1 a1 _ _ _ hP hD hS (lv_sub hl [2, 4, 5, 1, 0] rfl) hf
def ff_X8_planRepeat_v1_c23 (N : Nat) (k23 : (os_T × Int32 × Int32 × Int32 × Int32) → Option (Nat × os_T)) (o_this : os_T) (x1 : Int32) (x2 : Int32) (x3 : Int32) (x4 : Int32) : Option (Nat × os_T) :=
  (if x3 ≤ x4 then some (0, o_this) else (if (60 : Int32) ≤ (os_I o_this 6) then some (0, o_this) else (if os_in x1 30 then ((ff_X8_planCommands_v0 N o_this (x1 + (1 : Int32)) ((os_A o_this 1) (Int32.toNatClampNeg x1)) (x2 + (1 : Int32))).bind fun u_10 => (if u_10.1 = 0 then k23 (u_10.2, x1, x2, x3, x4 + 1) else some (u_10.1, u_10.2))) else none)))
def ff_X8_planRepeat_v1_l23 (N : Nat) : Nat → (os_T × Int32 × Int32 × Int32 × Int32) → Option (Nat × os_T) := os_loop (fun k23 s1 => ff_X8_planRepeat_v1_c23 N k23 s1.1 s1.2.1 s1.2.2.1 s1.2.2.2.1 s1.2.2.2.2)
def ff_X8_planRepeat_v1 (N : Nat) (o_this : os_T) (a1 : Int32) (a2 : Int32) : Option (Nat × os_T) :=
  ((ff_X8_isIndex N a1).bind fun u_1 => (if u_1 = 0 then some (0, o_this) else (if a2 < (2 : Int32) then ((ff_X8_numberOf N o_this a1 (0 : Int32)).bind fun u_5 => ff_X8_planRepeat_v1_l23 N N (o_this, a1, a2, u_5, (0 : Int32))) else some (0, o_this))))
set_option maxHeartbeats 4000000 in
set_option maxRecDepth 100000 in
theorem mm_X8_planRepeat_v1 (l : Launch) (hst : l.stackTraces = false) (zz : Nat → Nat → Nat) (D : va_G) (kA : Nat → ClassId) (N : Nat) (q_this : Nat → Nat) (q_this_tokens : Nat → Nat) (o_this : os_T) (a1 : Int32) (a2 : Int32) (out : (Nat × os_T)) (hf : ff_X8_planRepeat_v1 N o_this a1 a2 = some out) : mx_C l zz D kA yX8_planRepeat wsX8_planRepeat ({ frames := 4, cells := 0, slots := 0, locals := 91 } : Room) [.ref (q_this 0), .int a1, .int a2] (ce_X8 kA (zz 2) q_this q_this_tokens o_this) out.1 none (ce_X8 kA (zz 2) q_this q_this_tokens out.2) := by
  refine mx_of (cc := cX8_planRepeat) (maxL := 5) (ret := none) (by decide) rfl (Nat.le_of_ble_eq_true rfl) ?_
  intro p e s m below meth c A B hx0 hZ hD hP hS ls hl
  obtain ⟨hx, hb, hr, hlk, hml, hown, hts, hK, hA, hnm⟩ := B
  have hown : s.vm.findClass RX8 = some m.cls := hown
  have hl : lv_has ls 5 [(0, .ref (q_this 0)), (1, .int a1), (2, .int a2)] := hl
  have hUX8 : ∀ w ∈ u_ws RX8 TX8 7, w.before [.ref (q_this 0), .int a1, .int a2].toArray s = true := fun w h => hts w (List.mem_cons_of_mem _ (List.mem_append_right _ h))
  have hL23 : ∀ (n : Nat) (o_this : os_T) (x1 : Int32) (x2 : Int32) (x3 : Int32) (x4 : Int32) (H : Heap) (locs : List Loc) (ls : Array Slot), va_P D vwCl (ce_X8 kA (zz 2) q_this q_this_tokens o_this) H → va_D A (ce_X8 kA (zz 2) q_this q_this_tokens o_this) → va_S A s.heap H locs → lv_has ls 5 [(0, .ref (q_this 0)), (1, .int x1), (2, .int x2), (3, .int x3), (4, .int x4)] → ff_X8_planRepeat_v1_l23 N n (o_this, x1, x2, x3, x4) = some out → W p l e ({ frames := 4, cells := 0, slots := 0, locals := 91 } : Room) s m [.ref (q_this 0), .int a1, .int a2].toArray below meth c H locs 0 0 (vx_MQ below (mx_Q D kA A out.1 none (ce_X8 kA (zz 2) q_this q_this_tokens out.2)) (mx_X D kA A out.1 (ce_X8 kA (zz 2) q_this q_this_tokens out.2)) [.ref (q_this 0), .int a1, .int a2].toArray s 0 0 A) (F0 m 23 ls []) := by
    intro n
    induction n with
    | zero => intro o_this x1 x2 x3 x4 H locs ls _ _ _ _ hf; cases hf
    | succ n hk23 =>
      intro o_this x1 x2 x3 x4 H locs ls hP hD hS hl hf
      have hf : ff_X8_planRepeat_v1_c23 N (ff_X8_planRepeat_v1_l23 N n) o_this x1 x2 x3 x4 = some out := hf
      generalize hke : ff_X8_planRepeat_v1_l23 N n = k23 at hk23 hf
      unfold ff_X8_planRepeat_v1_c23 at hf
      refine lv_iload hx hb dX8_planRepeat_23 (lv_at hl 4 rfl) ?_
      refine lv_iload_n hx hb dX8_planRepeat_25 rfl (lv_at hl 3 rfl) ?_
      refine lv_icmp_ge (tgt := 60) hx hb dX8_planRepeat_26 (by decide) (fun hc_7 => ?_) (fun hc_7 => ?_)
      · rw [if_pos hc_7] at hf
        rw [← Option.some.inj hf]
        exact mx_retv (Nat.le_of_ble_eq_true rfl) (Nat.le_of_ble_eq_true rfl) hx hb hr hlk hP hK hD hS dX8_planRepeat_60
      · rw [if_neg hc_7] at hf
        refine lv_aload_n hx hb dX8_planRepeat_29 rfl (lv_at hl 0 rfl) ?_
        refine va_get (D := D) (ci := 5) (v := .int (os_I o_this 6)) (C := RX8) (T := TX8) (N := 7) hx hb hUX8 (fun _ h9 => h9) hown hK hP 0 rfl rfl 6 (by decide) (hts (Cond.fieldLink RX8 39 "ReliefBuilder$Script" "planned" "I") (List.mem_of_getElem? (i := 1) rfl)) (fun _ h9 => h9) rfl dX8_planRepeat_30 ?_
        refine lv_bipush (v := 60) hx hb dX8_planRepeat_33 (by decide) ?_
        refine lv_icmp_ge (tgt := 60) hx hb dX8_planRepeat_35 (by decide) (fun hc_8 => ?_) (fun hc_8 => ?_)
        · rw [if_pos hc_8] at hf
          rw [← Option.some.inj hf]
          exact mx_retv (Nat.le_of_ble_eq_true rfl) (Nat.le_of_ble_eq_true rfl) hx hb hr hlk hP hK hD hS dX8_planRepeat_60
        · rw [if_neg hc_8] at hf
          refine lv_aload_n hx hb dX8_planRepeat_38 rfl (lv_at hl 0 rfl) ?_
          refine lv_iload_n hx hb dX8_planRepeat_39 rfl (lv_at hl 1 rfl) ?_
          refine lv_iconst (v := 1) hx hb dX8_planRepeat_40 (by decide) ?_
          refine lv_iadd hx hb dX8_planRepeat_41 ?_
          refine lv_aload_n hx hb dX8_planRepeat_42 rfl (lv_at hl 0 rfl) ?_
          refine va_get (D := D) (ci := 5) (v := .ref (q_this 3)) (C := RX8) (T := TX8) (N := 7) hx hb hUX8 (fun _ h9 => h9) hown hK hP 0 rfl rfl 3 (by decide) (hts (Cond.fieldLink RX8 21 "ReliefBuilder$Script" "ends" "[I") (List.mem_of_getElem? (i := 2) rfl)) (fun _ h9 => h9) rfl dX8_planRepeat_43 ?_
          refine lv_iload_n hx hb dX8_planRepeat_46 rfl (lv_at hl 1 rfl) ?_
          obtain ⟨hi_9, hf⟩ := os_if hf
          refine va_iald hx hb hK hP 3 0 rfl rfl hi_9 dX8_planRepeat_47 ?_
          refine lv_iload_n hx hb dX8_planRepeat_48 rfl (lv_at hl 2 rfl) ?_
          refine lv_iconst (v := 1) hx hb dX8_planRepeat_49 (by decide) ?_
          refine lv_iadd hx hb dX8_planRepeat_50 ?_
          obtain ⟨u_10, he_11, hf⟩ := os_bd hf
          refine mx_callV ⟨hx, hb, hml, hown, hts⟩ (mm_X8_planCommands_v0 l hst zz D kA N q_this q_this_tokens o_this (x1 + (1 : Int32)) ((os_A o_this 1) (Int32.toNatClampNeg x1)) (x2 + (1 : Int32)) u_10 he_11) (cwV 3 hts gX8_planRepeat_X8_planCommands rfl rfl rfl (by decide +kernel) ⟨Nat.le_of_ble_eq_true rfl, Nat.le_of_ble_eq_true rfl⟩) (wc := (ce_X8 kA (zz 2) q_this q_this_tokens o_this)) (ci := 5) (q0 := 0) rfl rfl rfl hl.1 (As := [.int (x1 + (1 : Int32)), .int ((os_A o_this 1) (Int32.toNatClampNeg x1)), .int (x2 + (1 : Int32))]) (rest := []) rfl (Nat.le_of_ble_eq_true rfl) dX8_planRepeat_51 ⟨Nat.le_of_ble_eq_true rfl, Nat.le_of_ble_eq_true rfl⟩ hK hP hD hS hA hZ [0, 1, 2, 3, 4] [] [0, 1, 2, 3, 4] rfl (by decide) rfl (by decide) (by decide) rfl (by decide) (wr := []) (w2 := (ce_X8 kA (zz 2) q_this q_this_tokens u_10.2)) (fun hx9 H locs q9 ce hP hD hS h91 h92 h93 => ?_) (fun hx9 H locs hP hD hS => ?_)
          · rw [if_neg hx9] at hf
            rw [← Option.some.inj hf]
            exact mx_out hx9 hx0 hlk hP hK hD hS h91 h92 h93 (Nat.le_of_ble_eq_true rfl) (Nat.le_of_ble_eq_true rfl)
          · rw [if_pos hx9] at hf
            refine W.widen (k := 0) (n := 0) (Nat.le_of_ble_eq_true rfl) (Nat.le_of_ble_eq_true rfl) ?_
            have hP : va_P D vwCl (ce_X8 kA (zz 2) q_this q_this_tokens u_10.2) H := hP
            refine lv_iinc (v := x4 + 1) (lv' := [(4, .int (x4 + 1)), (0, .ref (q_this 0)), (1, .int x1), (2, .int x2), (3, .int x3)]) hx hb dX8_planRepeat_54 hl (k := 4) rfl rfl (by decide) rfl (fun ls hl => ?_)
            refine lv_goto (tgt := 23) hx hb dX8_planRepeat_57 (by decide) ?_
            exact hk23 u_10.2 x1 x2 x3 (x4 + 1) _ _ _ hP hD hS (lv_sub hl [1, 2, 3, 4, 0] rfl) hf
  unfold ff_X8_planRepeat_v1 at hf
  refine lv_iload_n hx hb dX8_planRepeat_0 rfl (lv_at hl 1 rfl) ?_
  obtain ⟨u_1, he_2, hf⟩ := os_bd hf
  refine mc_callS ⟨hx, hb, hml, hown, hts⟩ (mm_X8_isIndex l D kA N a1 u_1 he_2) (va_cwS 1 hts gX8_planRepeat_X8_isIndex rfl rfl rfl (by decide +kernel) ⟨Nat.le_of_ble_eq_true rfl, Nat.le_of_ble_eq_true rfl⟩) (wc := []) rfl hl.1 (As := [.int a1]) (rest := []) rfl (Nat.le_of_ble_eq_true rfl) dX8_planRepeat_1 ⟨Nat.le_of_ble_eq_true rfl, Nat.le_of_ble_eq_true rfl⟩ hK hP hD hS hA [] [0, 1, 2, 3, 4] [0, 1, 2, 3, 4] rfl (by decide) rfl (by decide) (by decide) rfl (by decide) (wr := (ce_X8 kA (zz 2) q_this q_this_tokens o_this)) (w2 := (ce_X8 kA (zz 2) q_this q_this_tokens o_this)) (fun H locs hP hD hS => ?_)
  have hP : va_P D vwCl (ce_X8 kA (zz 2) q_this q_this_tokens o_this) H := hP
  refine lv_if_eq (tgt := 12) hx hb dX8_planRepeat_4 (by decide) (fun hc_3 => ?_) (fun hc_3 => ?_)
  · rw [if_pos hc_3] at hf
    rw [← Option.some.inj hf]
    exact mx_retv (Nat.le_of_ble_eq_true rfl) (Nat.le_of_ble_eq_true rfl) hx hb hr hlk hP hK hD hS dX8_planRepeat_12
  · rw [if_neg hc_3] at hf
    refine lv_iload_n hx hb dX8_planRepeat_7 rfl (lv_at hl 2 rfl) ?_
    refine lv_iconst (v := 2) hx hb dX8_planRepeat_8 (by decide) ?_
    refine lv_icmp_lt (tgt := 13) hx hb dX8_planRepeat_9 (by decide) (fun hc_4 => ?_) (fun hc_4 => ?_)
    · rw [if_pos hc_4] at hf
      refine lv_aload_n hx hb dX8_planRepeat_13 rfl (lv_at hl 0 rfl) ?_
      refine lv_iload_n hx hb dX8_planRepeat_14 rfl (lv_at hl 1 rfl) ?_
      refine lv_iconst (v := 0) hx hb dX8_planRepeat_15 (by decide) ?_
      obtain ⟨u_5, he_6, hf⟩ := os_bd hf
      refine mc_callV ⟨hx, hb, hml, hown, hts⟩ (mm_X8_numberOf l zz D kA N q_this q_this_tokens o_this a1 (0 : Int32) u_5 he_6) (cwV 2 hts gX8_planRepeat_X8_numberOf rfl rfl rfl (by decide +kernel) ⟨Nat.le_of_ble_eq_true rfl, Nat.le_of_ble_eq_true rfl⟩) (wc := (ce_X8 kA (zz 2) q_this q_this_tokens o_this)) (ci := 5) (q0 := 0) rfl rfl rfl hl.1 (As := [.int a1, .int (0 : Int32)]) (rest := []) rfl (Nat.le_of_ble_eq_true rfl) dX8_planRepeat_16 ⟨Nat.le_of_ble_eq_true rfl, Nat.le_of_ble_eq_true rfl⟩ hK hP hD hS hA [0, 1, 2, 3, 4] [] [0, 1, 2, 3, 4] rfl (by decide) rfl (by decide) (by decide) rfl (by decide) (wr := []) (w2 := (ce_X8 kA (zz 2) q_this q_this_tokens o_this)) (fun H locs hP hD hS => ?_)
      have hP : va_P D vwCl (ce_X8 kA (zz 2) q_this q_this_tokens o_this) H := hP
      refine lv_istore_n (lv' := [(3, .int u_5), (0, .ref (q_this 0)), (1, .int a1), (2, .int a2)]) hx hb dX8_planRepeat_19 rfl hl (by decide) rfl (fun ls hl => ?_)
      refine lv_iconst (v := 0) hx hb dX8_planRepeat_20 (by decide) ?_
      refine lv_istore (lv' := [(4, .int (0 : Int32)), (3, .int u_5), (0, .ref (q_this 0)), (1, .int a1), (2, .int a2)]) hx hb dX8_planRepeat_21 hl (by decide) rfl (fun ls hl => ?_)
      exact hL23 N o_this a1 a2 u_5 (0 : Int32) _ _ _ hP hD hS (lv_sub hl [2, 3, 4, 1, 0] rfl) hf
    · rw [if_neg hc_4] at hf
      rw [← Option.some.inj hf]
      exact mx_retv (Nat.le_of_ble_eq_true rfl) (Nat.le_of_ble_eq_true rfl) hx hb hr hlk hP hK hD hS dX8_planRepeat_12
def ff_X8_planCommands_v1_b99 (N : Nat) (k6 : (os_T × Int32 × Int32 × Int32 × Int32) → Option (Nat × os_T)) (o_this : os_T) (x2 : Int32) (x3 : Int32) (x4 : Int32) (x5 : Int32) : Option (Nat × os_T) :=
  k6 (o_this, x2, x3, x4, x5 + 1)
def ff_X8_planCommands_v1_c6 (N : Nat) (k6 : (os_T × Int32 × Int32 × Int32 × Int32) → Option (Nat × os_T)) (o_this : os_T) (x2 : Int32) (x3 : Int32) (x4 : Int32) (x5 : Int32) : Option (Nat × os_T) :=
  (if x2 ≤ x5 then some (0, o_this) else ((ff_X8_isIndex N x5).bind fun u_2 => (if u_2 = 0 then some (0, o_this) else (if x4 ≤ x5 then (if os_in x5 30 then (if os_in x5 30 then (os_opt ((os_R o_this 0) (Int32.toNatClampNeg x5)) (if (os_I o_this 6) < 0 then ff_X8_planCommands_v1_b99 N k6 o_this x2 x3 ((os_A o_this 1) (Int32.toNatClampNeg x5)) x5 else (if (60 : Int32) ≤ (os_I o_this 6) then ff_X8_planCommands_v1_b99 N k6 o_this x2 x3 ((os_A o_this 1) (Int32.toNatClampNeg x5)) x5 else (if os_in (os_I o_this 6) 60 then ff_X8_planCommands_v1_b99 N k6 (ss_I (ss_A o_this 2 (upd (os_A o_this 2) (Int32.toNatClampNeg (os_I o_this 6)) x5)) 6 ((os_I o_this 6) + (1 : Int32))) x2 x3 ((os_A o_this 1) (Int32.toNatClampNeg x5)) x5 else none))) (fun c_9 => (if c_9 < 12 then (if c_9 = 11 then ((ff_X8_planRepeat_v1 N o_this x5 x3).bind fun u_18 => (if u_18.1 = 0 then ff_X8_planCommands_v1_b99 N k6 u_18.2 x2 x3 ((os_A o_this 1) (Int32.toNatClampNeg x5)) x5 else some (u_18.1, u_18.2))) else (if (os_I o_this 6) < 0 then ff_X8_planCommands_v1_b99 N k6 o_this x2 x3 ((os_A o_this 1) (Int32.toNatClampNeg x5)) x5 else (if (60 : Int32) ≤ (os_I o_this 6) then ff_X8_planCommands_v1_b99 N k6 o_this x2 x3 ((os_A o_this 1) (Int32.toNatClampNeg x5)) x5 else (if os_in (os_I o_this 6) 60 then ff_X8_planCommands_v1_b99 N k6 (ss_I (ss_A o_this 2 (upd (os_A o_this 2) (Int32.toNatClampNeg (os_I o_this 6)) x5)) 6 ((os_I o_this 6) + (1 : Int32))) x2 x3 ((os_A o_this 1) (Int32.toNatClampNeg x5)) x5 else none)))) else none))) else none) else none) else ff_X8_planCommands_v1_b99 N k6 o_this x2 x3 x4 x5))))
def ff_X8_planCommands_v1_l6 (N : Nat) : Nat → (os_T × Int32 × Int32 × Int32 × Int32) → Option (Nat × os_T) := os_loop (fun k6 s1 => ff_X8_planCommands_v1_c6 N k6 s1.1 s1.2.1 s1.2.2.1 s1.2.2.2.1 s1.2.2.2.2)
def ff_X8_planCommands_v1 (N : Nat) (o_this : os_T) (a1 : Int32) (a2 : Int32) (a3 : Int32) : Option (Nat × os_T) :=
  ff_X8_planCommands_v1_l6 N N (o_this, a2, a3, a1, a1)
set_option maxHeartbeats 4000000 in
set_option maxRecDepth 100000 in
theorem mm_X8_planCommands_v1 (l : Launch) (hst : l.stackTraces = false) (zz : Nat → Nat → Nat) (D : va_G) (kA : Nat → ClassId) (N : Nat) (q_this : Nat → Nat) (q_this_tokens : Nat → Nat) (o_this : os_T) (a1 : Int32) (a2 : Int32) (a3 : Int32) (out : (Nat × os_T)) (hf : ff_X8_planCommands_v1 N o_this a1 a2 a3 = some out) : mx_C l zz D kA yX8_planCommands wsX8_planCommands ({ frames := 5, cells := 0, slots := 0, locals := 115 } : Room) [.ref (q_this 0), .int a1, .int a2, .int a3] (ce_X8 kA (zz 2) q_this q_this_tokens o_this) out.1 none (ce_X8 kA (zz 2) q_this q_this_tokens out.2) := by
  refine mx_of (cc := cX8_planCommands) (maxL := 6) (ret := none) (by decide) rfl (Nat.le_of_ble_eq_true rfl) ?_
  intro p e s m below meth c A B hx0 hZ hD hP hS ls hl
  obtain ⟨hx, hb, hr, hlk, hml, hown, hts, hK, hA, hnm⟩ := B
  have hown : s.vm.findClass RX8 = some m.cls := hown
  have hl : lv_has ls 6 [(0, .ref (q_this 0)), (1, .int a1), (2, .int a2), (3, .int a3)] := hl
  have hUX8 : ∀ w ∈ u_ws RX8 TX8 7, w.before [.ref (q_this 0), .int a1, .int a2, .int a3].toArray s = true := fun w h => hts w (List.mem_cons_of_mem _ (List.mem_append_right _ h))
  have hB99 : ∀ (k6 : (os_T × Int32 × Int32 × Int32 × Int32) → Option (Nat × os_T)), (∀ (o_this : os_T) (x2 : Int32) (x3 : Int32) (x4 : Int32) (x5 : Int32) (H : Heap) (locs : List Loc) (ls : Array Slot), va_P D vwCl (ce_X8 kA (zz 2) q_this q_this_tokens o_this) H → va_D A (ce_X8 kA (zz 2) q_this q_this_tokens o_this) → va_S A s.heap H locs → lv_has ls 6 [(0, .ref (q_this 0)), (2, .int x2), (3, .int x3), (4, .int x4), (5, .int x5)] → k6 (o_this, x2, x3, x4, x5) = some out → W p l e ({ frames := 5, cells := 0, slots := 0, locals := 115 } : Room) s m [.ref (q_this 0), .int a1, .int a2, .int a3].toArray below meth c H locs 0 0 (vx_MQ below (mx_Q D kA A out.1 none (ce_X8 kA (zz 2) q_this q_this_tokens out.2)) (mx_X D kA A out.1 (ce_X8 kA (zz 2) q_this q_this_tokens out.2)) [.ref (q_this 0), .int a1, .int a2, .int a3].toArray s 0 0 A) (F0 m 6 ls [])) → ∀ (o_this : os_T) (x2 : Int32) (x3 : Int32) (x4 : Int32) (x5 : Int32) (H : Heap) (locs : List Loc) (ls : Array Slot), va_P D vwCl (ce_X8 kA (zz 2) q_this q_this_tokens o_this) H → va_D A (ce_X8 kA (zz 2) q_this q_this_tokens o_this) → va_S A s.heap H locs → lv_has ls 6 [(0, .ref (q_this 0)), (2, .int x2), (3, .int x3), (4, .int x4), (5, .int x5)] → ff_X8_planCommands_v1_b99 N k6 o_this x2 x3 x4 x5 = some out → W p l e ({ frames := 5, cells := 0, slots := 0, locals := 115 } : Room) s m [.ref (q_this 0), .int a1, .int a2, .int a3].toArray below meth c H locs 0 0 (vx_MQ below (mx_Q D kA A out.1 none (ce_X8 kA (zz 2) q_this q_this_tokens out.2)) (mx_X D kA A out.1 (ce_X8 kA (zz 2) q_this q_this_tokens out.2)) [.ref (q_this 0), .int a1, .int a2, .int a3].toArray s 0 0 A) (F0 m 99 ls []) := by
    intro k6 hk6 o_this x2 x3 x4 x5 H locs ls hP hD hS hl hf
    unfold ff_X8_planCommands_v1_b99 at hf
    refine lv_iinc (v := x5 + 1) (lv' := [(5, .int (x5 + 1)), (0, .ref (q_this 0)), (2, .int x2), (3, .int x3), (4, .int x4)]) hx hb dX8_planCommands_99 hl (k := 4) rfl rfl (by decide) rfl (fun ls hl => ?_)
    refine lv_goto (tgt := 6) hx hb dX8_planCommands_102 (by decide) ?_
    exact hk6 o_this x2 x3 x4 (x5 + 1) _ _ _ hP hD hS (lv_sub hl [1, 2, 3, 4, 0] rfl) hf
  have hL6 : ∀ (n : Nat) (o_this : os_T) (x2 : Int32) (x3 : Int32) (x4 : Int32) (x5 : Int32) (H : Heap) (locs : List Loc) (ls : Array Slot), va_P D vwCl (ce_X8 kA (zz 2) q_this q_this_tokens o_this) H → va_D A (ce_X8 kA (zz 2) q_this q_this_tokens o_this) → va_S A s.heap H locs → lv_has ls 6 [(0, .ref (q_this 0)), (2, .int x2), (3, .int x3), (4, .int x4), (5, .int x5)] → ff_X8_planCommands_v1_l6 N n (o_this, x2, x3, x4, x5) = some out → W p l e ({ frames := 5, cells := 0, slots := 0, locals := 115 } : Room) s m [.ref (q_this 0), .int a1, .int a2, .int a3].toArray below meth c H locs 0 0 (vx_MQ below (mx_Q D kA A out.1 none (ce_X8 kA (zz 2) q_this q_this_tokens out.2)) (mx_X D kA A out.1 (ce_X8 kA (zz 2) q_this q_this_tokens out.2)) [.ref (q_this 0), .int a1, .int a2, .int a3].toArray s 0 0 A) (F0 m 6 ls []) := by
    intro n
    induction n with
    | zero => intro o_this x2 x3 x4 x5 H locs ls _ _ _ _ hf; cases hf
    | succ n hk6 =>
      intro o_this x2 x3 x4 x5 H locs ls hP hD hS hl hf
      have hf : ff_X8_planCommands_v1_c6 N (ff_X8_planCommands_v1_l6 N n) o_this x2 x3 x4 x5 = some out := hf
      generalize hke : ff_X8_planCommands_v1_l6 N n = k6 at hk6 hf
      unfold ff_X8_planCommands_v1_c6 at hf
      refine lv_iload hx hb dX8_planCommands_6 (lv_at hl 4 rfl) ?_
      refine lv_iload_n hx hb dX8_planCommands_8 rfl (lv_at hl 1 rfl) ?_
      refine lv_icmp_ge (tgt := 105) hx hb dX8_planCommands_9 (by decide) (fun hc_1 => ?_) (fun hc_1 => ?_)
      · rw [if_pos hc_1] at hf
        rw [← Option.some.inj hf]
        exact mx_retv (Nat.le_of_ble_eq_true rfl) (Nat.le_of_ble_eq_true rfl) hx hb hr hlk hP hK hD hS dX8_planCommands_105
      · rw [if_neg hc_1] at hf
        refine lv_iload hx hb dX8_planCommands_12 (lv_at hl 4 rfl) ?_
        obtain ⟨u_2, he_3, hf⟩ := os_bd hf
        refine mc_callS ⟨hx, hb, hml, hown, hts⟩ (mm_X8_isIndex l D kA N x5 u_2 he_3) (va_cwS 1 hts gX8_planCommands_X8_isIndex rfl rfl rfl (by decide +kernel) ⟨Nat.le_of_ble_eq_true rfl, Nat.le_of_ble_eq_true rfl⟩) (wc := []) rfl hl.1 (As := [.int x5]) (rest := []) rfl (Nat.le_of_ble_eq_true rfl) dX8_planCommands_14 ⟨Nat.le_of_ble_eq_true rfl, Nat.le_of_ble_eq_true rfl⟩ hK hP hD hS hA [] [0, 1, 2, 3, 4] [0, 1, 2, 3, 4] rfl (by decide) rfl (by decide) (by decide) rfl (by decide) (wr := (ce_X8 kA (zz 2) q_this q_this_tokens o_this)) (w2 := (ce_X8 kA (zz 2) q_this q_this_tokens o_this)) (fun H locs hP hD hS => ?_)
        have hP : va_P D vwCl (ce_X8 kA (zz 2) q_this q_this_tokens o_this) H := hP
        refine lv_if_eq (tgt := 105) hx hb dX8_planCommands_17 (by decide) (fun hc_4 => ?_) (fun hc_4 => ?_)
        · rw [if_pos hc_4] at hf
          rw [← Option.some.inj hf]
          exact mx_retv (Nat.le_of_ble_eq_true rfl) (Nat.le_of_ble_eq_true rfl) hx hb hr hlk hP hK hD hS dX8_planCommands_105
        · rw [if_neg hc_4] at hf
          refine lv_iload hx hb dX8_planCommands_20 (lv_at hl 4 rfl) ?_
          refine lv_iload hx hb dX8_planCommands_22 (lv_at hl 3 rfl) ?_
          refine lv_icmp_ge (tgt := 30) hx hb dX8_planCommands_24 (by decide) (fun hc_5 => ?_) (fun hc_5 => ?_)
          · rw [if_pos hc_5] at hf
            refine lv_aload_n hx hb dX8_planCommands_30 rfl (lv_at hl 0 rfl) ?_
            refine va_get (D := D) (ci := 5) (v := .ref (q_this 3)) (C := RX8) (T := TX8) (N := 7) hx hb hUX8 (fun _ h9 => h9) hown hK hP 0 rfl rfl 3 (by decide) (hts (Cond.fieldLink RX8 21 "ReliefBuilder$Script" "ends" "[I") (List.mem_of_getElem? (i := 1) rfl)) (fun _ h9 => h9) rfl dX8_planCommands_31 ?_
            refine lv_iload hx hb dX8_planCommands_34 (lv_at hl 4 rfl) ?_
            obtain ⟨hi_6, hf⟩ := os_if hf
            refine va_iald hx hb hK hP 3 0 rfl rfl hi_6 dX8_planCommands_36 ?_
            refine lv_istore (lv' := [(4, .int ((os_A o_this 1) (Int32.toNatClampNeg x5))), (0, .ref (q_this 0)), (2, .int x2), (3, .int x3), (5, .int x5)]) hx hb dX8_planCommands_37 hl (by decide) rfl (fun ls hl => ?_)
            refine lv_aload_n hx hb dX8_planCommands_39 rfl (lv_at hl 1 rfl) ?_
            refine va_get (D := D) (ci := 5) (v := .ref (q_this 1)) (C := RX8) (T := TX8) (N := 7) hx hb hUX8 (fun _ h9 => h9) hown hK hP 0 rfl rfl 1 (by decide) (hts (Cond.fieldLink RX8 13 "ReliefBuilder$Script" "commands" "[LReliefBuilder$Command;") (List.mem_of_getElem? (i := 2) rfl)) (fun _ h9 => h9) rfl dX8_planCommands_40 ?_
            refine lv_iload hx hb dX8_planCommands_43 (lv_at hl 4 rfl) ?_
            obtain ⟨hi_7, hf⟩ := os_if hf
            refine va_aldq hx hb hK hP 1 7 rfl rfl hi_7 dX8_planCommands_45 ?_
            rcases os_op hf with ⟨he_8, hf⟩ | ⟨c_9, he_8, hf⟩
            · rw [he_8]
              refine W.eq (g2 := F0 m 46 ls [.null]) rfl ?_
              refine va_gets hx hb (hZ.2.2.2.2.1 11 (by decide)).1 hS hown (hts (Cond.fieldLink RX8 54 "ReliefBuilder$Command" "REPEAT" "LReliefBuilder$Command;") (List.mem_of_getElem? (i := 3) rfl)) (fun _ h9 => h9) dX8_planCommands_46 ?_
              refine lv_acmp_ne (rx := none) (ry := (some (zz 2 11))) (tgt := 62) hx hb dX8_planCommands_49 (by decide) (fun _ => ?_) (fun h9 => by cases h9)
              refine lv_aload_n hx hb dX8_planCommands_62 rfl (lv_at hl 1 rfl) ?_
              refine va_get (D := D) (ci := 5) (v := .int (os_I o_this 6)) (C := RX8) (T := TX8) (N := 7) hx hb hUX8 (fun _ h9 => h9) hown hK hP 0 rfl rfl 6 (by decide) (hts (Cond.fieldLink RX8 39 "ReliefBuilder$Script" "planned" "I") (List.mem_of_getElem? (i := 4) rfl)) (fun _ h9 => h9) rfl dX8_planCommands_63 ?_
              refine lv_if_lt (tgt := 99) hx hb dX8_planCommands_66 (by decide) (fun hc_11 => ?_) (fun hc_11 => ?_)
              · rw [if_pos hc_11] at hf
                exact hB99 k6 hk6 o_this x2 x3 ((os_A o_this 1) (Int32.toNatClampNeg x5)) x5 _ _ _ hP hD hS (lv_sub hl [1, 2, 3, 0, 4] rfl) hf
              · rw [if_neg hc_11] at hf
                refine lv_aload_n hx hb dX8_planCommands_69 rfl (lv_at hl 1 rfl) ?_
                refine va_get (D := D) (ci := 5) (v := .int (os_I o_this 6)) (C := RX8) (T := TX8) (N := 7) hx hb hUX8 (fun _ h9 => h9) hown hK hP 0 rfl rfl 6 (by decide) (hts (Cond.fieldLink RX8 39 "ReliefBuilder$Script" "planned" "I") (List.mem_of_getElem? (i := 4) rfl)) (fun _ h9 => h9) rfl dX8_planCommands_70 ?_
                refine lv_bipush (v := 60) hx hb dX8_planCommands_73 (by decide) ?_
                refine lv_icmp_ge (tgt := 99) hx hb dX8_planCommands_75 (by decide) (fun hc_12 => ?_) (fun hc_12 => ?_)
                · rw [if_pos hc_12] at hf
                  exact hB99 k6 hk6 o_this x2 x3 ((os_A o_this 1) (Int32.toNatClampNeg x5)) x5 _ _ _ hP hD hS (lv_sub hl [1, 2, 3, 0, 4] rfl) hf
                · rw [if_neg hc_12] at hf
                  refine lv_aload_n hx hb dX8_planCommands_78 rfl (lv_at hl 1 rfl) ?_
                  refine va_get (D := D) (ci := 5) (v := .ref (q_this 4)) (C := RX8) (T := TX8) (N := 7) hx hb hUX8 (fun _ h9 => h9) hown hK hP 0 rfl rfl 4 (by decide) (hts (Cond.fieldLink RX8 24 "ReliefBuilder$Script" "plan" "[I") (List.mem_of_getElem? (i := 5) rfl)) (fun _ h9 => h9) rfl dX8_planCommands_79 ?_
                  refine lv_aload_n hx hb dX8_planCommands_82 rfl (lv_at hl 1 rfl) ?_
                  refine va_get (D := D) (ci := 5) (v := .int (os_I o_this 6)) (C := RX8) (T := TX8) (N := 7) hx hb hUX8 (fun _ h9 => h9) hown hK hP 0 rfl rfl 6 (by decide) (hts (Cond.fieldLink RX8 39 "ReliefBuilder$Script" "planned" "I") (List.mem_of_getElem? (i := 4) rfl)) (fun _ h9 => h9) rfl dX8_planCommands_83 ?_
                  refine lv_iload hx hb dX8_planCommands_86 (lv_at hl 4 rfl) ?_
                  obtain ⟨hi_13, hf⟩ := os_if hf
                  refine va_iast hx hb hK hP hD hS 4 0 rfl rfl hi_13 dX8_planCommands_88 (fun H locs hP hD hS => ?_)
                  have hP : va_P D vwCl (ce_X8 kA (zz 2) q_this q_this_tokens (ss_A o_this 2 (upd (os_A o_this 2) (Int32.toNatClampNeg (os_I o_this 6)) x5))) H := hP
                  have hD : va_D A (ce_X8 kA (zz 2) q_this q_this_tokens (ss_A o_this 2 (upd (os_A o_this 2) (Int32.toNatClampNeg (os_I o_this 6)) x5))) := hD
                  refine lv_aload_n hx hb dX8_planCommands_89 rfl (lv_at hl 1 rfl) ?_
                  refine lv_dup hx hb dX8_planCommands_90 rfl ?_
                  refine va_get (D := D) (ci := 5) (v := .int (os_I o_this 6)) (C := RX8) (T := TX8) (N := 7) hx hb hUX8 (fun _ h9 => h9) hown hK hP 0 rfl rfl 6 (by decide) (hts (Cond.fieldLink RX8 39 "ReliefBuilder$Script" "planned" "I") (List.mem_of_getElem? (i := 4) rfl)) (fun _ h9 => h9) rfl dX8_planCommands_91 ?_
                  refine lv_iconst (v := 1) hx hb dX8_planCommands_94 (by decide) ?_
                  refine lv_iadd hx hb dX8_planCommands_95 ?_
                  refine va_put (D := D) (ci := 5) (v := .int ((os_I o_this 6) + (1 : Int32))) (ty := .int) (C := RX8) (T := TX8) (N := 7) hx hb hUX8 (fun _ h9 => h9) tyX8 tyX8_ok nmX8 hown hK hP hD hS 0 rfl rfl 6 (by decide) (hts (Cond.fieldLink RX8 39 "ReliefBuilder$Script" "planned" "I") (List.mem_of_getElem? (i := 4) rfl)) (fun _ h9 => h9) rfl (tyX8_ok 6 (by decide)) rfl rfl (Nat.le_of_ble_eq_true rfl) dX8_planCommands_96 (fun H locs hP hD hS => ?_)
                  have hP : va_P D vwCl (ce_X8 kA (zz 2) q_this q_this_tokens (ss_I (ss_A o_this 2 (upd (os_A o_this 2) (Int32.toNatClampNeg (os_I o_this 6)) x5)) 6 ((os_I o_this 6) + (1 : Int32)))) H := hP
                  have hD : va_D A (ce_X8 kA (zz 2) q_this q_this_tokens (ss_I (ss_A o_this 2 (upd (os_A o_this 2) (Int32.toNatClampNeg (os_I o_this 6)) x5)) 6 ((os_I o_this 6) + (1 : Int32)))) := hD
                  exact hB99 k6 hk6 (ss_I (ss_A o_this 2 (upd (os_A o_this 2) (Int32.toNatClampNeg (os_I o_this 6)) x5)) 6 ((os_I o_this 6) + (1 : Int32))) x2 x3 ((os_A o_this 1) (Int32.toNatClampNeg x5)) x5 _ _ _ hP hD hS (lv_sub hl [1, 2, 3, 0, 4] rfl) hf
            · rw [he_8]
              refine W.eq (g2 := F0 m 46 ls [.ref (zz 2 c_9)]) rfl ?_
              refine va_gets hx hb (hZ.2.2.2.2.1 11 (by decide)).1 hS hown (hts (Cond.fieldLink RX8 54 "ReliefBuilder$Command" "REPEAT" "LReliefBuilder$Command;") (List.mem_of_getElem? (i := 3) rfl)) (fun _ h9 => h9) dX8_planCommands_46 ?_
              obtain ⟨hc_14_k, hf⟩ := os_if hf
              refine lv_acmp_ne (rx := (some (zz 2 c_9))) (ry := (some (zz 2 11))) (tgt := 62) hx hb dX8_planCommands_49 (by decide) (fun hc_14_0 => ?_) (fun hc_14_0 => ?_)
              · have hc_14 : ¬ c_9 = 11 := fun h9 => hc_14_0 (by rw [h9])
                rw [if_neg hc_14] at hf
                refine lv_aload_n hx hb dX8_planCommands_62 rfl (lv_at hl 1 rfl) ?_
                refine va_get (D := D) (ci := 5) (v := .int (os_I o_this 6)) (C := RX8) (T := TX8) (N := 7) hx hb hUX8 (fun _ h9 => h9) hown hK hP 0 rfl rfl 6 (by decide) (hts (Cond.fieldLink RX8 39 "ReliefBuilder$Script" "planned" "I") (List.mem_of_getElem? (i := 4) rfl)) (fun _ h9 => h9) rfl dX8_planCommands_63 ?_
                refine lv_if_lt (tgt := 99) hx hb dX8_planCommands_66 (by decide) (fun hc_15 => ?_) (fun hc_15 => ?_)
                · rw [if_pos hc_15] at hf
                  exact hB99 k6 hk6 o_this x2 x3 ((os_A o_this 1) (Int32.toNatClampNeg x5)) x5 _ _ _ hP hD hS (lv_sub hl [1, 2, 3, 0, 4] rfl) hf
                · rw [if_neg hc_15] at hf
                  refine lv_aload_n hx hb dX8_planCommands_69 rfl (lv_at hl 1 rfl) ?_
                  refine va_get (D := D) (ci := 5) (v := .int (os_I o_this 6)) (C := RX8) (T := TX8) (N := 7) hx hb hUX8 (fun _ h9 => h9) hown hK hP 0 rfl rfl 6 (by decide) (hts (Cond.fieldLink RX8 39 "ReliefBuilder$Script" "planned" "I") (List.mem_of_getElem? (i := 4) rfl)) (fun _ h9 => h9) rfl dX8_planCommands_70 ?_
                  refine lv_bipush (v := 60) hx hb dX8_planCommands_73 (by decide) ?_
                  refine lv_icmp_ge (tgt := 99) hx hb dX8_planCommands_75 (by decide) (fun hc_16 => ?_) (fun hc_16 => ?_)
                  · rw [if_pos hc_16] at hf
                    exact hB99 k6 hk6 o_this x2 x3 ((os_A o_this 1) (Int32.toNatClampNeg x5)) x5 _ _ _ hP hD hS (lv_sub hl [1, 2, 3, 0, 4] rfl) hf
                  · rw [if_neg hc_16] at hf
                    refine lv_aload_n hx hb dX8_planCommands_78 rfl (lv_at hl 1 rfl) ?_
                    refine va_get (D := D) (ci := 5) (v := .ref (q_this 4)) (C := RX8) (T := TX8) (N := 7) hx hb hUX8 (fun _ h9 => h9) hown hK hP 0 rfl rfl 4 (by decide) (hts (Cond.fieldLink RX8 24 "ReliefBuilder$Script" "plan" "[I") (List.mem_of_getElem? (i := 5) rfl)) (fun _ h9 => h9) rfl dX8_planCommands_79 ?_
                    refine lv_aload_n hx hb dX8_planCommands_82 rfl (lv_at hl 1 rfl) ?_
                    refine va_get (D := D) (ci := 5) (v := .int (os_I o_this 6)) (C := RX8) (T := TX8) (N := 7) hx hb hUX8 (fun _ h9 => h9) hown hK hP 0 rfl rfl 6 (by decide) (hts (Cond.fieldLink RX8 39 "ReliefBuilder$Script" "planned" "I") (List.mem_of_getElem? (i := 4) rfl)) (fun _ h9 => h9) rfl dX8_planCommands_83 ?_
                    refine lv_iload hx hb dX8_planCommands_86 (lv_at hl 4 rfl) ?_
                    obtain ⟨hi_17, hf⟩ := os_if hf
                    refine va_iast hx hb hK hP hD hS 4 0 rfl rfl hi_17 dX8_planCommands_88 (fun H locs hP hD hS => ?_)
                    have hP : va_P D vwCl (ce_X8 kA (zz 2) q_this q_this_tokens (ss_A o_this 2 (upd (os_A o_this 2) (Int32.toNatClampNeg (os_I o_this 6)) x5))) H := hP
                    have hD : va_D A (ce_X8 kA (zz 2) q_this q_this_tokens (ss_A o_this 2 (upd (os_A o_this 2) (Int32.toNatClampNeg (os_I o_this 6)) x5))) := hD
                    refine lv_aload_n hx hb dX8_planCommands_89 rfl (lv_at hl 1 rfl) ?_
                    refine lv_dup hx hb dX8_planCommands_90 rfl ?_
                    refine va_get (D := D) (ci := 5) (v := .int (os_I o_this 6)) (C := RX8) (T := TX8) (N := 7) hx hb hUX8 (fun _ h9 => h9) hown hK hP 0 rfl rfl 6 (by decide) (hts (Cond.fieldLink RX8 39 "ReliefBuilder$Script" "planned" "I") (List.mem_of_getElem? (i := 4) rfl)) (fun _ h9 => h9) rfl dX8_planCommands_91 ?_
                    refine lv_iconst (v := 1) hx hb dX8_planCommands_94 (by decide) ?_
                    refine lv_iadd hx hb dX8_planCommands_95 ?_
                    refine va_put (D := D) (ci := 5) (v := .int ((os_I o_this 6) + (1 : Int32))) (ty := .int) (C := RX8) (T := TX8) (N := 7) hx hb hUX8 (fun _ h9 => h9) tyX8 tyX8_ok nmX8 hown hK hP hD hS 0 rfl rfl 6 (by decide) (hts (Cond.fieldLink RX8 39 "ReliefBuilder$Script" "planned" "I") (List.mem_of_getElem? (i := 4) rfl)) (fun _ h9 => h9) rfl (tyX8_ok 6 (by decide)) rfl rfl (Nat.le_of_ble_eq_true rfl) dX8_planCommands_96 (fun H locs hP hD hS => ?_)
                    have hP : va_P D vwCl (ce_X8 kA (zz 2) q_this q_this_tokens (ss_I (ss_A o_this 2 (upd (os_A o_this 2) (Int32.toNatClampNeg (os_I o_this 6)) x5)) 6 ((os_I o_this 6) + (1 : Int32)))) H := hP
                    have hD : va_D A (ce_X8 kA (zz 2) q_this q_this_tokens (ss_I (ss_A o_this 2 (upd (os_A o_this 2) (Int32.toNatClampNeg (os_I o_this 6)) x5)) 6 ((os_I o_this 6) + (1 : Int32)))) := hD
                    exact hB99 k6 hk6 (ss_I (ss_A o_this 2 (upd (os_A o_this 2) (Int32.toNatClampNeg (os_I o_this 6)) x5)) 6 ((os_I o_this 6) + (1 : Int32))) x2 x3 ((os_A o_this 1) (Int32.toNatClampNeg x5)) x5 _ _ _ hP hD hS (lv_sub hl [1, 2, 3, 0, 4] rfl) hf
              · have hc_14 : c_9 = 11 := hZ.2.2.2.2.2.1 _ _ hc_14_k (by decide) (Option.some.inj hc_14_0)
                rw [if_pos hc_14] at hf
                refine lv_aload_n hx hb dX8_planCommands_52 rfl (lv_at hl 1 rfl) ?_
                refine lv_iload hx hb dX8_planCommands_53 (lv_at hl 4 rfl) ?_
                refine lv_iload_n hx hb dX8_planCommands_55 rfl (lv_at hl 3 rfl) ?_
                obtain ⟨u_18, he_19, hf⟩ := os_bd hf
                refine mx_callV ⟨hx, hb, hml, hown, hts⟩ (mm_X8_planRepeat_v1 l hst zz D kA N q_this q_this_tokens o_this x5 x3 u_18 he_19) (cwV 2 hts gX8_planCommands_X8_planRepeat rfl rfl rfl (by decide +kernel) ⟨Nat.le_of_ble_eq_true rfl, Nat.le_of_ble_eq_true rfl⟩) (wc := (ce_X8 kA (zz 2) q_this q_this_tokens o_this)) (ci := 5) (q0 := 0) rfl rfl rfl hl.1 (As := [.int x5, .int x3]) (rest := []) rfl (Nat.le_of_ble_eq_true rfl) dX8_planCommands_56 ⟨Nat.le_of_ble_eq_true rfl, Nat.le_of_ble_eq_true rfl⟩ hK hP hD hS hA hZ [0, 1, 2, 3, 4] [] [0, 1, 2, 3, 4] rfl (by decide) rfl (by decide) (by decide) rfl (by decide) (wr := []) (w2 := (ce_X8 kA (zz 2) q_this q_this_tokens u_18.2)) (fun hx9 H locs q9 ce hP hD hS h91 h92 h93 => ?_) (fun hx9 H locs hP hD hS => ?_)
                · rw [if_neg hx9] at hf
                  rw [← Option.some.inj hf]
                  exact mx_out hx9 hx0 hlk hP hK hD hS h91 h92 h93 (Nat.le_of_ble_eq_true rfl) (Nat.le_of_ble_eq_true rfl)
                · rw [if_pos hx9] at hf
                  refine W.widen (k := 0) (n := 0) (Nat.le_of_ble_eq_true rfl) (Nat.le_of_ble_eq_true rfl) ?_
                  have hP : va_P D vwCl (ce_X8 kA (zz 2) q_this q_this_tokens u_18.2) H := hP
                  refine lv_goto (tgt := 99) hx hb dX8_planCommands_59 (by decide) ?_
                  exact hB99 k6 hk6 u_18.2 x2 x3 ((os_A o_this 1) (Int32.toNatClampNeg x5)) x5 _ _ _ hP hD hS (lv_sub hl [1, 2, 3, 0, 4] rfl) hf
          · rw [if_neg hc_5] at hf
            refine lv_goto (tgt := 99) hx hb dX8_planCommands_27 (by decide) ?_
            exact hB99 k6 hk6 o_this x2 x3 x4 x5 _ _ _ hP hD hS (lv_sub hl [0, 1, 2, 3, 4] rfl) hf
  unfold ff_X8_planCommands_v1 at hf
  refine lv_iload_n hx hb dX8_planCommands_0 rfl (lv_at hl 1 rfl) ?_
  refine lv_istore (lv' := [(4, .int a1), (0, .ref (q_this 0)), (1, .int a1), (2, .int a2), (3, .int a3)]) hx hb dX8_planCommands_1 hl (by decide) rfl (fun ls hl => ?_)
  refine lv_iload_n hx hb dX8_planCommands_3 rfl (lv_at hl 2 rfl) ?_
  refine lv_istore (lv' := [(5, .int a1), (4, .int a1), (0, .ref (q_this 0)), (1, .int a1), (2, .int a2), (3, .int a3)]) hx hb dX8_planCommands_4 hl (by decide) rfl (fun ls hl => ?_)
  exact hL6 N o_this a2 a3 a1 a1 _ _ _ hP hD hS (lv_sub hl [2, 4, 5, 1, 0] rfl) hf
def ff_X8_planRepeat_v2_c23 (N : Nat) (k23 : (os_T × Int32 × Int32 × Int32 × Int32) → Option (Nat × os_T)) (o_this : os_T) (x1 : Int32) (x2 : Int32) (x3 : Int32) (x4 : Int32) : Option (Nat × os_T) :=
  (if x3 ≤ x4 then some (0, o_this) else (if (60 : Int32) ≤ (os_I o_this 6) then some (0, o_this) else (if os_in x1 30 then ((ff_X8_planCommands_v1 N o_this (x1 + (1 : Int32)) ((os_A o_this 1) (Int32.toNatClampNeg x1)) (x2 + (1 : Int32))).bind fun u_10 => (if u_10.1 = 0 then k23 (u_10.2, x1, x2, x3, x4 + 1) else some (u_10.1, u_10.2))) else none)))
def ff_X8_planRepeat_v2_l23 (N : Nat) : Nat → (os_T × Int32 × Int32 × Int32 × Int32) → Option (Nat × os_T) := os_loop (fun k23 s1 => ff_X8_planRepeat_v2_c23 N k23 s1.1 s1.2.1 s1.2.2.1 s1.2.2.2.1 s1.2.2.2.2)
def ff_X8_planRepeat_v2 (N : Nat) (o_this : os_T) (a1 : Int32) (a2 : Int32) : Option (Nat × os_T) :=
  ((ff_X8_isIndex N a1).bind fun u_1 => (if u_1 = 0 then some (0, o_this) else (if a2 < (2 : Int32) then ((ff_X8_numberOf N o_this a1 (0 : Int32)).bind fun u_5 => ff_X8_planRepeat_v2_l23 N N (o_this, a1, a2, u_5, (0 : Int32))) else some (0, o_this))))
set_option maxHeartbeats 4000000 in
set_option maxRecDepth 100000 in
theorem mm_X8_planRepeat_v2 (l : Launch) (hst : l.stackTraces = false) (zz : Nat → Nat → Nat) (D : va_G) (kA : Nat → ClassId) (N : Nat) (q_this : Nat → Nat) (q_this_tokens : Nat → Nat) (o_this : os_T) (a1 : Int32) (a2 : Int32) (out : (Nat × os_T)) (hf : ff_X8_planRepeat_v2 N o_this a1 a2 = some out) : mx_C l zz D kA yX8_planRepeat wsX8_planRepeat ({ frames := 6, cells := 0, slots := 0, locals := 140 } : Room) [.ref (q_this 0), .int a1, .int a2] (ce_X8 kA (zz 2) q_this q_this_tokens o_this) out.1 none (ce_X8 kA (zz 2) q_this q_this_tokens out.2) := by
  refine mx_of (cc := cX8_planRepeat) (maxL := 5) (ret := none) (by decide) rfl (Nat.le_of_ble_eq_true rfl) ?_
  intro p e s m below meth c A B hx0 hZ hD hP hS ls hl
  obtain ⟨hx, hb, hr, hlk, hml, hown, hts, hK, hA, hnm⟩ := B
  have hown : s.vm.findClass RX8 = some m.cls := hown
  have hl : lv_has ls 5 [(0, .ref (q_this 0)), (1, .int a1), (2, .int a2)] := hl
  have hUX8 : ∀ w ∈ u_ws RX8 TX8 7, w.before [.ref (q_this 0), .int a1, .int a2].toArray s = true := fun w h => hts w (List.mem_cons_of_mem _ (List.mem_append_right _ h))
  have hL23 : ∀ (n : Nat) (o_this : os_T) (x1 : Int32) (x2 : Int32) (x3 : Int32) (x4 : Int32) (H : Heap) (locs : List Loc) (ls : Array Slot), va_P D vwCl (ce_X8 kA (zz 2) q_this q_this_tokens o_this) H → va_D A (ce_X8 kA (zz 2) q_this q_this_tokens o_this) → va_S A s.heap H locs → lv_has ls 5 [(0, .ref (q_this 0)), (1, .int x1), (2, .int x2), (3, .int x3), (4, .int x4)] → ff_X8_planRepeat_v2_l23 N n (o_this, x1, x2, x3, x4) = some out → W p l e ({ frames := 6, cells := 0, slots := 0, locals := 140 } : Room) s m [.ref (q_this 0), .int a1, .int a2].toArray below meth c H locs 0 0 (vx_MQ below (mx_Q D kA A out.1 none (ce_X8 kA (zz 2) q_this q_this_tokens out.2)) (mx_X D kA A out.1 (ce_X8 kA (zz 2) q_this q_this_tokens out.2)) [.ref (q_this 0), .int a1, .int a2].toArray s 0 0 A) (F0 m 23 ls []) := by
    intro n
    induction n with
    | zero => intro o_this x1 x2 x3 x4 H locs ls _ _ _ _ hf; cases hf
    | succ n hk23 =>
      intro o_this x1 x2 x3 x4 H locs ls hP hD hS hl hf
      have hf : ff_X8_planRepeat_v2_c23 N (ff_X8_planRepeat_v2_l23 N n) o_this x1 x2 x3 x4 = some out := hf
      generalize hke : ff_X8_planRepeat_v2_l23 N n = k23 at hk23 hf
      unfold ff_X8_planRepeat_v2_c23 at hf
      refine lv_iload hx hb dX8_planRepeat_23 (lv_at hl 4 rfl) ?_
      refine lv_iload_n hx hb dX8_planRepeat_25 rfl (lv_at hl 3 rfl) ?_
      refine lv_icmp_ge (tgt := 60) hx hb dX8_planRepeat_26 (by decide) (fun hc_7 => ?_) (fun hc_7 => ?_)
      · rw [if_pos hc_7] at hf
        rw [← Option.some.inj hf]
        exact mx_retv (Nat.le_of_ble_eq_true rfl) (Nat.le_of_ble_eq_true rfl) hx hb hr hlk hP hK hD hS dX8_planRepeat_60
      · rw [if_neg hc_7] at hf
        refine lv_aload_n hx hb dX8_planRepeat_29 rfl (lv_at hl 0 rfl) ?_
        refine va_get (D := D) (ci := 5) (v := .int (os_I o_this 6)) (C := RX8) (T := TX8) (N := 7) hx hb hUX8 (fun _ h9 => h9) hown hK hP 0 rfl rfl 6 (by decide) (hts (Cond.fieldLink RX8 39 "ReliefBuilder$Script" "planned" "I") (List.mem_of_getElem? (i := 1) rfl)) (fun _ h9 => h9) rfl dX8_planRepeat_30 ?_
        refine lv_bipush (v := 60) hx hb dX8_planRepeat_33 (by decide) ?_
        refine lv_icmp_ge (tgt := 60) hx hb dX8_planRepeat_35 (by decide) (fun hc_8 => ?_) (fun hc_8 => ?_)
        · rw [if_pos hc_8] at hf
          rw [← Option.some.inj hf]
          exact mx_retv (Nat.le_of_ble_eq_true rfl) (Nat.le_of_ble_eq_true rfl) hx hb hr hlk hP hK hD hS dX8_planRepeat_60
        · rw [if_neg hc_8] at hf
          refine lv_aload_n hx hb dX8_planRepeat_38 rfl (lv_at hl 0 rfl) ?_
          refine lv_iload_n hx hb dX8_planRepeat_39 rfl (lv_at hl 1 rfl) ?_
          refine lv_iconst (v := 1) hx hb dX8_planRepeat_40 (by decide) ?_
          refine lv_iadd hx hb dX8_planRepeat_41 ?_
          refine lv_aload_n hx hb dX8_planRepeat_42 rfl (lv_at hl 0 rfl) ?_
          refine va_get (D := D) (ci := 5) (v := .ref (q_this 3)) (C := RX8) (T := TX8) (N := 7) hx hb hUX8 (fun _ h9 => h9) hown hK hP 0 rfl rfl 3 (by decide) (hts (Cond.fieldLink RX8 21 "ReliefBuilder$Script" "ends" "[I") (List.mem_of_getElem? (i := 2) rfl)) (fun _ h9 => h9) rfl dX8_planRepeat_43 ?_
          refine lv_iload_n hx hb dX8_planRepeat_46 rfl (lv_at hl 1 rfl) ?_
          obtain ⟨hi_9, hf⟩ := os_if hf
          refine va_iald hx hb hK hP 3 0 rfl rfl hi_9 dX8_planRepeat_47 ?_
          refine lv_iload_n hx hb dX8_planRepeat_48 rfl (lv_at hl 2 rfl) ?_
          refine lv_iconst (v := 1) hx hb dX8_planRepeat_49 (by decide) ?_
          refine lv_iadd hx hb dX8_planRepeat_50 ?_
          obtain ⟨u_10, he_11, hf⟩ := os_bd hf
          refine mx_callV ⟨hx, hb, hml, hown, hts⟩ (mm_X8_planCommands_v1 l hst zz D kA N q_this q_this_tokens o_this (x1 + (1 : Int32)) ((os_A o_this 1) (Int32.toNatClampNeg x1)) (x2 + (1 : Int32)) u_10 he_11) (cwV 3 hts gX8_planRepeat_X8_planCommands rfl rfl rfl (by decide +kernel) ⟨Nat.le_of_ble_eq_true rfl, Nat.le_of_ble_eq_true rfl⟩) (wc := (ce_X8 kA (zz 2) q_this q_this_tokens o_this)) (ci := 5) (q0 := 0) rfl rfl rfl hl.1 (As := [.int (x1 + (1 : Int32)), .int ((os_A o_this 1) (Int32.toNatClampNeg x1)), .int (x2 + (1 : Int32))]) (rest := []) rfl (Nat.le_of_ble_eq_true rfl) dX8_planRepeat_51 ⟨Nat.le_of_ble_eq_true rfl, Nat.le_of_ble_eq_true rfl⟩ hK hP hD hS hA hZ [0, 1, 2, 3, 4] [] [0, 1, 2, 3, 4] rfl (by decide) rfl (by decide) (by decide) rfl (by decide) (wr := []) (w2 := (ce_X8 kA (zz 2) q_this q_this_tokens u_10.2)) (fun hx9 H locs q9 ce hP hD hS h91 h92 h93 => ?_) (fun hx9 H locs hP hD hS => ?_)
          · rw [if_neg hx9] at hf
            rw [← Option.some.inj hf]
            exact mx_out hx9 hx0 hlk hP hK hD hS h91 h92 h93 (Nat.le_of_ble_eq_true rfl) (Nat.le_of_ble_eq_true rfl)
          · rw [if_pos hx9] at hf
            refine W.widen (k := 0) (n := 0) (Nat.le_of_ble_eq_true rfl) (Nat.le_of_ble_eq_true rfl) ?_
            have hP : va_P D vwCl (ce_X8 kA (zz 2) q_this q_this_tokens u_10.2) H := hP
            refine lv_iinc (v := x4 + 1) (lv' := [(4, .int (x4 + 1)), (0, .ref (q_this 0)), (1, .int x1), (2, .int x2), (3, .int x3)]) hx hb dX8_planRepeat_54 hl (k := 4) rfl rfl (by decide) rfl (fun ls hl => ?_)
            refine lv_goto (tgt := 23) hx hb dX8_planRepeat_57 (by decide) ?_
            exact hk23 u_10.2 x1 x2 x3 (x4 + 1) _ _ _ hP hD hS (lv_sub hl [1, 2, 3, 4, 0] rfl) hf
  unfold ff_X8_planRepeat_v2 at hf
  refine lv_iload_n hx hb dX8_planRepeat_0 rfl (lv_at hl 1 rfl) ?_
  obtain ⟨u_1, he_2, hf⟩ := os_bd hf
  refine mc_callS ⟨hx, hb, hml, hown, hts⟩ (mm_X8_isIndex l D kA N a1 u_1 he_2) (va_cwS 1 hts gX8_planRepeat_X8_isIndex rfl rfl rfl (by decide +kernel) ⟨Nat.le_of_ble_eq_true rfl, Nat.le_of_ble_eq_true rfl⟩) (wc := []) rfl hl.1 (As := [.int a1]) (rest := []) rfl (Nat.le_of_ble_eq_true rfl) dX8_planRepeat_1 ⟨Nat.le_of_ble_eq_true rfl, Nat.le_of_ble_eq_true rfl⟩ hK hP hD hS hA [] [0, 1, 2, 3, 4] [0, 1, 2, 3, 4] rfl (by decide) rfl (by decide) (by decide) rfl (by decide) (wr := (ce_X8 kA (zz 2) q_this q_this_tokens o_this)) (w2 := (ce_X8 kA (zz 2) q_this q_this_tokens o_this)) (fun H locs hP hD hS => ?_)
  have hP : va_P D vwCl (ce_X8 kA (zz 2) q_this q_this_tokens o_this) H := hP
  refine lv_if_eq (tgt := 12) hx hb dX8_planRepeat_4 (by decide) (fun hc_3 => ?_) (fun hc_3 => ?_)
  · rw [if_pos hc_3] at hf
    rw [← Option.some.inj hf]
    exact mx_retv (Nat.le_of_ble_eq_true rfl) (Nat.le_of_ble_eq_true rfl) hx hb hr hlk hP hK hD hS dX8_planRepeat_12
  · rw [if_neg hc_3] at hf
    refine lv_iload_n hx hb dX8_planRepeat_7 rfl (lv_at hl 2 rfl) ?_
    refine lv_iconst (v := 2) hx hb dX8_planRepeat_8 (by decide) ?_
    refine lv_icmp_lt (tgt := 13) hx hb dX8_planRepeat_9 (by decide) (fun hc_4 => ?_) (fun hc_4 => ?_)
    · rw [if_pos hc_4] at hf
      refine lv_aload_n hx hb dX8_planRepeat_13 rfl (lv_at hl 0 rfl) ?_
      refine lv_iload_n hx hb dX8_planRepeat_14 rfl (lv_at hl 1 rfl) ?_
      refine lv_iconst (v := 0) hx hb dX8_planRepeat_15 (by decide) ?_
      obtain ⟨u_5, he_6, hf⟩ := os_bd hf
      refine mc_callV ⟨hx, hb, hml, hown, hts⟩ (mm_X8_numberOf l zz D kA N q_this q_this_tokens o_this a1 (0 : Int32) u_5 he_6) (cwV 2 hts gX8_planRepeat_X8_numberOf rfl rfl rfl (by decide +kernel) ⟨Nat.le_of_ble_eq_true rfl, Nat.le_of_ble_eq_true rfl⟩) (wc := (ce_X8 kA (zz 2) q_this q_this_tokens o_this)) (ci := 5) (q0 := 0) rfl rfl rfl hl.1 (As := [.int a1, .int (0 : Int32)]) (rest := []) rfl (Nat.le_of_ble_eq_true rfl) dX8_planRepeat_16 ⟨Nat.le_of_ble_eq_true rfl, Nat.le_of_ble_eq_true rfl⟩ hK hP hD hS hA [0, 1, 2, 3, 4] [] [0, 1, 2, 3, 4] rfl (by decide) rfl (by decide) (by decide) rfl (by decide) (wr := []) (w2 := (ce_X8 kA (zz 2) q_this q_this_tokens o_this)) (fun H locs hP hD hS => ?_)
      have hP : va_P D vwCl (ce_X8 kA (zz 2) q_this q_this_tokens o_this) H := hP
      refine lv_istore_n (lv' := [(3, .int u_5), (0, .ref (q_this 0)), (1, .int a1), (2, .int a2)]) hx hb dX8_planRepeat_19 rfl hl (by decide) rfl (fun ls hl => ?_)
      refine lv_iconst (v := 0) hx hb dX8_planRepeat_20 (by decide) ?_
      refine lv_istore (lv' := [(4, .int (0 : Int32)), (3, .int u_5), (0, .ref (q_this 0)), (1, .int a1), (2, .int a2)]) hx hb dX8_planRepeat_21 hl (by decide) rfl (fun ls hl => ?_)
      exact hL23 N o_this a1 a2 u_5 (0 : Int32) _ _ _ hP hD hS (lv_sub hl [2, 3, 4, 1, 0] rfl) hf
    · rw [if_neg hc_4] at hf
      rw [← Option.some.inj hf]
      exact mx_retv (Nat.le_of_ble_eq_true rfl) (Nat.le_of_ble_eq_true rfl) hx hb hr hlk hP hK hD hS dX8_planRepeat_12
def ff_X8_planCommands_v2_b99 (N : Nat) (k6 : (os_T × Int32 × Int32 × Int32 × Int32) → Option (Nat × os_T)) (o_this : os_T) (x2 : Int32) (x3 : Int32) (x4 : Int32) (x5 : Int32) : Option (Nat × os_T) :=
  k6 (o_this, x2, x3, x4, x5 + 1)
def ff_X8_planCommands_v2_c6 (N : Nat) (k6 : (os_T × Int32 × Int32 × Int32 × Int32) → Option (Nat × os_T)) (o_this : os_T) (x2 : Int32) (x3 : Int32) (x4 : Int32) (x5 : Int32) : Option (Nat × os_T) :=
  (if x2 ≤ x5 then some (0, o_this) else ((ff_X8_isIndex N x5).bind fun u_2 => (if u_2 = 0 then some (0, o_this) else (if x4 ≤ x5 then (if os_in x5 30 then (if os_in x5 30 then (os_opt ((os_R o_this 0) (Int32.toNatClampNeg x5)) (if (os_I o_this 6) < 0 then ff_X8_planCommands_v2_b99 N k6 o_this x2 x3 ((os_A o_this 1) (Int32.toNatClampNeg x5)) x5 else (if (60 : Int32) ≤ (os_I o_this 6) then ff_X8_planCommands_v2_b99 N k6 o_this x2 x3 ((os_A o_this 1) (Int32.toNatClampNeg x5)) x5 else (if os_in (os_I o_this 6) 60 then ff_X8_planCommands_v2_b99 N k6 (ss_I (ss_A o_this 2 (upd (os_A o_this 2) (Int32.toNatClampNeg (os_I o_this 6)) x5)) 6 ((os_I o_this 6) + (1 : Int32))) x2 x3 ((os_A o_this 1) (Int32.toNatClampNeg x5)) x5 else none))) (fun c_9 => (if c_9 < 12 then (if c_9 = 11 then ((ff_X8_planRepeat_v2 N o_this x5 x3).bind fun u_18 => (if u_18.1 = 0 then ff_X8_planCommands_v2_b99 N k6 u_18.2 x2 x3 ((os_A o_this 1) (Int32.toNatClampNeg x5)) x5 else some (u_18.1, u_18.2))) else (if (os_I o_this 6) < 0 then ff_X8_planCommands_v2_b99 N k6 o_this x2 x3 ((os_A o_this 1) (Int32.toNatClampNeg x5)) x5 else (if (60 : Int32) ≤ (os_I o_this 6) then ff_X8_planCommands_v2_b99 N k6 o_this x2 x3 ((os_A o_this 1) (Int32.toNatClampNeg x5)) x5 else (if os_in (os_I o_this 6) 60 then ff_X8_planCommands_v2_b99 N k6 (ss_I (ss_A o_this 2 (upd (os_A o_this 2) (Int32.toNatClampNeg (os_I o_this 6)) x5)) 6 ((os_I o_this 6) + (1 : Int32))) x2 x3 ((os_A o_this 1) (Int32.toNatClampNeg x5)) x5 else none)))) else none))) else none) else none) else ff_X8_planCommands_v2_b99 N k6 o_this x2 x3 x4 x5))))
def ff_X8_planCommands_v2_l6 (N : Nat) : Nat → (os_T × Int32 × Int32 × Int32 × Int32) → Option (Nat × os_T) := os_loop (fun k6 s1 => ff_X8_planCommands_v2_c6 N k6 s1.1 s1.2.1 s1.2.2.1 s1.2.2.2.1 s1.2.2.2.2)
def ff_X8_planCommands_v2 (N : Nat) (o_this : os_T) (a1 : Int32) (a2 : Int32) (a3 : Int32) : Option (Nat × os_T) :=
  ff_X8_planCommands_v2_l6 N N (o_this, a2, a3, a1, a1)
set_option maxHeartbeats 4000000 in
set_option maxRecDepth 100000 in
theorem mm_X8_planCommands_v2 (l : Launch) (hst : l.stackTraces = false) (zz : Nat → Nat → Nat) (D : va_G) (kA : Nat → ClassId) (N : Nat) (q_this : Nat → Nat) (q_this_tokens : Nat → Nat) (o_this : os_T) (a1 : Int32) (a2 : Int32) (a3 : Int32) (out : (Nat × os_T)) (hf : ff_X8_planCommands_v2 N o_this a1 a2 a3 = some out) : mx_C l zz D kA yX8_planCommands wsX8_planCommands ({ frames := 7, cells := 0, slots := 0, locals := 164 } : Room) [.ref (q_this 0), .int a1, .int a2, .int a3] (ce_X8 kA (zz 2) q_this q_this_tokens o_this) out.1 none (ce_X8 kA (zz 2) q_this q_this_tokens out.2) := by
  refine mx_of (cc := cX8_planCommands) (maxL := 6) (ret := none) (by decide) rfl (Nat.le_of_ble_eq_true rfl) ?_
  intro p e s m below meth c A B hx0 hZ hD hP hS ls hl
  obtain ⟨hx, hb, hr, hlk, hml, hown, hts, hK, hA, hnm⟩ := B
  have hown : s.vm.findClass RX8 = some m.cls := hown
  have hl : lv_has ls 6 [(0, .ref (q_this 0)), (1, .int a1), (2, .int a2), (3, .int a3)] := hl
  have hUX8 : ∀ w ∈ u_ws RX8 TX8 7, w.before [.ref (q_this 0), .int a1, .int a2, .int a3].toArray s = true := fun w h => hts w (List.mem_cons_of_mem _ (List.mem_append_right _ h))
  have hB99 : ∀ (k6 : (os_T × Int32 × Int32 × Int32 × Int32) → Option (Nat × os_T)), (∀ (o_this : os_T) (x2 : Int32) (x3 : Int32) (x4 : Int32) (x5 : Int32) (H : Heap) (locs : List Loc) (ls : Array Slot), va_P D vwCl (ce_X8 kA (zz 2) q_this q_this_tokens o_this) H → va_D A (ce_X8 kA (zz 2) q_this q_this_tokens o_this) → va_S A s.heap H locs → lv_has ls 6 [(0, .ref (q_this 0)), (2, .int x2), (3, .int x3), (4, .int x4), (5, .int x5)] → k6 (o_this, x2, x3, x4, x5) = some out → W p l e ({ frames := 7, cells := 0, slots := 0, locals := 164 } : Room) s m [.ref (q_this 0), .int a1, .int a2, .int a3].toArray below meth c H locs 0 0 (vx_MQ below (mx_Q D kA A out.1 none (ce_X8 kA (zz 2) q_this q_this_tokens out.2)) (mx_X D kA A out.1 (ce_X8 kA (zz 2) q_this q_this_tokens out.2)) [.ref (q_this 0), .int a1, .int a2, .int a3].toArray s 0 0 A) (F0 m 6 ls [])) → ∀ (o_this : os_T) (x2 : Int32) (x3 : Int32) (x4 : Int32) (x5 : Int32) (H : Heap) (locs : List Loc) (ls : Array Slot), va_P D vwCl (ce_X8 kA (zz 2) q_this q_this_tokens o_this) H → va_D A (ce_X8 kA (zz 2) q_this q_this_tokens o_this) → va_S A s.heap H locs → lv_has ls 6 [(0, .ref (q_this 0)), (2, .int x2), (3, .int x3), (4, .int x4), (5, .int x5)] → ff_X8_planCommands_v2_b99 N k6 o_this x2 x3 x4 x5 = some out → W p l e ({ frames := 7, cells := 0, slots := 0, locals := 164 } : Room) s m [.ref (q_this 0), .int a1, .int a2, .int a3].toArray below meth c H locs 0 0 (vx_MQ below (mx_Q D kA A out.1 none (ce_X8 kA (zz 2) q_this q_this_tokens out.2)) (mx_X D kA A out.1 (ce_X8 kA (zz 2) q_this q_this_tokens out.2)) [.ref (q_this 0), .int a1, .int a2, .int a3].toArray s 0 0 A) (F0 m 99 ls []) := by
    intro k6 hk6 o_this x2 x3 x4 x5 H locs ls hP hD hS hl hf
    unfold ff_X8_planCommands_v2_b99 at hf
    refine lv_iinc (v := x5 + 1) (lv' := [(5, .int (x5 + 1)), (0, .ref (q_this 0)), (2, .int x2), (3, .int x3), (4, .int x4)]) hx hb dX8_planCommands_99 hl (k := 4) rfl rfl (by decide) rfl (fun ls hl => ?_)
    refine lv_goto (tgt := 6) hx hb dX8_planCommands_102 (by decide) ?_
    exact hk6 o_this x2 x3 x4 (x5 + 1) _ _ _ hP hD hS (lv_sub hl [1, 2, 3, 4, 0] rfl) hf
  have hL6 : ∀ (n : Nat) (o_this : os_T) (x2 : Int32) (x3 : Int32) (x4 : Int32) (x5 : Int32) (H : Heap) (locs : List Loc) (ls : Array Slot), va_P D vwCl (ce_X8 kA (zz 2) q_this q_this_tokens o_this) H → va_D A (ce_X8 kA (zz 2) q_this q_this_tokens o_this) → va_S A s.heap H locs → lv_has ls 6 [(0, .ref (q_this 0)), (2, .int x2), (3, .int x3), (4, .int x4), (5, .int x5)] → ff_X8_planCommands_v2_l6 N n (o_this, x2, x3, x4, x5) = some out → W p l e ({ frames := 7, cells := 0, slots := 0, locals := 164 } : Room) s m [.ref (q_this 0), .int a1, .int a2, .int a3].toArray below meth c H locs 0 0 (vx_MQ below (mx_Q D kA A out.1 none (ce_X8 kA (zz 2) q_this q_this_tokens out.2)) (mx_X D kA A out.1 (ce_X8 kA (zz 2) q_this q_this_tokens out.2)) [.ref (q_this 0), .int a1, .int a2, .int a3].toArray s 0 0 A) (F0 m 6 ls []) := by
    intro n
    induction n with
    | zero => intro o_this x2 x3 x4 x5 H locs ls _ _ _ _ hf; cases hf
    | succ n hk6 =>
      intro o_this x2 x3 x4 x5 H locs ls hP hD hS hl hf
      have hf : ff_X8_planCommands_v2_c6 N (ff_X8_planCommands_v2_l6 N n) o_this x2 x3 x4 x5 = some out := hf
      generalize hke : ff_X8_planCommands_v2_l6 N n = k6 at hk6 hf
      unfold ff_X8_planCommands_v2_c6 at hf
      refine lv_iload hx hb dX8_planCommands_6 (lv_at hl 4 rfl) ?_
      refine lv_iload_n hx hb dX8_planCommands_8 rfl (lv_at hl 1 rfl) ?_
      refine lv_icmp_ge (tgt := 105) hx hb dX8_planCommands_9 (by decide) (fun hc_1 => ?_) (fun hc_1 => ?_)
      · rw [if_pos hc_1] at hf
        rw [← Option.some.inj hf]
        exact mx_retv (Nat.le_of_ble_eq_true rfl) (Nat.le_of_ble_eq_true rfl) hx hb hr hlk hP hK hD hS dX8_planCommands_105
      · rw [if_neg hc_1] at hf
        refine lv_iload hx hb dX8_planCommands_12 (lv_at hl 4 rfl) ?_
        obtain ⟨u_2, he_3, hf⟩ := os_bd hf
        refine mc_callS ⟨hx, hb, hml, hown, hts⟩ (mm_X8_isIndex l D kA N x5 u_2 he_3) (va_cwS 1 hts gX8_planCommands_X8_isIndex rfl rfl rfl (by decide +kernel) ⟨Nat.le_of_ble_eq_true rfl, Nat.le_of_ble_eq_true rfl⟩) (wc := []) rfl hl.1 (As := [.int x5]) (rest := []) rfl (Nat.le_of_ble_eq_true rfl) dX8_planCommands_14 ⟨Nat.le_of_ble_eq_true rfl, Nat.le_of_ble_eq_true rfl⟩ hK hP hD hS hA [] [0, 1, 2, 3, 4] [0, 1, 2, 3, 4] rfl (by decide) rfl (by decide) (by decide) rfl (by decide) (wr := (ce_X8 kA (zz 2) q_this q_this_tokens o_this)) (w2 := (ce_X8 kA (zz 2) q_this q_this_tokens o_this)) (fun H locs hP hD hS => ?_)
        have hP : va_P D vwCl (ce_X8 kA (zz 2) q_this q_this_tokens o_this) H := hP
        refine lv_if_eq (tgt := 105) hx hb dX8_planCommands_17 (by decide) (fun hc_4 => ?_) (fun hc_4 => ?_)
        · rw [if_pos hc_4] at hf
          rw [← Option.some.inj hf]
          exact mx_retv (Nat.le_of_ble_eq_true rfl) (Nat.le_of_ble_eq_true rfl) hx hb hr hlk hP hK hD hS dX8_planCommands_105
        · rw [if_neg hc_4] at hf
          refine lv_iload hx hb dX8_planCommands_20 (lv_at hl 4 rfl) ?_
          refine lv_iload hx hb dX8_planCommands_22 (lv_at hl 3 rfl) ?_
          refine lv_icmp_ge (tgt := 30) hx hb dX8_planCommands_24 (by decide) (fun hc_5 => ?_) (fun hc_5 => ?_)
          · rw [if_pos hc_5] at hf
            refine lv_aload_n hx hb dX8_planCommands_30 rfl (lv_at hl 0 rfl) ?_
            refine va_get (D := D) (ci := 5) (v := .ref (q_this 3)) (C := RX8) (T := TX8) (N := 7) hx hb hUX8 (fun _ h9 => h9) hown hK hP 0 rfl rfl 3 (by decide) (hts (Cond.fieldLink RX8 21 "ReliefBuilder$Script" "ends" "[I") (List.mem_of_getElem? (i := 1) rfl)) (fun _ h9 => h9) rfl dX8_planCommands_31 ?_
            refine lv_iload hx hb dX8_planCommands_34 (lv_at hl 4 rfl) ?_
            obtain ⟨hi_6, hf⟩ := os_if hf
            refine va_iald hx hb hK hP 3 0 rfl rfl hi_6 dX8_planCommands_36 ?_
            refine lv_istore (lv' := [(4, .int ((os_A o_this 1) (Int32.toNatClampNeg x5))), (0, .ref (q_this 0)), (2, .int x2), (3, .int x3), (5, .int x5)]) hx hb dX8_planCommands_37 hl (by decide) rfl (fun ls hl => ?_)
            refine lv_aload_n hx hb dX8_planCommands_39 rfl (lv_at hl 1 rfl) ?_
            refine va_get (D := D) (ci := 5) (v := .ref (q_this 1)) (C := RX8) (T := TX8) (N := 7) hx hb hUX8 (fun _ h9 => h9) hown hK hP 0 rfl rfl 1 (by decide) (hts (Cond.fieldLink RX8 13 "ReliefBuilder$Script" "commands" "[LReliefBuilder$Command;") (List.mem_of_getElem? (i := 2) rfl)) (fun _ h9 => h9) rfl dX8_planCommands_40 ?_
            refine lv_iload hx hb dX8_planCommands_43 (lv_at hl 4 rfl) ?_
            obtain ⟨hi_7, hf⟩ := os_if hf
            refine va_aldq hx hb hK hP 1 7 rfl rfl hi_7 dX8_planCommands_45 ?_
            rcases os_op hf with ⟨he_8, hf⟩ | ⟨c_9, he_8, hf⟩
            · rw [he_8]
              refine W.eq (g2 := F0 m 46 ls [.null]) rfl ?_
              refine va_gets hx hb (hZ.2.2.2.2.1 11 (by decide)).1 hS hown (hts (Cond.fieldLink RX8 54 "ReliefBuilder$Command" "REPEAT" "LReliefBuilder$Command;") (List.mem_of_getElem? (i := 3) rfl)) (fun _ h9 => h9) dX8_planCommands_46 ?_
              refine lv_acmp_ne (rx := none) (ry := (some (zz 2 11))) (tgt := 62) hx hb dX8_planCommands_49 (by decide) (fun _ => ?_) (fun h9 => by cases h9)
              refine lv_aload_n hx hb dX8_planCommands_62 rfl (lv_at hl 1 rfl) ?_
              refine va_get (D := D) (ci := 5) (v := .int (os_I o_this 6)) (C := RX8) (T := TX8) (N := 7) hx hb hUX8 (fun _ h9 => h9) hown hK hP 0 rfl rfl 6 (by decide) (hts (Cond.fieldLink RX8 39 "ReliefBuilder$Script" "planned" "I") (List.mem_of_getElem? (i := 4) rfl)) (fun _ h9 => h9) rfl dX8_planCommands_63 ?_
              refine lv_if_lt (tgt := 99) hx hb dX8_planCommands_66 (by decide) (fun hc_11 => ?_) (fun hc_11 => ?_)
              · rw [if_pos hc_11] at hf
                exact hB99 k6 hk6 o_this x2 x3 ((os_A o_this 1) (Int32.toNatClampNeg x5)) x5 _ _ _ hP hD hS (lv_sub hl [1, 2, 3, 0, 4] rfl) hf
              · rw [if_neg hc_11] at hf
                refine lv_aload_n hx hb dX8_planCommands_69 rfl (lv_at hl 1 rfl) ?_
                refine va_get (D := D) (ci := 5) (v := .int (os_I o_this 6)) (C := RX8) (T := TX8) (N := 7) hx hb hUX8 (fun _ h9 => h9) hown hK hP 0 rfl rfl 6 (by decide) (hts (Cond.fieldLink RX8 39 "ReliefBuilder$Script" "planned" "I") (List.mem_of_getElem? (i := 4) rfl)) (fun _ h9 => h9) rfl dX8_planCommands_70 ?_
                refine lv_bipush (v := 60) hx hb dX8_planCommands_73 (by decide) ?_
                refine lv_icmp_ge (tgt := 99) hx hb dX8_planCommands_75 (by decide) (fun hc_12 => ?_) (fun hc_12 => ?_)
                · rw [if_pos hc_12] at hf
                  exact hB99 k6 hk6 o_this x2 x3 ((os_A o_this 1) (Int32.toNatClampNeg x5)) x5 _ _ _ hP hD hS (lv_sub hl [1, 2, 3, 0, 4] rfl) hf
                · rw [if_neg hc_12] at hf
                  refine lv_aload_n hx hb dX8_planCommands_78 rfl (lv_at hl 1 rfl) ?_
                  refine va_get (D := D) (ci := 5) (v := .ref (q_this 4)) (C := RX8) (T := TX8) (N := 7) hx hb hUX8 (fun _ h9 => h9) hown hK hP 0 rfl rfl 4 (by decide) (hts (Cond.fieldLink RX8 24 "ReliefBuilder$Script" "plan" "[I") (List.mem_of_getElem? (i := 5) rfl)) (fun _ h9 => h9) rfl dX8_planCommands_79 ?_
                  refine lv_aload_n hx hb dX8_planCommands_82 rfl (lv_at hl 1 rfl) ?_
                  refine va_get (D := D) (ci := 5) (v := .int (os_I o_this 6)) (C := RX8) (T := TX8) (N := 7) hx hb hUX8 (fun _ h9 => h9) hown hK hP 0 rfl rfl 6 (by decide) (hts (Cond.fieldLink RX8 39 "ReliefBuilder$Script" "planned" "I") (List.mem_of_getElem? (i := 4) rfl)) (fun _ h9 => h9) rfl dX8_planCommands_83 ?_
                  refine lv_iload hx hb dX8_planCommands_86 (lv_at hl 4 rfl) ?_
                  obtain ⟨hi_13, hf⟩ := os_if hf
                  refine va_iast hx hb hK hP hD hS 4 0 rfl rfl hi_13 dX8_planCommands_88 (fun H locs hP hD hS => ?_)
                  have hP : va_P D vwCl (ce_X8 kA (zz 2) q_this q_this_tokens (ss_A o_this 2 (upd (os_A o_this 2) (Int32.toNatClampNeg (os_I o_this 6)) x5))) H := hP
                  have hD : va_D A (ce_X8 kA (zz 2) q_this q_this_tokens (ss_A o_this 2 (upd (os_A o_this 2) (Int32.toNatClampNeg (os_I o_this 6)) x5))) := hD
                  refine lv_aload_n hx hb dX8_planCommands_89 rfl (lv_at hl 1 rfl) ?_
                  refine lv_dup hx hb dX8_planCommands_90 rfl ?_
                  refine va_get (D := D) (ci := 5) (v := .int (os_I o_this 6)) (C := RX8) (T := TX8) (N := 7) hx hb hUX8 (fun _ h9 => h9) hown hK hP 0 rfl rfl 6 (by decide) (hts (Cond.fieldLink RX8 39 "ReliefBuilder$Script" "planned" "I") (List.mem_of_getElem? (i := 4) rfl)) (fun _ h9 => h9) rfl dX8_planCommands_91 ?_
                  refine lv_iconst (v := 1) hx hb dX8_planCommands_94 (by decide) ?_
                  refine lv_iadd hx hb dX8_planCommands_95 ?_
                  refine va_put (D := D) (ci := 5) (v := .int ((os_I o_this 6) + (1 : Int32))) (ty := .int) (C := RX8) (T := TX8) (N := 7) hx hb hUX8 (fun _ h9 => h9) tyX8 tyX8_ok nmX8 hown hK hP hD hS 0 rfl rfl 6 (by decide) (hts (Cond.fieldLink RX8 39 "ReliefBuilder$Script" "planned" "I") (List.mem_of_getElem? (i := 4) rfl)) (fun _ h9 => h9) rfl (tyX8_ok 6 (by decide)) rfl rfl (Nat.le_of_ble_eq_true rfl) dX8_planCommands_96 (fun H locs hP hD hS => ?_)
                  have hP : va_P D vwCl (ce_X8 kA (zz 2) q_this q_this_tokens (ss_I (ss_A o_this 2 (upd (os_A o_this 2) (Int32.toNatClampNeg (os_I o_this 6)) x5)) 6 ((os_I o_this 6) + (1 : Int32)))) H := hP
                  have hD : va_D A (ce_X8 kA (zz 2) q_this q_this_tokens (ss_I (ss_A o_this 2 (upd (os_A o_this 2) (Int32.toNatClampNeg (os_I o_this 6)) x5)) 6 ((os_I o_this 6) + (1 : Int32)))) := hD
                  exact hB99 k6 hk6 (ss_I (ss_A o_this 2 (upd (os_A o_this 2) (Int32.toNatClampNeg (os_I o_this 6)) x5)) 6 ((os_I o_this 6) + (1 : Int32))) x2 x3 ((os_A o_this 1) (Int32.toNatClampNeg x5)) x5 _ _ _ hP hD hS (lv_sub hl [1, 2, 3, 0, 4] rfl) hf
            · rw [he_8]
              refine W.eq (g2 := F0 m 46 ls [.ref (zz 2 c_9)]) rfl ?_
              refine va_gets hx hb (hZ.2.2.2.2.1 11 (by decide)).1 hS hown (hts (Cond.fieldLink RX8 54 "ReliefBuilder$Command" "REPEAT" "LReliefBuilder$Command;") (List.mem_of_getElem? (i := 3) rfl)) (fun _ h9 => h9) dX8_planCommands_46 ?_
              obtain ⟨hc_14_k, hf⟩ := os_if hf
              refine lv_acmp_ne (rx := (some (zz 2 c_9))) (ry := (some (zz 2 11))) (tgt := 62) hx hb dX8_planCommands_49 (by decide) (fun hc_14_0 => ?_) (fun hc_14_0 => ?_)
              · have hc_14 : ¬ c_9 = 11 := fun h9 => hc_14_0 (by rw [h9])
                rw [if_neg hc_14] at hf
                refine lv_aload_n hx hb dX8_planCommands_62 rfl (lv_at hl 1 rfl) ?_
                refine va_get (D := D) (ci := 5) (v := .int (os_I o_this 6)) (C := RX8) (T := TX8) (N := 7) hx hb hUX8 (fun _ h9 => h9) hown hK hP 0 rfl rfl 6 (by decide) (hts (Cond.fieldLink RX8 39 "ReliefBuilder$Script" "planned" "I") (List.mem_of_getElem? (i := 4) rfl)) (fun _ h9 => h9) rfl dX8_planCommands_63 ?_
                refine lv_if_lt (tgt := 99) hx hb dX8_planCommands_66 (by decide) (fun hc_15 => ?_) (fun hc_15 => ?_)
                · rw [if_pos hc_15] at hf
                  exact hB99 k6 hk6 o_this x2 x3 ((os_A o_this 1) (Int32.toNatClampNeg x5)) x5 _ _ _ hP hD hS (lv_sub hl [1, 2, 3, 0, 4] rfl) hf
                · rw [if_neg hc_15] at hf
                  refine lv_aload_n hx hb dX8_planCommands_69 rfl (lv_at hl 1 rfl) ?_
                  refine va_get (D := D) (ci := 5) (v := .int (os_I o_this 6)) (C := RX8) (T := TX8) (N := 7) hx hb hUX8 (fun _ h9 => h9) hown hK hP 0 rfl rfl 6 (by decide) (hts (Cond.fieldLink RX8 39 "ReliefBuilder$Script" "planned" "I") (List.mem_of_getElem? (i := 4) rfl)) (fun _ h9 => h9) rfl dX8_planCommands_70 ?_
                  refine lv_bipush (v := 60) hx hb dX8_planCommands_73 (by decide) ?_
                  refine lv_icmp_ge (tgt := 99) hx hb dX8_planCommands_75 (by decide) (fun hc_16 => ?_) (fun hc_16 => ?_)
                  · rw [if_pos hc_16] at hf
                    exact hB99 k6 hk6 o_this x2 x3 ((os_A o_this 1) (Int32.toNatClampNeg x5)) x5 _ _ _ hP hD hS (lv_sub hl [1, 2, 3, 0, 4] rfl) hf
                  · rw [if_neg hc_16] at hf
                    refine lv_aload_n hx hb dX8_planCommands_78 rfl (lv_at hl 1 rfl) ?_
                    refine va_get (D := D) (ci := 5) (v := .ref (q_this 4)) (C := RX8) (T := TX8) (N := 7) hx hb hUX8 (fun _ h9 => h9) hown hK hP 0 rfl rfl 4 (by decide) (hts (Cond.fieldLink RX8 24 "ReliefBuilder$Script" "plan" "[I") (List.mem_of_getElem? (i := 5) rfl)) (fun _ h9 => h9) rfl dX8_planCommands_79 ?_
                    refine lv_aload_n hx hb dX8_planCommands_82 rfl (lv_at hl 1 rfl) ?_
                    refine va_get (D := D) (ci := 5) (v := .int (os_I o_this 6)) (C := RX8) (T := TX8) (N := 7) hx hb hUX8 (fun _ h9 => h9) hown hK hP 0 rfl rfl 6 (by decide) (hts (Cond.fieldLink RX8 39 "ReliefBuilder$Script" "planned" "I") (List.mem_of_getElem? (i := 4) rfl)) (fun _ h9 => h9) rfl dX8_planCommands_83 ?_
                    refine lv_iload hx hb dX8_planCommands_86 (lv_at hl 4 rfl) ?_
                    obtain ⟨hi_17, hf⟩ := os_if hf
                    refine va_iast hx hb hK hP hD hS 4 0 rfl rfl hi_17 dX8_planCommands_88 (fun H locs hP hD hS => ?_)
                    have hP : va_P D vwCl (ce_X8 kA (zz 2) q_this q_this_tokens (ss_A o_this 2 (upd (os_A o_this 2) (Int32.toNatClampNeg (os_I o_this 6)) x5))) H := hP
                    have hD : va_D A (ce_X8 kA (zz 2) q_this q_this_tokens (ss_A o_this 2 (upd (os_A o_this 2) (Int32.toNatClampNeg (os_I o_this 6)) x5))) := hD
                    refine lv_aload_n hx hb dX8_planCommands_89 rfl (lv_at hl 1 rfl) ?_
                    refine lv_dup hx hb dX8_planCommands_90 rfl ?_
                    refine va_get (D := D) (ci := 5) (v := .int (os_I o_this 6)) (C := RX8) (T := TX8) (N := 7) hx hb hUX8 (fun _ h9 => h9) hown hK hP 0 rfl rfl 6 (by decide) (hts (Cond.fieldLink RX8 39 "ReliefBuilder$Script" "planned" "I") (List.mem_of_getElem? (i := 4) rfl)) (fun _ h9 => h9) rfl dX8_planCommands_91 ?_
                    refine lv_iconst (v := 1) hx hb dX8_planCommands_94 (by decide) ?_
                    refine lv_iadd hx hb dX8_planCommands_95 ?_
                    refine va_put (D := D) (ci := 5) (v := .int ((os_I o_this 6) + (1 : Int32))) (ty := .int) (C := RX8) (T := TX8) (N := 7) hx hb hUX8 (fun _ h9 => h9) tyX8 tyX8_ok nmX8 hown hK hP hD hS 0 rfl rfl 6 (by decide) (hts (Cond.fieldLink RX8 39 "ReliefBuilder$Script" "planned" "I") (List.mem_of_getElem? (i := 4) rfl)) (fun _ h9 => h9) rfl (tyX8_ok 6 (by decide)) rfl rfl (Nat.le_of_ble_eq_true rfl) dX8_planCommands_96 (fun H locs hP hD hS => ?_)
                    have hP : va_P D vwCl (ce_X8 kA (zz 2) q_this q_this_tokens (ss_I (ss_A o_this 2 (upd (os_A o_this 2) (Int32.toNatClampNeg (os_I o_this 6)) x5)) 6 ((os_I o_this 6) + (1 : Int32)))) H := hP
                    have hD : va_D A (ce_X8 kA (zz 2) q_this q_this_tokens (ss_I (ss_A o_this 2 (upd (os_A o_this 2) (Int32.toNatClampNeg (os_I o_this 6)) x5)) 6 ((os_I o_this 6) + (1 : Int32)))) := hD
                    exact hB99 k6 hk6 (ss_I (ss_A o_this 2 (upd (os_A o_this 2) (Int32.toNatClampNeg (os_I o_this 6)) x5)) 6 ((os_I o_this 6) + (1 : Int32))) x2 x3 ((os_A o_this 1) (Int32.toNatClampNeg x5)) x5 _ _ _ hP hD hS (lv_sub hl [1, 2, 3, 0, 4] rfl) hf
              · have hc_14 : c_9 = 11 := hZ.2.2.2.2.2.1 _ _ hc_14_k (by decide) (Option.some.inj hc_14_0)
                rw [if_pos hc_14] at hf
                refine lv_aload_n hx hb dX8_planCommands_52 rfl (lv_at hl 1 rfl) ?_
                refine lv_iload hx hb dX8_planCommands_53 (lv_at hl 4 rfl) ?_
                refine lv_iload_n hx hb dX8_planCommands_55 rfl (lv_at hl 3 rfl) ?_
                obtain ⟨u_18, he_19, hf⟩ := os_bd hf
                refine mx_callV ⟨hx, hb, hml, hown, hts⟩ (mm_X8_planRepeat_v2 l hst zz D kA N q_this q_this_tokens o_this x5 x3 u_18 he_19) (cwV 2 hts gX8_planCommands_X8_planRepeat rfl rfl rfl (by decide +kernel) ⟨Nat.le_of_ble_eq_true rfl, Nat.le_of_ble_eq_true rfl⟩) (wc := (ce_X8 kA (zz 2) q_this q_this_tokens o_this)) (ci := 5) (q0 := 0) rfl rfl rfl hl.1 (As := [.int x5, .int x3]) (rest := []) rfl (Nat.le_of_ble_eq_true rfl) dX8_planCommands_56 ⟨Nat.le_of_ble_eq_true rfl, Nat.le_of_ble_eq_true rfl⟩ hK hP hD hS hA hZ [0, 1, 2, 3, 4] [] [0, 1, 2, 3, 4] rfl (by decide) rfl (by decide) (by decide) rfl (by decide) (wr := []) (w2 := (ce_X8 kA (zz 2) q_this q_this_tokens u_18.2)) (fun hx9 H locs q9 ce hP hD hS h91 h92 h93 => ?_) (fun hx9 H locs hP hD hS => ?_)
                · rw [if_neg hx9] at hf
                  rw [← Option.some.inj hf]
                  exact mx_out hx9 hx0 hlk hP hK hD hS h91 h92 h93 (Nat.le_of_ble_eq_true rfl) (Nat.le_of_ble_eq_true rfl)
                · rw [if_pos hx9] at hf
                  refine W.widen (k := 0) (n := 0) (Nat.le_of_ble_eq_true rfl) (Nat.le_of_ble_eq_true rfl) ?_
                  have hP : va_P D vwCl (ce_X8 kA (zz 2) q_this q_this_tokens u_18.2) H := hP
                  refine lv_goto (tgt := 99) hx hb dX8_planCommands_59 (by decide) ?_
                  exact hB99 k6 hk6 u_18.2 x2 x3 ((os_A o_this 1) (Int32.toNatClampNeg x5)) x5 _ _ _ hP hD hS (lv_sub hl [1, 2, 3, 0, 4] rfl) hf
          · rw [if_neg hc_5] at hf
            refine lv_goto (tgt := 99) hx hb dX8_planCommands_27 (by decide) ?_
            exact hB99 k6 hk6 o_this x2 x3 x4 x5 _ _ _ hP hD hS (lv_sub hl [0, 1, 2, 3, 4] rfl) hf
  unfold ff_X8_planCommands_v2 at hf
  refine lv_iload_n hx hb dX8_planCommands_0 rfl (lv_at hl 1 rfl) ?_
  refine lv_istore (lv' := [(4, .int a1), (0, .ref (q_this 0)), (1, .int a1), (2, .int a2), (3, .int a3)]) hx hb dX8_planCommands_1 hl (by decide) rfl (fun ls hl => ?_)
  refine lv_iload_n hx hb dX8_planCommands_3 rfl (lv_at hl 2 rfl) ?_
  refine lv_istore (lv' := [(5, .int a1), (4, .int a1), (0, .ref (q_this 0)), (1, .int a1), (2, .int a2), (3, .int a3)]) hx hb dX8_planCommands_4 hl (by decide) rfl (fun ls hl => ?_)
  exact hL6 N o_this a2 a3 a1 a1 _ _ _ hP hD hS (lv_sub hl [2, 4, 5, 1, 0] rfl) hf
def ff_X8_presentCommand_c2 (N : Nat) (o_this : os_T) (o_this_tokens : os_T) (k2 : Int32 → Option (Nat × Option Nat)) (x1 : Int32) : Option (Nat × Option Nat) :=
  (if (12 : Int32) ≤ x1 then some (0, none) else (if os_in x1 12 then (if (Int32.toNatClampNeg x1) < 12 then ((ff_X10_isWord N o_this_tokens (Int32.toNatClampNeg x1)).bind fun u_4 => (if u_4.1 = 0 then (if u_4.2 = 0 then k2 (x1 + 1) else (if os_in x1 12 then some (0, (some (Int32.toNatClampNeg x1))) else none)) else some (u_4.1, none))) else none) else none))
def ff_X8_presentCommand_l2 (N : Nat) (o_this : os_T) (o_this_tokens : os_T) : Nat → Int32 → Option (Nat × Option Nat) := os_loop (fun k2 s1 => ff_X8_presentCommand_c2 N o_this o_this_tokens k2 s1)
def ff_X8_presentCommand (N : Nat) (o_this : os_T) (o_this_tokens : os_T) : Option (Nat × Option Nat) :=
  ff_X8_presentCommand_l2 N o_this o_this_tokens N (0 : Int32)
set_option maxHeartbeats 4000000 in
set_option maxRecDepth 100000 in
theorem mm_X8_presentCommand (l : Launch) (hst : l.stackTraces = false) (zz : Nat → Nat → Nat) (D : va_G) (kA : Nat → ClassId) (N : Nat) (q_this : Nat → Nat) (q_this_tokens : Nat → Nat) (o_this : os_T) (o_this_tokens : os_T) (out : (Nat × Option Nat)) (hf : ff_X8_presentCommand N o_this o_this_tokens = some out) : mx_C l zz D kA yX8_presentCommand wsX8_presentCommand ({ frames := 5, cells := 0, slots := 0, locals := 107 } : Room) [.ref (q_this 0)] (ce_X8 kA (zz 2) q_this q_this_tokens o_this ++ (ce_X10 kA q_this_tokens o_this_tokens)) out.1 (some (va_rf (Option.map (zz 2) out.2))) (ce_X8 kA (zz 2) q_this q_this_tokens o_this ++ (ce_X10 kA q_this_tokens o_this_tokens)) := by
  refine mx_of (cc := cX8_presentCommand) (maxL := 2) (ret := (some (.object "ReliefBuilder$Command"))) (by decide) rfl (Nat.le_of_ble_eq_true rfl) ?_
  intro p e s m below meth c A B hx0 hZ hD hP hS ls hl
  obtain ⟨hx, hb, hr, hlk, hml, hown, hts, hK, hA, hnm⟩ := B
  have hown : s.vm.findClass RX8 = some m.cls := hown
  have hl : lv_has ls 2 [(0, .ref (q_this 0))] := hl
  have hUX8 : ∀ w ∈ u_ws RX8 TX8 7, w.before [.ref (q_this 0)].toArray s = true := fun w h => hts w (List.mem_cons_of_mem _ (List.mem_append_left _ (List.mem_append_right _ h)))
  have hL2 : ∀ (n : Nat) (x1 : Int32) (H : Heap) (locs : List Loc) (ls : Array Slot), va_P D vwCl (ce_X8 kA (zz 2) q_this q_this_tokens o_this ++ (ce_X10 kA q_this_tokens o_this_tokens)) H → va_D A (ce_X8 kA (zz 2) q_this q_this_tokens o_this ++ (ce_X10 kA q_this_tokens o_this_tokens)) → va_S A s.heap H locs → lv_has ls 2 [(0, .ref (q_this 0)), (1, .int x1)] → ff_X8_presentCommand_l2 N o_this o_this_tokens n x1 = some out → W p l e ({ frames := 5, cells := 0, slots := 0, locals := 107 } : Room) s m [.ref (q_this 0)].toArray below meth c H locs 0 0 (vx_MQ below (mx_Q D kA A out.1 (some (va_rf (Option.map (zz 2) out.2))) (ce_X8 kA (zz 2) q_this q_this_tokens o_this ++ (ce_X10 kA q_this_tokens o_this_tokens))) (mx_X D kA A out.1 (ce_X8 kA (zz 2) q_this q_this_tokens o_this ++ (ce_X10 kA q_this_tokens o_this_tokens))) [.ref (q_this 0)].toArray s 0 0 A) (F0 m 2 ls []) := by
    intro n
    induction n with
    | zero => intro x1 H locs ls _ _ _ _ hf; cases hf
    | succ n hk2 =>
      intro x1 H locs ls hP hD hS hl hf
      have hf : ff_X8_presentCommand_c2 N o_this o_this_tokens (ff_X8_presentCommand_l2 N o_this o_this_tokens n) x1 = some out := hf
      generalize hke : ff_X8_presentCommand_l2 N o_this o_this_tokens n = k2 at hk2 hf
      unfold ff_X8_presentCommand_c2 at hf
      refine lv_iload_n hx hb dX8_presentCommand_2 rfl (lv_at hl 1 rfl) ?_
      refine va_gets hx hb hZ.2.2.2.2.2.2.1.1 hS hown (hts (Cond.fieldLink RX8 94 "ReliefBuilder$Script" "COMMANDS" "[LReliefBuilder$Command;") (List.mem_of_getElem? (i := 1) rfl)) (fun _ h9 => h9) dX8_presentCommand_3 ?_
      refine va_tlen hx hb hZ.2.2.2.2.2.2.1.2 hS (v := 12) (by decide) dX8_presentCommand_6 ?_
      refine lv_icmp_ge (tgt := 40) hx hb dX8_presentCommand_7 (by decide) (fun hc_1 => ?_) (fun hc_1 => ?_)
      · rw [if_pos hc_1] at hf
        refine lv_null hx hb dX8_presentCommand_40 ?_
        rw [← Option.some.inj hf]
        exact mx_reta (v := none) (Nat.le_of_ble_eq_true rfl) (Nat.le_of_ble_eq_true rfl) hx hb hr ⟨_, rfl⟩ hlk hP hK hD hS dX8_presentCommand_41
      · rw [if_neg hc_1] at hf
        refine lv_aload_n hx hb dX8_presentCommand_10 rfl (lv_at hl 0 rfl) ?_
        refine va_get (D := D) (ci := 5) (v := .ref (q_this_tokens 0)) (C := RX8) (T := TX8) (N := 7) hx hb hUX8 (fun _ h9 => h9) hown hK hP 0 rfl rfl 0 (by decide) (hts (Cond.fieldLink RX8 27 "ReliefBuilder$Script" "tokens" "LReliefBuilder$Tokens;") (List.mem_of_getElem? (i := 2) rfl)) (fun _ h9 => h9) rfl dX8_presentCommand_11 ?_
        refine va_gets hx hb hZ.2.2.2.2.2.2.1.1 hS hown (hts (Cond.fieldLink RX8 94 "ReliefBuilder$Script" "COMMANDS" "[LReliefBuilder$Command;") (List.mem_of_getElem? (i := 1) rfl)) (fun _ h9 => h9) dX8_presentCommand_14 ?_
        refine lv_iload_n hx hb dX8_presentCommand_17 rfl (lv_at hl 1 rfl) ?_
        obtain ⟨hi_2, hf⟩ := os_if hf
        refine vb_tq hx hb hZ.2.2.2.2.2.2.1.2 hS hi_2 rfl dX8_presentCommand_18 ?_
        obtain ⟨hk_3, hf⟩ := os_if hf
        refine vk_getf hx hb ((hZ.2.2.2.2.1 _ hk_3).2.2.2.1) hS hown (hts (Cond.fieldLink RX8 97 "ReliefBuilder$Command" "word" "Ljava/lang/String;") (List.mem_of_getElem? (i := 3) rfl)) (fun _ h9 => h9) dX8_presentCommand_19 ?_
        obtain ⟨u_4, he_5, hf⟩ := os_bd hf
        refine mx_callV ⟨hx, hb, hml, hown, hts⟩ (mm_X10_isWord l hst zz D kA N q_this_tokens o_this_tokens (Int32.toNatClampNeg x1) u_4 he_5) (cwV 1 hts gX8_presentCommand_X10_isWord rfl rfl rfl (by decide +kernel) ⟨Nat.le_of_ble_eq_true rfl, Nat.le_of_ble_eq_true rfl⟩) (wc := (ce_X10 kA q_this_tokens o_this_tokens)) (ci := 6) (q0 := 0) rfl rfl rfl hl.1 (As := [.ref (zz 0 (Int32.toNatClampNeg x1))]) (rest := []) rfl (Nat.le_of_ble_eq_true rfl) dX8_presentCommand_22 ⟨Nat.le_of_ble_eq_true rfl, Nat.le_of_ble_eq_true rfl⟩ hK hP hD hS hA hZ [5, 6, 7, 8, 9] [0, 1, 2, 3, 4] [0, 1, 2, 3, 4, 5, 6, 7, 8, 9] rfl (by decide) rfl (by decide) (by decide) rfl (by decide) (wr := (ce_X8 kA (zz 2) q_this q_this_tokens o_this)) (w2 := (ce_X8 kA (zz 2) q_this q_this_tokens o_this ++ (ce_X10 kA q_this_tokens o_this_tokens))) (fun hx9 H locs q9 ce hP hD hS h91 h92 h93 => ?_) (fun hx9 H locs hP hD hS => ?_)
        · rw [if_neg hx9] at hf
          rw [← Option.some.inj hf]
          exact mx_out hx9 hx0 hlk hP hK hD hS h91 h92 h93 (Nat.le_of_ble_eq_true rfl) (Nat.le_of_ble_eq_true rfl)
        · rw [if_pos hx9] at hf
          refine W.widen (k := 0) (n := 0) (Nat.le_of_ble_eq_true rfl) (Nat.le_of_ble_eq_true rfl) ?_
          have hP : va_P D vwCl (ce_X8 kA (zz 2) q_this q_this_tokens o_this ++ (ce_X10 kA q_this_tokens o_this_tokens)) H := hP
          refine lv_if_eq (tgt := 34) hx hb dX8_presentCommand_25 (by decide) (fun hc_6 => ?_) (fun hc_6 => ?_)
          · rw [if_pos hc_6] at hf
            refine lv_iinc (v := x1 + 1) (lv' := [(1, .int (x1 + 1)), (0, .ref (q_this 0))]) hx hb dX8_presentCommand_34 hl (k := 1) rfl rfl (by decide) rfl (fun ls hl => ?_)
            refine lv_goto (tgt := 2) hx hb dX8_presentCommand_37 (by decide) ?_
            exact hk2 (x1 + 1) _ _ _ hP hD hS (lv_sub hl [1, 0] rfl) hf
          · rw [if_neg hc_6] at hf
            refine va_gets hx hb hZ.2.2.2.2.2.2.1.1 hS hown (hts (Cond.fieldLink RX8 94 "ReliefBuilder$Script" "COMMANDS" "[LReliefBuilder$Command;") (List.mem_of_getElem? (i := 1) rfl)) (fun _ h9 => h9) dX8_presentCommand_28 ?_
            refine lv_iload_n hx hb dX8_presentCommand_31 rfl (lv_at hl 1 rfl) ?_
            obtain ⟨hi_7, hf⟩ := os_if hf
            refine vb_tq hx hb hZ.2.2.2.2.2.2.1.2 hS hi_7 rfl dX8_presentCommand_32 ?_
            rw [← Option.some.inj hf]
            exact mx_reta (v := some (zz 2 (Int32.toNatClampNeg x1))) (Nat.le_of_ble_eq_true rfl) (Nat.le_of_ble_eq_true rfl) hx hb hr ⟨_, rfl⟩ hlk hP hK hD hS dX8_presentCommand_33
  unfold ff_X8_presentCommand at hf
  refine lv_iconst (v := 0) hx hb dX8_presentCommand_0 (by decide) ?_
  refine lv_istore_n (lv' := [(1, .int (0 : Int32)), (0, .ref (q_this 0))]) hx hb dX8_presentCommand_1 rfl hl (by decide) rfl (fun ls hl => ?_)
  exact hL2 N (0 : Int32) _ _ _ hP hD hS (lv_sub hl [1, 0] rfl) hf
def ff_X8_readNumbers_b52 (N : Nat) (k16 : (os_T × os_T × Nat × Int32 × Int32 × Int32) → Option (Nat × Int32 × os_T × os_T)) (o_this : os_T) (o_this_tokens : os_T) (x1 : Nat) (x2 : Int32) (x3 : Int32) (x4 : Int32) (t0 : Int32) : Option (Nat × Int32 × os_T × os_T) :=
  ((ff_X10_takeNumber N o_this_tokens x3 t0).bind fun u_7 => (if u_7.1 = (-1 : Int32) then some (0, (0 : Int32), o_this, u_7.2) else (if os_in ((x2 * (5 : Int32)) + x4) 150 then k16 (ss_A o_this 0 (upd (os_A o_this 0) (Int32.toNatClampNeg ((x2 * (5 : Int32)) + x4)) u_7.1), u_7.2, x1, x2, x3, x4 + 1) else none)))
def ff_X8_readNumbers_b50 (N : Nat) (k16 : (os_T × os_T × Nat × Int32 × Int32 × Int32) → Option (Nat × Int32 × os_T × os_T)) (o_this : os_T) (o_this_tokens : os_T) (x1 : Nat) (x2 : Int32) (x3 : Int32) (x4 : Int32) : Option (Nat × Int32 × os_T × os_T) :=
  ff_X8_readNumbers_b52 N k16 o_this o_this_tokens x1 x2 x3 x4 (20 : Int32)
def ff_X8_readNumbers_c16 (N : Nat) (k16 : (os_T × os_T × Nat × Int32 × Int32 × Int32) → Option (Nat × Int32 × os_T × os_T)) (o_this : os_T) (o_this_tokens : os_T) (x1 : Nat) (x2 : Int32) (x3 : Int32) (x4 : Int32) : Option (Nat × Int32 × os_T × os_T) :=
  (if x1 < 12 then (if (st_num.getD x1 0) ≤ x4 then some (0, (1 : Int32), o_this, o_this_tokens) else (if (5 : Int32) ≤ x4 then some (0, (1 : Int32), o_this, o_this_tokens) else (if x1 < 12 then (if x1 = 0 then (if x4 = (2 : Int32) then ff_X8_readNumbers_b52 N k16 o_this o_this_tokens x1 x2 x3 x4 (255 : Int32) else ff_X8_readNumbers_b50 N k16 o_this o_this_tokens x1 x2 x3 x4) else ff_X8_readNumbers_b50 N k16 o_this o_this_tokens x1 x2 x3 x4) else none))) else none)
def ff_X8_readNumbers_l16 (N : Nat) : Nat → (os_T × os_T × Nat × Int32 × Int32 × Int32) → Option (Nat × Int32 × os_T × os_T) := os_loop (fun k16 s1 => ff_X8_readNumbers_c16 N k16 s1.1 s1.2.1 s1.2.2.1 s1.2.2.2.1 s1.2.2.2.2.1 s1.2.2.2.2.2)
def ff_X8_readNumbers_b12 (N : Nat) (o_this : os_T) (o_this_tokens : os_T) (x1 : Nat) (x2 : Int32) (t0 : Int32) : Option (Nat × Int32 × os_T × os_T) :=
  ff_X8_readNumbers_l16 N N (o_this, o_this_tokens, x1, x2, t0, (0 : Int32))
def ff_X8_readNumbers (N : Nat) (o_this : os_T) (o_this_tokens : os_T) (a1 : Nat) (a2 : Int32) : Option (Nat × Int32 × os_T × os_T) :=
  (if a1 < 12 then (if a1 = 11 then ff_X8_readNumbers_b12 N o_this o_this_tokens a1 a2 (1 : Int32) else ff_X8_readNumbers_b12 N o_this o_this_tokens a1 a2 (0 : Int32)) else none)
set_option maxHeartbeats 4000000 in
set_option maxRecDepth 100000 in
theorem mm_X8_readNumbers (l : Launch) (hst : l.stackTraces = false) (zz : Nat → Nat → Nat) (D : va_G) (kA : Nat → ClassId) (N : Nat) (q_this : Nat → Nat) (q_this_tokens : Nat → Nat) (o_this : os_T) (o_this_tokens : os_T) (a1 : Nat) (a2 : Int32) (out : (Nat × Int32 × os_T × os_T)) (hf : ff_X8_readNumbers N o_this o_this_tokens a1 a2 = some out) : mx_C l zz D kA yX8_readNumbers wsX8_readNumbers ({ frames := 2, cells := 0, slots := 0, locals := 45 } : Room) [.ref (q_this 0), .ref (zz 2 a1), .int a2] (ce_X8 kA (zz 2) q_this q_this_tokens o_this ++ (ce_X10 kA q_this_tokens o_this_tokens)) out.1 (some (.int out.2.1)) (ce_X8 kA (zz 2) q_this q_this_tokens out.2.2.1 ++ (ce_X10 kA q_this_tokens out.2.2.2)) := by
  refine mx_of (cc := cX8_readNumbers) (maxL := 7) (ret := (some .boolean)) (by decide) rfl (Nat.le_of_ble_eq_true rfl) ?_
  intro p e s m below meth c A B hx0 hZ hD hP hS ls hl
  obtain ⟨hx, hb, hr, hlk, hml, hown, hts, hK, hA, hnm⟩ := B
  have hown : s.vm.findClass RX8 = some m.cls := hown
  have hl : lv_has ls 7 [(0, .ref (q_this 0)), (1, .ref (zz 2 a1)), (2, .int a2)] := hl
  have hUX8 : ∀ w ∈ u_ws RX8 TX8 7, w.before [.ref (q_this 0), .ref (zz 2 a1), .int a2].toArray s = true := fun w h => hts w (List.mem_cons_of_mem _ (List.mem_append_left _ (List.mem_append_right _ h)))
  have hB52 : ∀ (k16 : (os_T × os_T × Nat × Int32 × Int32 × Int32) → Option (Nat × Int32 × os_T × os_T)), (∀ (o_this : os_T) (o_this_tokens : os_T) (x1 : Nat) (x2 : Int32) (x3 : Int32) (x4 : Int32) (H : Heap) (locs : List Loc) (ls : Array Slot), va_P D vwCl (ce_X8 kA (zz 2) q_this q_this_tokens o_this ++ (ce_X10 kA q_this_tokens o_this_tokens)) H → va_D A (ce_X8 kA (zz 2) q_this q_this_tokens o_this ++ (ce_X10 kA q_this_tokens o_this_tokens)) → va_S A s.heap H locs → lv_has ls 7 [(0, .ref (q_this 0)), (1, .ref (zz 2 x1)), (2, .int x2), (3, .int x3), (4, .int x4)] → k16 (o_this, o_this_tokens, x1, x2, x3, x4) = some out → W p l e ({ frames := 2, cells := 0, slots := 0, locals := 45 } : Room) s m [.ref (q_this 0), .ref (zz 2 a1), .int a2].toArray below meth c H locs 0 0 (vx_MQ below (mx_Q D kA A out.1 (some (.int out.2.1)) (ce_X8 kA (zz 2) q_this q_this_tokens out.2.2.1 ++ (ce_X10 kA q_this_tokens out.2.2.2))) (mx_X D kA A out.1 (ce_X8 kA (zz 2) q_this q_this_tokens out.2.2.1 ++ (ce_X10 kA q_this_tokens out.2.2.2))) [.ref (q_this 0), .ref (zz 2 a1), .int a2].toArray s 0 0 A) (F0 m 16 ls [])) → ∀ (o_this : os_T) (o_this_tokens : os_T) (x1 : Nat) (x2 : Int32) (x3 : Int32) (x4 : Int32) (t0 : Int32) (H : Heap) (locs : List Loc) (ls : Array Slot), va_P D vwCl (ce_X8 kA (zz 2) q_this q_this_tokens o_this ++ (ce_X10 kA q_this_tokens o_this_tokens)) H → va_D A (ce_X8 kA (zz 2) q_this q_this_tokens o_this ++ (ce_X10 kA q_this_tokens o_this_tokens)) → va_S A s.heap H locs → lv_has ls 7 [(0, .ref (q_this 0)), (1, .ref (zz 2 x1)), (2, .int x2), (3, .int x3), (4, .int x4)] → ff_X8_readNumbers_b52 N k16 o_this o_this_tokens x1 x2 x3 x4 t0 = some out → W p l e ({ frames := 2, cells := 0, slots := 0, locals := 45 } : Room) s m [.ref (q_this 0), .ref (zz 2 a1), .int a2].toArray below meth c H locs 0 0 (vx_MQ below (mx_Q D kA A out.1 (some (.int out.2.1)) (ce_X8 kA (zz 2) q_this q_this_tokens out.2.2.1 ++ (ce_X10 kA q_this_tokens out.2.2.2))) (mx_X D kA A out.1 (ce_X8 kA (zz 2) q_this q_this_tokens out.2.2.1 ++ (ce_X10 kA q_this_tokens out.2.2.2))) [.ref (q_this 0), .ref (zz 2 a1), .int a2].toArray s 0 0 A) (F0 m 52 ls [.int t0]) := by
    intro k16 hk16 o_this o_this_tokens x1 x2 x3 x4 t0 H locs ls hP hD hS hl hf
    unfold ff_X8_readNumbers_b52 at hf
    refine lv_istore (lv' := [(5, .int t0), (0, .ref (q_this 0)), (1, .ref (zz 2 x1)), (2, .int x2), (3, .int x3), (4, .int x4)]) hx hb dX8_readNumbers_52 hl (by decide) rfl (fun ls hl => ?_)
    refine lv_aload_n hx hb dX8_readNumbers_54 rfl (lv_at hl 1 rfl) ?_
    refine va_get (D := D) (ci := 5) (v := .ref (q_this_tokens 0)) (C := RX8) (T := TX8) (N := 7) hx hb hUX8 (fun _ h9 => h9) hown hK hP 0 rfl rfl 0 (by decide) (hts (Cond.fieldLink RX8 27 "ReliefBuilder$Script" "tokens" "LReliefBuilder$Tokens;") (List.mem_of_getElem? (i := 4) rfl)) (fun _ h9 => h9) rfl dX8_readNumbers_55 ?_
    refine lv_iload_n hx hb dX8_readNumbers_58 rfl (lv_at hl 4 rfl) ?_
    refine lv_iload hx hb dX8_readNumbers_59 (lv_at hl 0 rfl) ?_
    obtain ⟨u_7, he_8, hf⟩ := os_bd hf
    refine mc_callV ⟨hx, hb, hml, hown, hts⟩ (mm_X10_takeNumber l D kA N q_this_tokens o_this_tokens x3 t0 u_7 he_8) (cwV 2 hts gX8_readNumbers_X10_takeNumber rfl rfl rfl (by decide +kernel) ⟨Nat.le_of_ble_eq_true rfl, Nat.le_of_ble_eq_true rfl⟩) (wc := (ce_X10 kA q_this_tokens o_this_tokens)) (ci := 6) (q0 := 0) rfl rfl rfl hl.1 (As := [.int x3, .int t0]) (rest := []) rfl (Nat.le_of_ble_eq_true rfl) dX8_readNumbers_61 ⟨Nat.le_of_ble_eq_true rfl, Nat.le_of_ble_eq_true rfl⟩ hK hP hD hS hA [5, 6, 7, 8, 9] [0, 1, 2, 3, 4] [0, 1, 2, 3, 4, 5, 6, 7, 8, 9] rfl (by decide) rfl (by decide) (by decide) rfl (by decide) (wr := (ce_X8 kA (zz 2) q_this q_this_tokens o_this)) (w2 := (ce_X8 kA (zz 2) q_this q_this_tokens o_this ++ (ce_X10 kA q_this_tokens u_7.2))) (fun H locs hP hD hS => ?_)
    have hP : va_P D vwCl (ce_X8 kA (zz 2) q_this q_this_tokens o_this ++ (ce_X10 kA q_this_tokens u_7.2)) H := hP
    refine lv_istore (lv' := [(6, .int u_7.1), (5, .int t0), (0, .ref (q_this 0)), (1, .ref (zz 2 x1)), (2, .int x2), (3, .int x3), (4, .int x4)]) hx hb dX8_readNumbers_64 hl (by decide) rfl (fun ls hl => ?_)
    refine lv_iload hx hb dX8_readNumbers_66 (lv_at hl 0 rfl) ?_
    refine lv_iconst (v := (-1)) hx hb dX8_readNumbers_68 (by decide) ?_
    refine lv_icmp_ne (tgt := 74) hx hb dX8_readNumbers_69 (by decide) (fun hc_9 => ?_) (fun hc_9 => ?_)
    · rw [if_neg hc_9] at hf
      refine lv_aload_n hx hb dX8_readNumbers_74 rfl (lv_at hl 2 rfl) ?_
      refine va_get (D := D) (ci := 5) (v := .ref (q_this 2)) (C := RX8) (T := TX8) (N := 7) hx hb hUX8 (fun _ h9 => h9) hown hK hP 0 rfl rfl 2 (by decide) (hts (Cond.fieldLink RX8 17 "ReliefBuilder$Script" "numbers" "[I") (List.mem_of_getElem? (i := 5) rfl)) (fun _ h9 => h9) rfl dX8_readNumbers_75 ?_
      refine lv_iload_n hx hb dX8_readNumbers_78 rfl (lv_at hl 4 rfl) ?_
      refine lv_iconst (v := 5) hx hb dX8_readNumbers_79 (by decide) ?_
      refine lv_imul hx hb dX8_readNumbers_80 ?_
      refine lv_iload hx hb dX8_readNumbers_81 (lv_at hl 6 rfl) ?_
      refine lv_iadd hx hb dX8_readNumbers_83 ?_
      refine lv_iload hx hb dX8_readNumbers_84 (lv_at hl 0 rfl) ?_
      obtain ⟨hi_10, hf⟩ := os_if hf
      refine va_iast hx hb hK hP hD hS 2 0 rfl rfl hi_10 dX8_readNumbers_86 (fun H locs hP hD hS => ?_)
      have hP : va_P D vwCl (ce_X8 kA (zz 2) q_this q_this_tokens (ss_A o_this 0 (upd (os_A o_this 0) (Int32.toNatClampNeg ((x2 * (5 : Int32)) + x4)) u_7.1)) ++ (ce_X10 kA q_this_tokens u_7.2)) H := hP
      have hD : va_D A (ce_X8 kA (zz 2) q_this q_this_tokens (ss_A o_this 0 (upd (os_A o_this 0) (Int32.toNatClampNeg ((x2 * (5 : Int32)) + x4)) u_7.1)) ++ (ce_X10 kA q_this_tokens u_7.2)) := hD
      refine lv_iinc (v := x4 + 1) (lv' := [(4, .int (x4 + 1)), (6, .int u_7.1), (5, .int t0), (0, .ref (q_this 0)), (1, .ref (zz 2 x1)), (2, .int x2), (3, .int x3)]) hx hb dX8_readNumbers_87 hl (k := 6) rfl rfl (by decide) rfl (fun ls hl => ?_)
      refine lv_goto (tgt := 16) hx hb dX8_readNumbers_90 (by decide) ?_
      exact hk16 (ss_A o_this 0 (upd (os_A o_this 0) (Int32.toNatClampNeg ((x2 * (5 : Int32)) + x4)) u_7.1)) u_7.2 x1 x2 x3 (x4 + 1) _ _ _ hP hD hS (lv_sub hl [3, 4, 5, 6, 0] rfl) hf
    · rw [if_pos hc_9] at hf
      refine lv_iconst (v := 0) hx hb dX8_readNumbers_72 (by decide) ?_
      rw [← Option.some.inj hf]
      exact mx_retz (v := 0) (Nat.le_of_ble_eq_true rfl) (Nat.le_of_ble_eq_true rfl) hx hb hr rfl hlk hP hK hD hS dX8_readNumbers_73
  have hB50 : ∀ (k16 : (os_T × os_T × Nat × Int32 × Int32 × Int32) → Option (Nat × Int32 × os_T × os_T)), (∀ (o_this : os_T) (o_this_tokens : os_T) (x1 : Nat) (x2 : Int32) (x3 : Int32) (x4 : Int32) (H : Heap) (locs : List Loc) (ls : Array Slot), va_P D vwCl (ce_X8 kA (zz 2) q_this q_this_tokens o_this ++ (ce_X10 kA q_this_tokens o_this_tokens)) H → va_D A (ce_X8 kA (zz 2) q_this q_this_tokens o_this ++ (ce_X10 kA q_this_tokens o_this_tokens)) → va_S A s.heap H locs → lv_has ls 7 [(0, .ref (q_this 0)), (1, .ref (zz 2 x1)), (2, .int x2), (3, .int x3), (4, .int x4)] → k16 (o_this, o_this_tokens, x1, x2, x3, x4) = some out → W p l e ({ frames := 2, cells := 0, slots := 0, locals := 45 } : Room) s m [.ref (q_this 0), .ref (zz 2 a1), .int a2].toArray below meth c H locs 0 0 (vx_MQ below (mx_Q D kA A out.1 (some (.int out.2.1)) (ce_X8 kA (zz 2) q_this q_this_tokens out.2.2.1 ++ (ce_X10 kA q_this_tokens out.2.2.2))) (mx_X D kA A out.1 (ce_X8 kA (zz 2) q_this q_this_tokens out.2.2.1 ++ (ce_X10 kA q_this_tokens out.2.2.2))) [.ref (q_this 0), .ref (zz 2 a1), .int a2].toArray s 0 0 A) (F0 m 16 ls [])) → ∀ (o_this : os_T) (o_this_tokens : os_T) (x1 : Nat) (x2 : Int32) (x3 : Int32) (x4 : Int32) (H : Heap) (locs : List Loc) (ls : Array Slot), va_P D vwCl (ce_X8 kA (zz 2) q_this q_this_tokens o_this ++ (ce_X10 kA q_this_tokens o_this_tokens)) H → va_D A (ce_X8 kA (zz 2) q_this q_this_tokens o_this ++ (ce_X10 kA q_this_tokens o_this_tokens)) → va_S A s.heap H locs → lv_has ls 7 [(0, .ref (q_this 0)), (1, .ref (zz 2 x1)), (2, .int x2), (3, .int x3), (4, .int x4)] → ff_X8_readNumbers_b50 N k16 o_this o_this_tokens x1 x2 x3 x4 = some out → W p l e ({ frames := 2, cells := 0, slots := 0, locals := 45 } : Room) s m [.ref (q_this 0), .ref (zz 2 a1), .int a2].toArray below meth c H locs 0 0 (vx_MQ below (mx_Q D kA A out.1 (some (.int out.2.1)) (ce_X8 kA (zz 2) q_this q_this_tokens out.2.2.1 ++ (ce_X10 kA q_this_tokens out.2.2.2))) (mx_X D kA A out.1 (ce_X8 kA (zz 2) q_this q_this_tokens out.2.2.1 ++ (ce_X10 kA q_this_tokens out.2.2.2))) [.ref (q_this 0), .ref (zz 2 a1), .int a2].toArray s 0 0 A) (F0 m 50 ls []) := by
    intro k16 hk16 o_this o_this_tokens x1 x2 x3 x4 H locs ls hP hD hS hl hf
    unfold ff_X8_readNumbers_b50 at hf
    refine lv_bipush (v := 20) hx hb dX8_readNumbers_50 (by decide) ?_
    exact hB52 k16 hk16 o_this o_this_tokens x1 x2 x3 x4 (20 : Int32) _ _ _ hP hD hS (lv_sub hl [0, 1, 2, 3, 4] rfl) hf
  have hL16 : ∀ (n : Nat) (o_this : os_T) (o_this_tokens : os_T) (x1 : Nat) (x2 : Int32) (x3 : Int32) (x4 : Int32) (H : Heap) (locs : List Loc) (ls : Array Slot), va_P D vwCl (ce_X8 kA (zz 2) q_this q_this_tokens o_this ++ (ce_X10 kA q_this_tokens o_this_tokens)) H → va_D A (ce_X8 kA (zz 2) q_this q_this_tokens o_this ++ (ce_X10 kA q_this_tokens o_this_tokens)) → va_S A s.heap H locs → lv_has ls 7 [(0, .ref (q_this 0)), (1, .ref (zz 2 x1)), (2, .int x2), (3, .int x3), (4, .int x4)] → ff_X8_readNumbers_l16 N n (o_this, o_this_tokens, x1, x2, x3, x4) = some out → W p l e ({ frames := 2, cells := 0, slots := 0, locals := 45 } : Room) s m [.ref (q_this 0), .ref (zz 2 a1), .int a2].toArray below meth c H locs 0 0 (vx_MQ below (mx_Q D kA A out.1 (some (.int out.2.1)) (ce_X8 kA (zz 2) q_this q_this_tokens out.2.2.1 ++ (ce_X10 kA q_this_tokens out.2.2.2))) (mx_X D kA A out.1 (ce_X8 kA (zz 2) q_this q_this_tokens out.2.2.1 ++ (ce_X10 kA q_this_tokens out.2.2.2))) [.ref (q_this 0), .ref (zz 2 a1), .int a2].toArray s 0 0 A) (F0 m 16 ls []) := by
    intro n
    induction n with
    | zero => intro o_this o_this_tokens x1 x2 x3 x4 H locs ls _ _ _ _ hf; cases hf
    | succ n hk16 =>
      intro o_this o_this_tokens x1 x2 x3 x4 H locs ls hP hD hS hl hf
      have hf : ff_X8_readNumbers_c16 N (ff_X8_readNumbers_l16 N n) o_this o_this_tokens x1 x2 x3 x4 = some out := hf
      generalize hke : ff_X8_readNumbers_l16 N n = k16 at hk16 hf
      unfold ff_X8_readNumbers_c16 at hf
      refine lv_iload hx hb dX8_readNumbers_16 (lv_at hl 4 rfl) ?_
      refine lv_aload_n hx hb dX8_readNumbers_18 rfl (lv_at hl 1 rfl) ?_
      obtain ⟨hk_2, hf⟩ := os_if hf
      refine vk_getf hx hb ((hZ.2.2.2.2.1 _ hk_2).2.2.2.2) hS hown (hts (Cond.fieldLink RX8 105 "ReliefBuilder$Command" "numbers" "I") (List.mem_of_getElem? (i := 2) rfl)) (fun _ h9 => h9) dX8_readNumbers_19 ?_
      refine lv_icmp_ge (tgt := 93) hx hb dX8_readNumbers_22 (by decide) (fun hc_3 => ?_) (fun hc_3 => ?_)
      · rw [if_pos hc_3] at hf
        refine lv_iconst (v := 1) hx hb dX8_readNumbers_93 (by decide) ?_
        rw [← Option.some.inj hf]
        exact mx_retz (v := 1) (Nat.le_of_ble_eq_true rfl) (Nat.le_of_ble_eq_true rfl) hx hb hr rfl hlk hP hK hD hS dX8_readNumbers_94
      · rw [if_neg hc_3] at hf
        refine lv_iload hx hb dX8_readNumbers_25 (lv_at hl 4 rfl) ?_
        refine lv_iconst (v := 5) hx hb dX8_readNumbers_27 (by decide) ?_
        refine lv_icmp_ge (tgt := 93) hx hb dX8_readNumbers_28 (by decide) (fun hc_4 => ?_) (fun hc_4 => ?_)
        · rw [if_pos hc_4] at hf
          refine lv_iconst (v := 1) hx hb dX8_readNumbers_93 (by decide) ?_
          rw [← Option.some.inj hf]
          exact mx_retz (v := 1) (Nat.le_of_ble_eq_true rfl) (Nat.le_of_ble_eq_true rfl) hx hb hr rfl hlk hP hK hD hS dX8_readNumbers_94
        · rw [if_neg hc_4] at hf
          refine lv_aload_n hx hb dX8_readNumbers_31 rfl (lv_at hl 1 rfl) ?_
          refine va_gets hx hb (hZ.2.2.2.2.1 0 (by decide)).1 hS hown (hts (Cond.fieldLink RX8 107 "ReliefBuilder$Command" "TONE" "LReliefBuilder$Command;") (List.mem_of_getElem? (i := 3) rfl)) (fun _ h9 => h9) dX8_readNumbers_32 ?_
          obtain ⟨hc_5_k, hf⟩ := os_if hf
          refine lv_acmp_ne (rx := (some (zz 2 x1))) (ry := (some (zz 2 0))) (tgt := 50) hx hb dX8_readNumbers_35 (by decide) (fun hc_5_0 => ?_) (fun hc_5_0 => ?_)
          · have hc_5 : ¬ x1 = 0 := fun h9 => hc_5_0 (by rw [h9])
            rw [if_neg hc_5] at hf
            exact hB50 k16 hk16 o_this o_this_tokens x1 x2 x3 x4 _ _ _ hP hD hS (lv_sub hl [0, 1, 2, 3, 4] rfl) hf
          · have hc_5 : x1 = 0 := hZ.2.2.2.2.2.1 _ _ hc_5_k (by decide) (Option.some.inj hc_5_0)
            rw [if_pos hc_5] at hf
            refine lv_iload hx hb dX8_readNumbers_38 (lv_at hl 4 rfl) ?_
            refine lv_iconst (v := 2) hx hb dX8_readNumbers_40 (by decide) ?_
            refine lv_icmp_ne (tgt := 50) hx hb dX8_readNumbers_41 (by decide) (fun hc_6 => ?_) (fun hc_6 => ?_)
            · rw [if_neg hc_6] at hf
              exact hB50 k16 hk16 o_this o_this_tokens x1 x2 x3 x4 _ _ _ hP hD hS (lv_sub hl [0, 1, 2, 3, 4] rfl) hf
            · rw [if_pos hc_6] at hf
              refine lv_sipush (v := 255) hx hb dX8_readNumbers_44 (by decide) ?_
              refine lv_goto (tgt := 52) hx hb dX8_readNumbers_47 (by decide) ?_
              exact hB52 k16 hk16 o_this o_this_tokens x1 x2 x3 x4 (255 : Int32) _ _ _ hP hD hS (lv_sub hl [0, 1, 2, 3, 4] rfl) hf
  have hB12 : ∀ (o_this : os_T) (o_this_tokens : os_T) (x1 : Nat) (x2 : Int32) (t0 : Int32) (H : Heap) (locs : List Loc) (ls : Array Slot), va_P D vwCl (ce_X8 kA (zz 2) q_this q_this_tokens o_this ++ (ce_X10 kA q_this_tokens o_this_tokens)) H → va_D A (ce_X8 kA (zz 2) q_this q_this_tokens o_this ++ (ce_X10 kA q_this_tokens o_this_tokens)) → va_S A s.heap H locs → lv_has ls 7 [(0, .ref (q_this 0)), (1, .ref (zz 2 x1)), (2, .int x2)] → ff_X8_readNumbers_b12 N o_this o_this_tokens x1 x2 t0 = some out → W p l e ({ frames := 2, cells := 0, slots := 0, locals := 45 } : Room) s m [.ref (q_this 0), .ref (zz 2 a1), .int a2].toArray below meth c H locs 0 0 (vx_MQ below (mx_Q D kA A out.1 (some (.int out.2.1)) (ce_X8 kA (zz 2) q_this q_this_tokens out.2.2.1 ++ (ce_X10 kA q_this_tokens out.2.2.2))) (mx_X D kA A out.1 (ce_X8 kA (zz 2) q_this q_this_tokens out.2.2.1 ++ (ce_X10 kA q_this_tokens out.2.2.2))) [.ref (q_this 0), .ref (zz 2 a1), .int a2].toArray s 0 0 A) (F0 m 12 ls [.int t0]) := by
    intro o_this o_this_tokens x1 x2 t0 H locs ls hP hD hS hl hf
    unfold ff_X8_readNumbers_b12 at hf
    refine lv_istore_n (lv' := [(3, .int t0), (0, .ref (q_this 0)), (1, .ref (zz 2 x1)), (2, .int x2)]) hx hb dX8_readNumbers_12 rfl hl (by decide) rfl (fun ls hl => ?_)
    refine lv_iconst (v := 0) hx hb dX8_readNumbers_13 (by decide) ?_
    refine lv_istore (lv' := [(4, .int (0 : Int32)), (3, .int t0), (0, .ref (q_this 0)), (1, .ref (zz 2 x1)), (2, .int x2)]) hx hb dX8_readNumbers_14 hl (by decide) rfl (fun ls hl => ?_)
    exact hL16 N o_this o_this_tokens x1 x2 t0 (0 : Int32) _ _ _ hP hD hS (lv_sub hl [2, 3, 4, 1, 0] rfl) hf
  unfold ff_X8_readNumbers at hf
  refine lv_aload_n hx hb dX8_readNumbers_0 rfl (lv_at hl 1 rfl) ?_
  refine va_gets hx hb (hZ.2.2.2.2.1 11 (by decide)).1 hS hown (hts (Cond.fieldLink RX8 54 "ReliefBuilder$Command" "REPEAT" "LReliefBuilder$Command;") (List.mem_of_getElem? (i := 1) rfl)) (fun _ h9 => h9) dX8_readNumbers_1 ?_
  obtain ⟨hc_1_k, hf⟩ := os_if hf
  refine lv_acmp_ne (rx := (some (zz 2 a1))) (ry := (some (zz 2 11))) (tgt := 11) hx hb dX8_readNumbers_4 (by decide) (fun hc_1_0 => ?_) (fun hc_1_0 => ?_)
  · have hc_1 : ¬ a1 = 11 := fun h9 => hc_1_0 (by rw [h9])
    rw [if_neg hc_1] at hf
    refine lv_iconst (v := 0) hx hb dX8_readNumbers_11 (by decide) ?_
    exact hB12 o_this o_this_tokens a1 a2 (0 : Int32) _ _ _ hP hD hS (lv_sub hl [0, 1, 2] rfl) hf
  · have hc_1 : a1 = 11 := hZ.2.2.2.2.2.1 _ _ hc_1_k (by decide) (Option.some.inj hc_1_0)
    rw [if_pos hc_1] at hf
    refine lv_iconst (v := 1) hx hb dX8_readNumbers_7 (by decide) ?_
    refine lv_goto (tgt := 12) hx hb dX8_readNumbers_8 (by decide) ?_
    exact hB12 o_this o_this_tokens a1 a2 (1 : Int32) _ _ _ hP hD hS (lv_sub hl [0, 1, 2] rfl) hf
def ff_X8_readCommand_v0_b144 (N : Nat) (o_this : os_T) (o_this_tokens : os_T) (x3 : Int32) (t0 : Int32) : Option (Nat × Int32 × os_T × os_T) :=
  (if os_in x3 30 then (if t0 = 0 then some (0, (0 : Int32), ss_A o_this 1 (upd (os_A o_this 1) (Int32.toNatClampNeg x3) (os_I o_this 5)), o_this_tokens) else ((ff_X10_takeSign N o_this_tokens (59 : Int32)).bind fun u_31 => (if u_31.1 = 0 then some (0, (0 : Int32), ss_A o_this 1 (upd (os_A o_this 1) (Int32.toNatClampNeg x3) (os_I o_this 5)), u_31.2) else some (0, (1 : Int32), ss_A o_this 1 (upd (os_A o_this 1) (Int32.toNatClampNeg x3) (os_I o_this 5)), u_31.2)))) else none)
def ff_X8_readCommand_v0_b139 (N : Nat) (o_this : os_T) (o_this_tokens : os_T) (x3 : Int32) : Option (Nat × Int32 × os_T × os_T) :=
  ff_X8_readCommand_v0_b144 N o_this o_this_tokens x3 (1 : Int32)
def ff_X8_readCommand_v0_b143 (N : Nat) (o_this : os_T) (o_this_tokens : os_T) (x3 : Int32) : Option (Nat × Int32 × os_T × os_T) :=
  ff_X8_readCommand_v0_b144 N o_this o_this_tokens x3 (0 : Int32)
def ff_X8_readCommand_v0_b39 (N : Nat) (o_this : os_T) (o_this_tokens : os_T) (x1 : Int32) (x2 : Nat) : Option (Nat × Int32 × os_T × os_T) :=
  ((ff_X8_isIndex N (os_I o_this 5)).bind fun u_13 => (if u_13 = 0 then ((ff_X10_fail N o_this_tokens (5 : Int32)).bind fun u_26 => (if os_z u_26.1 then some (0, u_26.1, o_this, u_26.2) else none)) else (if x2 < 12 then (if os_in (os_I o_this 5) 30 then ((ff_X10_advance N o_this_tokens).bind fun u_17 => ((ff_X8_readNumbers N (ss_I (ss_R o_this 0 (va_up (os_R o_this 0) (Int32.toNatClampNeg (os_I o_this 5)) (some x2))) 5 ((os_I o_this 5) + (1 : Int32))) u_17 x2 (os_I o_this 5)).bind fun u_19 => (if u_19.1 = 0 then (if u_19.2.1 = 0 then some (0, (0 : Int32), u_19.2.2.1, u_19.2.2.2) else (if x2 < 12 then (if x2 = 11 then ((ff_X10_takeSign N u_19.2.2.2 (40 : Int32)).bind fun u_23 => (if u_23.1 = 0 then ff_X8_readCommand_v0_b143 N u_19.2.2.1 u_23.2 (os_I o_this 5) else none)) else ff_X8_readCommand_v0_b139 N u_19.2.2.1 u_19.2.2.2 (os_I o_this 5)) else none)) else some (u_19.1, (0 : Int32), u_19.2.2.1, u_19.2.2.2)))) else none) else none)))
def ff_X8_readCommand_v0 (N : Nat) (o_this : os_T) (o_this_tokens : os_T) (a1 : Int32) : Option (Nat × Int32 × os_T × os_T) :=
  ((ff_X8_presentCommand N o_this o_this_tokens).bind fun u_1 => (if u_1.1 = 0 then (os_opt u_1.2 ((ff_X10_fail N o_this_tokens (1 : Int32)).bind fun u_5 => (if os_z u_5.1 then some (0, u_5.1, o_this, u_5.2) else none)) (fun c_4 => (if c_4 < 12 then (if c_4 = 11 then (if a1 < (2 : Int32) then ff_X8_readCommand_v0_b39 N o_this o_this_tokens a1 c_4 else ((ff_X10_fail N o_this_tokens (3 : Int32)).bind fun u_10 => (if os_z u_10.1 then some (0, u_10.1, o_this, u_10.2) else none))) else ff_X8_readCommand_v0_b39 N o_this o_this_tokens a1 c_4) else none))) else some (u_1.1, (0 : Int32), o_this, o_this_tokens)))
set_option maxHeartbeats 4000000 in
set_option maxRecDepth 100000 in
theorem mm_X8_readCommand_v0 (l : Launch) (hst : l.stackTraces = false) (zz : Nat → Nat → Nat) (D : va_G) (kA : Nat → ClassId) (N : Nat) (q_this : Nat → Nat) (q_this_tokens : Nat → Nat) (o_this : os_T) (o_this_tokens : os_T) (a1 : Int32) (out : (Nat × Int32 × os_T × os_T)) (hf : ff_X8_readCommand_v0 N o_this o_this_tokens a1 = some out) : mx_C l zz D kA yX8_readCommand wsX8_readCommand ({ frames := 6, cells := 0, slots := 0, locals := 128 } : Room) [.ref (q_this 0), .int a1] (ce_X8 kA (zz 2) q_this q_this_tokens o_this ++ (ce_X10 kA q_this_tokens o_this_tokens)) out.1 (some (.int out.2.1)) (ce_X8 kA (zz 2) q_this q_this_tokens out.2.2.1 ++ (ce_X10 kA q_this_tokens out.2.2.2)) := by
  refine mx_of (cc := cX8_readCommand) (maxL := 5) (ret := (some .boolean)) (by decide) rfl (Nat.le_of_ble_eq_true rfl) ?_
  intro p e s m below meth c A B hx0 hZ hD hP hS ls hl
  obtain ⟨hx, hb, hr, hlk, hml, hown, hts, hK, hA, hnm⟩ := B
  have hown : s.vm.findClass RX8 = some m.cls := hown
  have hl : lv_has ls 5 [(0, .ref (q_this 0)), (1, .int a1)] := hl
  have hUX8 : ∀ w ∈ u_ws RX8 TX8 7, w.before [.ref (q_this 0), .int a1].toArray s = true := fun w h => hts w (List.mem_cons_of_mem _ (List.mem_append_left _ (List.mem_append_right _ h)))
  have hB144 : ∀ (o_this : os_T) (o_this_tokens : os_T) (x3 : Int32) (t0 : Int32) (H : Heap) (locs : List Loc) (ls : Array Slot), va_P D vwCl (ce_X8 kA (zz 2) q_this q_this_tokens o_this ++ (ce_X10 kA q_this_tokens o_this_tokens)) H → va_D A (ce_X8 kA (zz 2) q_this q_this_tokens o_this ++ (ce_X10 kA q_this_tokens o_this_tokens)) → va_S A s.heap H locs → lv_has ls 5 [(0, .ref (q_this 0)), (3, .int x3)] → ff_X8_readCommand_v0_b144 N o_this o_this_tokens x3 t0 = some out → W p l e ({ frames := 6, cells := 0, slots := 0, locals := 128 } : Room) s m [.ref (q_this 0), .int a1].toArray below meth c H locs 0 0 (vx_MQ below (mx_Q D kA A out.1 (some (.int out.2.1)) (ce_X8 kA (zz 2) q_this q_this_tokens out.2.2.1 ++ (ce_X10 kA q_this_tokens out.2.2.2))) (mx_X D kA A out.1 (ce_X8 kA (zz 2) q_this q_this_tokens out.2.2.1 ++ (ce_X10 kA q_this_tokens out.2.2.2))) [.ref (q_this 0), .int a1].toArray s 0 0 A) (F0 m 144 ls [.int t0]) := by
    intro o_this o_this_tokens x3 t0 H locs ls hP hD hS hl hf
    unfold ff_X8_readCommand_v0_b144 at hf
    refine lv_istore (lv' := [(4, .int t0), (0, .ref (q_this 0)), (3, .int x3)]) hx hb dX8_readCommand_144 hl (by decide) rfl (fun ls hl => ?_)
    refine lv_aload_n hx hb dX8_readCommand_146 rfl (lv_at hl 1 rfl) ?_
    refine va_get (D := D) (ci := 5) (v := .ref (q_this 3)) (C := RX8) (T := TX8) (N := 7) hx hb hUX8 (fun _ h9 => h9) hown hK hP 0 rfl rfl 3 (by decide) (hts (Cond.fieldLink RX8 21 "ReliefBuilder$Script" "ends" "[I") (List.mem_of_getElem? (i := 5) rfl)) (fun _ h9 => h9) rfl dX8_readCommand_147 ?_
    refine lv_iload_n hx hb dX8_readCommand_150 rfl (lv_at hl 2 rfl) ?_
    refine lv_aload_n hx hb dX8_readCommand_151 rfl (lv_at hl 1 rfl) ?_
    refine va_get (D := D) (ci := 5) (v := .int (os_I o_this 5)) (C := RX8) (T := TX8) (N := 7) hx hb hUX8 (fun _ h9 => h9) hown hK hP 0 rfl rfl 5 (by decide) (hts (Cond.fieldLink RX8 35 "ReliefBuilder$Script" "count" "I") (List.mem_of_getElem? (i := 3) rfl)) (fun _ h9 => h9) rfl dX8_readCommand_152 ?_
    obtain ⟨hi_29, hf⟩ := os_if hf
    refine va_iast hx hb hK hP hD hS 3 0 rfl rfl hi_29 dX8_readCommand_155 (fun H locs hP hD hS => ?_)
    have hP : va_P D vwCl (ce_X8 kA (zz 2) q_this q_this_tokens (ss_A o_this 1 (upd (os_A o_this 1) (Int32.toNatClampNeg x3) (os_I o_this 5))) ++ (ce_X10 kA q_this_tokens o_this_tokens)) H := hP
    have hD : va_D A (ce_X8 kA (zz 2) q_this q_this_tokens (ss_A o_this 1 (upd (os_A o_this 1) (Int32.toNatClampNeg x3) (os_I o_this 5))) ++ (ce_X10 kA q_this_tokens o_this_tokens)) := hD
    refine lv_iload hx hb dX8_readCommand_156 (lv_at hl 0 rfl) ?_
    refine lv_if_eq (tgt := 177) hx hb dX8_readCommand_158 (by decide) (fun hc_30 => ?_) (fun hc_30 => ?_)
    · rw [if_pos hc_30] at hf
      refine lv_iconst (v := 0) hx hb dX8_readCommand_177 (by decide) ?_
      rw [← Option.some.inj hf]
      exact mx_retz (v := 0) (Nat.le_of_ble_eq_true rfl) (Nat.le_of_ble_eq_true rfl) hx hb hr rfl hlk hP hK hD hS dX8_readCommand_178
    · rw [if_neg hc_30] at hf
      refine lv_aload_n hx hb dX8_readCommand_161 rfl (lv_at hl 1 rfl) ?_
      refine va_get (D := D) (ci := 5) (v := .ref (q_this_tokens 0)) (C := RX8) (T := TX8) (N := 7) hx hb hUX8 (fun _ h9 => h9) hown hK hP 0 rfl rfl 0 (by decide) (hts (Cond.fieldLink RX8 27 "ReliefBuilder$Script" "tokens" "LReliefBuilder$Tokens;") (List.mem_of_getElem? (i := 1) rfl)) (fun _ h9 => h9) rfl dX8_readCommand_162 ?_
      refine lv_bipush (v := 59) hx hb dX8_readCommand_165 (by decide) ?_
      obtain ⟨u_31, he_32, hf⟩ := os_bd hf
      refine mc_callV ⟨hx, hb, hml, hown, hts⟩ (mm_X10_takeSign l D kA N q_this_tokens o_this_tokens (59 : Int32) u_31 he_32) (cwV 1 hts gX8_readCommand_X10_takeSign rfl rfl rfl (by decide +kernel) ⟨Nat.le_of_ble_eq_true rfl, Nat.le_of_ble_eq_true rfl⟩) (wc := (ce_X10 kA q_this_tokens o_this_tokens)) (ci := 6) (q0 := 0) rfl rfl rfl hl.1 (As := [.int (59 : Int32)]) (rest := []) rfl (Nat.le_of_ble_eq_true rfl) dX8_readCommand_167 ⟨Nat.le_of_ble_eq_true rfl, Nat.le_of_ble_eq_true rfl⟩ hK hP hD hS hA [5, 6, 7, 8, 9] [0, 1, 2, 3, 4] [0, 1, 2, 3, 4, 5, 6, 7, 8, 9] rfl (by decide) rfl (by decide) (by decide) rfl (by decide) (wr := (ce_X8 kA (zz 2) q_this q_this_tokens (ss_A o_this 1 (upd (os_A o_this 1) (Int32.toNatClampNeg x3) (os_I o_this 5))))) (w2 := (ce_X8 kA (zz 2) q_this q_this_tokens (ss_A o_this 1 (upd (os_A o_this 1) (Int32.toNatClampNeg x3) (os_I o_this 5))) ++ (ce_X10 kA q_this_tokens u_31.2))) (fun H locs hP hD hS => ?_)
      have hP : va_P D vwCl (ce_X8 kA (zz 2) q_this q_this_tokens (ss_A o_this 1 (upd (os_A o_this 1) (Int32.toNatClampNeg x3) (os_I o_this 5))) ++ (ce_X10 kA q_this_tokens u_31.2)) H := hP
      refine lv_if_eq (tgt := 177) hx hb dX8_readCommand_170 (by decide) (fun hc_33 => ?_) (fun hc_33 => ?_)
      · rw [if_pos hc_33] at hf
        refine lv_iconst (v := 0) hx hb dX8_readCommand_177 (by decide) ?_
        rw [← Option.some.inj hf]
        exact mx_retz (v := 0) (Nat.le_of_ble_eq_true rfl) (Nat.le_of_ble_eq_true rfl) hx hb hr rfl hlk hP hK hD hS dX8_readCommand_178
      · rw [if_neg hc_33] at hf
        refine lv_iconst (v := 1) hx hb dX8_readCommand_173 (by decide) ?_
        refine lv_goto (tgt := 178) hx hb dX8_readCommand_174 (by decide) ?_
        rw [← Option.some.inj hf]
        exact mx_retz (v := 1) (Nat.le_of_ble_eq_true rfl) (Nat.le_of_ble_eq_true rfl) hx hb hr rfl hlk hP hK hD hS dX8_readCommand_178
  have hB139 : ∀ (o_this : os_T) (o_this_tokens : os_T) (x3 : Int32) (H : Heap) (locs : List Loc) (ls : Array Slot), va_P D vwCl (ce_X8 kA (zz 2) q_this q_this_tokens o_this ++ (ce_X10 kA q_this_tokens o_this_tokens)) H → va_D A (ce_X8 kA (zz 2) q_this q_this_tokens o_this ++ (ce_X10 kA q_this_tokens o_this_tokens)) → va_S A s.heap H locs → lv_has ls 5 [(0, .ref (q_this 0)), (3, .int x3)] → ff_X8_readCommand_v0_b139 N o_this o_this_tokens x3 = some out → W p l e ({ frames := 6, cells := 0, slots := 0, locals := 128 } : Room) s m [.ref (q_this 0), .int a1].toArray below meth c H locs 0 0 (vx_MQ below (mx_Q D kA A out.1 (some (.int out.2.1)) (ce_X8 kA (zz 2) q_this q_this_tokens out.2.2.1 ++ (ce_X10 kA q_this_tokens out.2.2.2))) (mx_X D kA A out.1 (ce_X8 kA (zz 2) q_this q_this_tokens out.2.2.1 ++ (ce_X10 kA q_this_tokens out.2.2.2))) [.ref (q_this 0), .int a1].toArray s 0 0 A) (F0 m 139 ls []) := by
    intro o_this o_this_tokens x3 H locs ls hP hD hS hl hf
    unfold ff_X8_readCommand_v0_b139 at hf
    refine lv_iconst (v := 1) hx hb dX8_readCommand_139 (by decide) ?_
    refine lv_goto (tgt := 144) hx hb dX8_readCommand_140 (by decide) ?_
    exact hB144 o_this o_this_tokens x3 (1 : Int32) _ _ _ hP hD hS (lv_sub hl [0, 1] rfl) hf
  have hB143 : ∀ (o_this : os_T) (o_this_tokens : os_T) (x3 : Int32) (H : Heap) (locs : List Loc) (ls : Array Slot), va_P D vwCl (ce_X8 kA (zz 2) q_this q_this_tokens o_this ++ (ce_X10 kA q_this_tokens o_this_tokens)) H → va_D A (ce_X8 kA (zz 2) q_this q_this_tokens o_this ++ (ce_X10 kA q_this_tokens o_this_tokens)) → va_S A s.heap H locs → lv_has ls 5 [(0, .ref (q_this 0)), (3, .int x3)] → ff_X8_readCommand_v0_b143 N o_this o_this_tokens x3 = some out → W p l e ({ frames := 6, cells := 0, slots := 0, locals := 128 } : Room) s m [.ref (q_this 0), .int a1].toArray below meth c H locs 0 0 (vx_MQ below (mx_Q D kA A out.1 (some (.int out.2.1)) (ce_X8 kA (zz 2) q_this q_this_tokens out.2.2.1 ++ (ce_X10 kA q_this_tokens out.2.2.2))) (mx_X D kA A out.1 (ce_X8 kA (zz 2) q_this q_this_tokens out.2.2.1 ++ (ce_X10 kA q_this_tokens out.2.2.2))) [.ref (q_this 0), .int a1].toArray s 0 0 A) (F0 m 143 ls []) := by
    intro o_this o_this_tokens x3 H locs ls hP hD hS hl hf
    unfold ff_X8_readCommand_v0_b143 at hf
    refine lv_iconst (v := 0) hx hb dX8_readCommand_143 (by decide) ?_
    exact hB144 o_this o_this_tokens x3 (0 : Int32) _ _ _ hP hD hS (lv_sub hl [0, 1] rfl) hf
  have hB39 : ∀ (o_this : os_T) (o_this_tokens : os_T) (x1 : Int32) (x2 : Nat) (H : Heap) (locs : List Loc) (ls : Array Slot), va_P D vwCl (ce_X8 kA (zz 2) q_this q_this_tokens o_this ++ (ce_X10 kA q_this_tokens o_this_tokens)) H → va_D A (ce_X8 kA (zz 2) q_this q_this_tokens o_this ++ (ce_X10 kA q_this_tokens o_this_tokens)) → va_S A s.heap H locs → lv_has ls 5 [(0, .ref (q_this 0)), (1, .int x1), (2, .ref (zz 2 x2))] → ff_X8_readCommand_v0_b39 N o_this o_this_tokens x1 x2 = some out → W p l e ({ frames := 6, cells := 0, slots := 0, locals := 128 } : Room) s m [.ref (q_this 0), .int a1].toArray below meth c H locs 0 0 (vx_MQ below (mx_Q D kA A out.1 (some (.int out.2.1)) (ce_X8 kA (zz 2) q_this q_this_tokens out.2.2.1 ++ (ce_X10 kA q_this_tokens out.2.2.2))) (mx_X D kA A out.1 (ce_X8 kA (zz 2) q_this q_this_tokens out.2.2.1 ++ (ce_X10 kA q_this_tokens out.2.2.2))) [.ref (q_this 0), .int a1].toArray s 0 0 A) (F0 m 39 ls []) := by
    intro o_this o_this_tokens x1 x2 H locs ls hP hD hS hl hf
    unfold ff_X8_readCommand_v0_b39 at hf
    refine lv_aload_n hx hb dX8_readCommand_39 rfl (lv_at hl 0 rfl) ?_
    refine va_get (D := D) (ci := 5) (v := .int (os_I o_this 5)) (C := RX8) (T := TX8) (N := 7) hx hb hUX8 (fun _ h9 => h9) hown hK hP 0 rfl rfl 5 (by decide) (hts (Cond.fieldLink RX8 35 "ReliefBuilder$Script" "count" "I") (List.mem_of_getElem? (i := 3) rfl)) (fun _ h9 => h9) rfl dX8_readCommand_40 ?_
    obtain ⟨u_13, he_14, hf⟩ := os_bd hf
    refine mc_callS ⟨hx, hb, hml, hown, hts⟩ (mm_X8_isIndex l D kA N (os_I o_this 5) u_13 he_14) (va_cwS 1 hts gX8_readCommand_X8_isIndex rfl rfl rfl (by decide +kernel) ⟨Nat.le_of_ble_eq_true rfl, Nat.le_of_ble_eq_true rfl⟩) (wc := []) rfl hl.1 (As := [.int (os_I o_this 5)]) (rest := []) rfl (Nat.le_of_ble_eq_true rfl) dX8_readCommand_43 ⟨Nat.le_of_ble_eq_true rfl, Nat.le_of_ble_eq_true rfl⟩ hK hP hD hS hA [] [0, 1, 2, 3, 4, 5, 6, 7, 8, 9] [0, 1, 2, 3, 4, 5, 6, 7, 8, 9] rfl (by decide) rfl (by decide) (by decide) rfl (by decide) (wr := (ce_X8 kA (zz 2) q_this q_this_tokens o_this ++ (ce_X10 kA q_this_tokens o_this_tokens))) (w2 := (ce_X8 kA (zz 2) q_this q_this_tokens o_this ++ (ce_X10 kA q_this_tokens o_this_tokens))) (fun H locs hP hD hS => ?_)
    have hP : va_P D vwCl (ce_X8 kA (zz 2) q_this q_this_tokens o_this ++ (ce_X10 kA q_this_tokens o_this_tokens)) H := hP
    refine lv_if_ne (tgt := 58) hx hb dX8_readCommand_46 (by decide) (fun hc_15 => ?_) (fun hc_15 => ?_)
    · rw [if_neg hc_15] at hf
      refine lv_aload_n hx hb dX8_readCommand_58 rfl (lv_at hl 0 rfl) ?_
      refine va_get (D := D) (ci := 5) (v := .int (os_I o_this 5)) (C := RX8) (T := TX8) (N := 7) hx hb hUX8 (fun _ h9 => h9) hown hK hP 0 rfl rfl 5 (by decide) (hts (Cond.fieldLink RX8 35 "ReliefBuilder$Script" "count" "I") (List.mem_of_getElem? (i := 3) rfl)) (fun _ h9 => h9) rfl dX8_readCommand_59 ?_
      refine lv_istore_n (lv' := [(3, .int (os_I o_this 5)), (0, .ref (q_this 0)), (1, .int x1), (2, .ref (zz 2 x2))]) hx hb dX8_readCommand_62 rfl hl (by decide) rfl (fun ls hl => ?_)
      refine lv_aload_n hx hb dX8_readCommand_63 rfl (lv_at hl 1 rfl) ?_
      refine lv_dup hx hb dX8_readCommand_64 rfl ?_
      refine va_get (D := D) (ci := 5) (v := .int (os_I o_this 5)) (C := RX8) (T := TX8) (N := 7) hx hb hUX8 (fun _ h9 => h9) hown hK hP 0 rfl rfl 5 (by decide) (hts (Cond.fieldLink RX8 35 "ReliefBuilder$Script" "count" "I") (List.mem_of_getElem? (i := 3) rfl)) (fun _ h9 => h9) rfl dX8_readCommand_65 ?_
      refine lv_iconst (v := 1) hx hb dX8_readCommand_68 (by decide) ?_
      refine lv_iadd hx hb dX8_readCommand_69 ?_
      refine va_put (D := D) (ci := 5) (v := .int ((os_I o_this 5) + (1 : Int32))) (ty := .int) (C := RX8) (T := TX8) (N := 7) hx hb hUX8 (fun _ h9 => h9) tyX8 tyX8_ok nmX8 hown hK hP hD hS 0 rfl rfl 5 (by decide) (hts (Cond.fieldLink RX8 35 "ReliefBuilder$Script" "count" "I") (List.mem_of_getElem? (i := 3) rfl)) (fun _ h9 => h9) rfl (tyX8_ok 5 (by decide)) rfl rfl (Nat.le_of_ble_eq_true rfl) dX8_readCommand_70 (fun H locs hP hD hS => ?_)
      have hP : va_P D vwCl (ce_X8 kA (zz 2) q_this q_this_tokens (ss_I o_this 5 ((os_I o_this 5) + (1 : Int32))) ++ (ce_X10 kA q_this_tokens o_this_tokens)) H := hP
      have hD : va_D A (ce_X8 kA (zz 2) q_this q_this_tokens (ss_I o_this 5 ((os_I o_this 5) + (1 : Int32))) ++ (ce_X10 kA q_this_tokens o_this_tokens)) := hD
      refine lv_aload_n hx hb dX8_readCommand_73 rfl (lv_at hl 1 rfl) ?_
      refine va_get (D := D) (ci := 5) (v := .ref (q_this 1)) (C := RX8) (T := TX8) (N := 7) hx hb hUX8 (fun _ h9 => h9) hown hK hP 0 rfl rfl 1 (by decide) (hts (Cond.fieldLink RX8 13 "ReliefBuilder$Script" "commands" "[LReliefBuilder$Command;") (List.mem_of_getElem? (i := 4) rfl)) (fun _ h9 => h9) rfl dX8_readCommand_74 ?_
      refine lv_iload_n hx hb dX8_readCommand_77 rfl (lv_at hl 0 rfl) ?_
      refine lv_aload_n hx hb dX8_readCommand_78 rfl (lv_at hl 3 rfl) ?_
      obtain ⟨hi_16_k, hf⟩ := os_if hf
      obtain ⟨hi_16, hf⟩ := os_if hf
      refine vb_astq (C := RX1) hx hb hK hP hD hS 1 7 rfl rfl (va_Orecv (hZ.2.2.2.2.1 _ hi_16_k).2.1 hS) (fun _ _ h8 h9 => by cases h8.symm.trans h9; exact va_asg _ _) hi_16 dX8_readCommand_79 (fun H locs hP hD hS => ?_)
      rw [os_upR] at hP hD
      have hP : va_P D vwCl (ce_X8 kA (zz 2) q_this q_this_tokens (ss_I (ss_R o_this 0 (va_up (os_R o_this 0) (Int32.toNatClampNeg (os_I o_this 5)) (some x2))) 5 ((os_I o_this 5) + (1 : Int32))) ++ (ce_X10 kA q_this_tokens o_this_tokens)) H := hP
      have hD : va_D A (ce_X8 kA (zz 2) q_this q_this_tokens (ss_I (ss_R o_this 0 (va_up (os_R o_this 0) (Int32.toNatClampNeg (os_I o_this 5)) (some x2))) 5 ((os_I o_this 5) + (1 : Int32))) ++ (ce_X10 kA q_this_tokens o_this_tokens)) := hD
      refine lv_aload_n hx hb dX8_readCommand_80 rfl (lv_at hl 1 rfl) ?_
      refine va_get (D := D) (ci := 5) (v := .ref (q_this_tokens 0)) (C := RX8) (T := TX8) (N := 7) hx hb hUX8 (fun _ h9 => h9) hown hK hP 0 rfl rfl 0 (by decide) (hts (Cond.fieldLink RX8 27 "ReliefBuilder$Script" "tokens" "LReliefBuilder$Tokens;") (List.mem_of_getElem? (i := 1) rfl)) (fun _ h9 => h9) rfl dX8_readCommand_81 ?_
      obtain ⟨u_17, he_18, hf⟩ := os_bd hf
      refine mc_callV ⟨hx, hb, hml, hown, hts⟩ (mm_X10_advance l D kA N q_this_tokens o_this_tokens u_17 he_18) (cwV 0 hts gX8_readCommand_X10_advance rfl rfl rfl (by decide +kernel) ⟨Nat.le_of_ble_eq_true rfl, Nat.le_of_ble_eq_true rfl⟩) (wc := (ce_X10 kA q_this_tokens o_this_tokens)) (ci := 6) (q0 := 0) rfl rfl rfl hl.1 (As := []) (rest := []) rfl (Nat.le_of_ble_eq_true rfl) dX8_readCommand_84 ⟨Nat.le_of_ble_eq_true rfl, Nat.le_of_ble_eq_true rfl⟩ hK hP hD hS hA [5, 6, 7, 8, 9] [0, 1, 2, 3, 4] [0, 1, 2, 3, 4, 5, 6, 7, 8, 9] rfl (by decide) rfl (by decide) (by decide) rfl (by decide) (wr := (ce_X8 kA (zz 2) q_this q_this_tokens (ss_I (ss_R o_this 0 (va_up (os_R o_this 0) (Int32.toNatClampNeg (os_I o_this 5)) (some x2))) 5 ((os_I o_this 5) + (1 : Int32))))) (w2 := (ce_X8 kA (zz 2) q_this q_this_tokens (ss_I (ss_R o_this 0 (va_up (os_R o_this 0) (Int32.toNatClampNeg (os_I o_this 5)) (some x2))) 5 ((os_I o_this 5) + (1 : Int32))) ++ (ce_X10 kA q_this_tokens u_17))) (fun H locs hP hD hS => ?_)
      have hP : va_P D vwCl (ce_X8 kA (zz 2) q_this q_this_tokens (ss_I (ss_R o_this 0 (va_up (os_R o_this 0) (Int32.toNatClampNeg (os_I o_this 5)) (some x2))) 5 ((os_I o_this 5) + (1 : Int32))) ++ (ce_X10 kA q_this_tokens u_17)) H := hP
      refine lv_aload_n hx hb dX8_readCommand_87 rfl (lv_at hl 1 rfl) ?_
      refine lv_aload_n hx hb dX8_readCommand_88 rfl (lv_at hl 3 rfl) ?_
      refine lv_iload_n hx hb dX8_readCommand_89 rfl (lv_at hl 0 rfl) ?_
      obtain ⟨u_19, he_20, hf⟩ := os_bd hf
      refine mx_callV ⟨hx, hb, hml, hown, hts⟩ (mm_X8_readNumbers l hst zz D kA N q_this q_this_tokens (ss_I (ss_R o_this 0 (va_up (os_R o_this 0) (Int32.toNatClampNeg (os_I o_this 5)) (some x2))) 5 ((os_I o_this 5) + (1 : Int32))) u_17 x2 (os_I o_this 5) u_19 he_20) (cwV 2 hts gX8_readCommand_X8_readNumbers rfl rfl rfl (by decide +kernel) ⟨Nat.le_of_ble_eq_true rfl, Nat.le_of_ble_eq_true rfl⟩) (wc := (ce_X8 kA (zz 2) q_this q_this_tokens (ss_I (ss_R o_this 0 (va_up (os_R o_this 0) (Int32.toNatClampNeg (os_I o_this 5)) (some x2))) 5 ((os_I o_this 5) + (1 : Int32))) ++ (ce_X10 kA q_this_tokens u_17))) (ci := 5) (q0 := 0) rfl rfl rfl hl.1 (As := [.ref (zz 2 x2), .int (os_I o_this 5)]) (rest := []) rfl (Nat.le_of_ble_eq_true rfl) dX8_readCommand_90 ⟨Nat.le_of_ble_eq_true rfl, Nat.le_of_ble_eq_true rfl⟩ hK hP hD hS hA hZ [0, 1, 2, 3, 4, 5, 6, 7, 8, 9] [] [0, 1, 2, 3, 4, 5, 6, 7, 8, 9] rfl (by decide) rfl (by decide) (by decide) rfl (by decide) (wr := []) (w2 := (ce_X8 kA (zz 2) q_this q_this_tokens u_19.2.2.1 ++ (ce_X10 kA q_this_tokens u_19.2.2.2))) (fun hx9 H locs q9 ce hP hD hS h91 h92 h93 => ?_) (fun hx9 H locs hP hD hS => ?_)
      · rw [if_neg hx9] at hf
        rw [← Option.some.inj hf]
        exact mx_out hx9 hx0 hlk hP hK hD hS h91 h92 h93 (Nat.le_of_ble_eq_true rfl) (Nat.le_of_ble_eq_true rfl)
      · rw [if_pos hx9] at hf
        refine W.widen (k := 0) (n := 0) (Nat.le_of_ble_eq_true rfl) (Nat.le_of_ble_eq_true rfl) ?_
        have hP : va_P D vwCl (ce_X8 kA (zz 2) q_this q_this_tokens u_19.2.2.1 ++ (ce_X10 kA q_this_tokens u_19.2.2.2)) H := hP
        refine lv_if_ne (tgt := 98) hx hb dX8_readCommand_93 (by decide) (fun hc_21 => ?_) (fun hc_21 => ?_)
        · rw [if_neg hc_21] at hf
          refine lv_aload_n hx hb dX8_readCommand_98 rfl (lv_at hl 3 rfl) ?_
          refine va_gets hx hb (hZ.2.2.2.2.1 11 (by decide)).1 hS hown (hts (Cond.fieldLink RX8 54 "ReliefBuilder$Command" "REPEAT" "LReliefBuilder$Command;") (List.mem_of_getElem? (i := 2) rfl)) (fun _ h9 => h9) dX8_readCommand_99 ?_
          obtain ⟨hc_22_k, hf⟩ := os_if hf
          refine lv_acmp_ne (rx := (some (zz 2 x2))) (ry := (some (zz 2 11))) (tgt := 139) hx hb dX8_readCommand_102 (by decide) (fun hc_22_0 => ?_) (fun hc_22_0 => ?_)
          · have hc_22 : ¬ x2 = 11 := fun h9 => hc_22_0 (by rw [h9])
            rw [if_neg hc_22] at hf
            exact hB139 u_19.2.2.1 u_19.2.2.2 (os_I o_this 5) _ _ _ hP hD hS (lv_sub hl [1, 0] rfl) hf
          · have hc_22 : x2 = 11 := hZ.2.2.2.2.2.1 _ _ hc_22_k (by decide) (Option.some.inj hc_22_0)
            rw [if_pos hc_22] at hf
            refine lv_aload_n hx hb dX8_readCommand_105 rfl (lv_at hl 1 rfl) ?_
            refine va_get (D := D) (ci := 5) (v := .ref (q_this_tokens 0)) (C := RX8) (T := TX8) (N := 7) hx hb hUX8 (fun _ h9 => h9) hown hK hP 0 rfl rfl 0 (by decide) (hts (Cond.fieldLink RX8 27 "ReliefBuilder$Script" "tokens" "LReliefBuilder$Tokens;") (List.mem_of_getElem? (i := 1) rfl)) (fun _ h9 => h9) rfl dX8_readCommand_106 ?_
            refine lv_bipush (v := 40) hx hb dX8_readCommand_109 (by decide) ?_
            obtain ⟨u_23, he_24, hf⟩ := os_bd hf
            refine mc_callV ⟨hx, hb, hml, hown, hts⟩ (mm_X10_takeSign l D kA N q_this_tokens u_19.2.2.2 (40 : Int32) u_23 he_24) (cwV 1 hts gX8_readCommand_X10_takeSign rfl rfl rfl (by decide +kernel) ⟨Nat.le_of_ble_eq_true rfl, Nat.le_of_ble_eq_true rfl⟩) (wc := (ce_X10 kA q_this_tokens u_19.2.2.2)) (ci := 6) (q0 := 0) rfl rfl rfl hl.1 (As := [.int (40 : Int32)]) (rest := []) rfl (Nat.le_of_ble_eq_true rfl) dX8_readCommand_111 ⟨Nat.le_of_ble_eq_true rfl, Nat.le_of_ble_eq_true rfl⟩ hK hP hD hS hA [5, 6, 7, 8, 9] [0, 1, 2, 3, 4] [0, 1, 2, 3, 4, 5, 6, 7, 8, 9] rfl (by decide) rfl (by decide) (by decide) rfl (by decide) (wr := (ce_X8 kA (zz 2) q_this q_this_tokens u_19.2.2.1)) (w2 := (ce_X8 kA (zz 2) q_this q_this_tokens u_19.2.2.1 ++ (ce_X10 kA q_this_tokens u_23.2))) (fun H locs hP hD hS => ?_)
            have hP : va_P D vwCl (ce_X8 kA (zz 2) q_this q_this_tokens u_19.2.2.1 ++ (ce_X10 kA q_this_tokens u_23.2)) H := hP
            refine lv_if_eq (tgt := 143) hx hb dX8_readCommand_114 (by decide) (fun hc_25 => ?_) (fun hc_25 => ?_)
            · rw [if_pos hc_25] at hf
              exact hB143 u_19.2.2.1 u_23.2 (os_I o_this 5) _ _ _ hP hD hS (lv_sub hl [1, 0] rfl) hf
            · rw [if_neg hc_25] at hf
              refine lv_aload_n hx hb dX8_readCommand_117 rfl (lv_at hl 1 rfl) ?_
              refine lv_iload_n hx hb dX8_readCommand_118 rfl (lv_at hl 2 rfl) ?_
              refine lv_iconst (v := 1) hx hb dX8_readCommand_119 (by decide) ?_
              refine lv_iadd hx hb dX8_readCommand_120 ?_
              cases hf
        · rw [if_pos hc_21] at hf
          refine lv_iconst (v := 0) hx hb dX8_readCommand_96 (by decide) ?_
          rw [← Option.some.inj hf]
          exact mx_retz (v := 0) (Nat.le_of_ble_eq_true rfl) (Nat.le_of_ble_eq_true rfl) hx hb hr rfl hlk hP hK hD hS dX8_readCommand_97
    · rw [if_pos hc_15] at hf
      refine lv_aload_n hx hb dX8_readCommand_49 rfl (lv_at hl 0 rfl) ?_
      refine va_get (D := D) (ci := 5) (v := .ref (q_this_tokens 0)) (C := RX8) (T := TX8) (N := 7) hx hb hUX8 (fun _ h9 => h9) hown hK hP 0 rfl rfl 0 (by decide) (hts (Cond.fieldLink RX8 27 "ReliefBuilder$Script" "tokens" "LReliefBuilder$Tokens;") (List.mem_of_getElem? (i := 1) rfl)) (fun _ h9 => h9) rfl dX8_readCommand_50 ?_
      refine lv_iconst (v := 5) hx hb dX8_readCommand_53 (by decide) ?_
      obtain ⟨u_26, he_27, hf⟩ := os_bd hf
      refine mc_callV ⟨hx, hb, hml, hown, hts⟩ (mm_X10_fail l D kA N q_this_tokens o_this_tokens (5 : Int32) u_26 he_27) (cwV 1 hts gX8_readCommand_X10_fail rfl rfl rfl (by decide +kernel) ⟨Nat.le_of_ble_eq_true rfl, Nat.le_of_ble_eq_true rfl⟩) (wc := (ce_X10 kA q_this_tokens o_this_tokens)) (ci := 6) (q0 := 0) rfl rfl rfl hl.1 (As := [.int (5 : Int32)]) (rest := []) rfl (Nat.le_of_ble_eq_true rfl) dX8_readCommand_54 ⟨Nat.le_of_ble_eq_true rfl, Nat.le_of_ble_eq_true rfl⟩ hK hP hD hS hA [5, 6, 7, 8, 9] [0, 1, 2, 3, 4] [0, 1, 2, 3, 4, 5, 6, 7, 8, 9] rfl (by decide) rfl (by decide) (by decide) rfl (by decide) (wr := (ce_X8 kA (zz 2) q_this q_this_tokens o_this)) (w2 := (ce_X8 kA (zz 2) q_this q_this_tokens o_this ++ (ce_X10 kA q_this_tokens u_26.2))) (fun H locs hP hD hS => ?_)
      have hP : va_P D vwCl (ce_X8 kA (zz 2) q_this q_this_tokens o_this ++ (ce_X10 kA q_this_tokens u_26.2)) H := hP
      obtain ⟨hz_28, hf⟩ := os_if hf
      rw [← Option.some.inj hf]
      exact mx_retz (Nat.le_of_ble_eq_true rfl) (Nat.le_of_ble_eq_true rfl) hx hb hr (os_z_n hz_28) hlk hP hK hD hS dX8_readCommand_57
  unfold ff_X8_readCommand_v0 at hf
  refine lv_aload_n hx hb dX8_readCommand_0 rfl (lv_at hl 0 rfl) ?_
  obtain ⟨u_1, he_2, hf⟩ := os_bd hf
  refine mx_callV ⟨hx, hb, hml, hown, hts⟩ (mm_X8_presentCommand l hst zz D kA N q_this q_this_tokens o_this o_this_tokens u_1 he_2) (cwV 0 hts gX8_readCommand_X8_presentCommand rfl rfl rfl (by decide +kernel) ⟨Nat.le_of_ble_eq_true rfl, Nat.le_of_ble_eq_true rfl⟩) (wc := (ce_X8 kA (zz 2) q_this q_this_tokens o_this ++ (ce_X10 kA q_this_tokens o_this_tokens))) (ci := 5) (q0 := 0) rfl rfl rfl hl.1 (As := []) (rest := []) rfl (Nat.le_of_ble_eq_true rfl) dX8_readCommand_1 ⟨Nat.le_of_ble_eq_true rfl, Nat.le_of_ble_eq_true rfl⟩ hK hP hD hS hA hZ [0, 1, 2, 3, 4, 5, 6, 7, 8, 9] [] [0, 1, 2, 3, 4, 5, 6, 7, 8, 9] rfl (by decide) rfl (by decide) (by decide) rfl (by decide) (wr := []) (w2 := (ce_X8 kA (zz 2) q_this q_this_tokens o_this ++ (ce_X10 kA q_this_tokens o_this_tokens))) (fun hx9 H locs q9 ce hP hD hS h91 h92 h93 => ?_) (fun hx9 H locs hP hD hS => ?_)
  · rw [if_neg hx9] at hf
    rw [← Option.some.inj hf]
    exact mx_out hx9 hx0 hlk hP hK hD hS h91 h92 h93 (Nat.le_of_ble_eq_true rfl) (Nat.le_of_ble_eq_true rfl)
  · rw [if_pos hx9] at hf
    refine W.widen (k := 0) (n := 0) (Nat.le_of_ble_eq_true rfl) (Nat.le_of_ble_eq_true rfl) ?_
    have hP : va_P D vwCl (ce_X8 kA (zz 2) q_this q_this_tokens o_this ++ (ce_X10 kA q_this_tokens o_this_tokens)) H := hP
    rcases os_op hf with ⟨he_3, hf⟩ | ⟨c_4, he_3, hf⟩
    · rw [he_3]
      refine W.eq (g2 := F0 m 4 ls [.null]) rfl ?_
      refine lv_astore_nN (lv' := [(2, .null), (0, .ref (q_this 0)), (1, .int a1)]) hx hb dX8_readCommand_4 rfl hl (by decide) rfl (fun ls hl => ?_)
      refine lv_aload_nN hx hb dX8_readCommand_5 rfl (lv_at hl 0 rfl) ?_
      refine lv_ifnonnullN hx hb dX8_readCommand_6 ?_
      refine lv_aload_n hx hb dX8_readCommand_9 rfl (lv_at hl 1 rfl) ?_
      refine va_get (D := D) (ci := 5) (v := .ref (q_this_tokens 0)) (C := RX8) (T := TX8) (N := 7) hx hb hUX8 (fun _ h9 => h9) hown hK hP 0 rfl rfl 0 (by decide) (hts (Cond.fieldLink RX8 27 "ReliefBuilder$Script" "tokens" "LReliefBuilder$Tokens;") (List.mem_of_getElem? (i := 1) rfl)) (fun _ h9 => h9) rfl dX8_readCommand_10 ?_
      refine lv_iconst (v := 1) hx hb dX8_readCommand_13 (by decide) ?_
      obtain ⟨u_5, he_6, hf⟩ := os_bd hf
      refine mc_callV ⟨hx, hb, hml, hown, hts⟩ (mm_X10_fail l D kA N q_this_tokens o_this_tokens (1 : Int32) u_5 he_6) (cwV 1 hts gX8_readCommand_X10_fail rfl rfl rfl (by decide +kernel) ⟨Nat.le_of_ble_eq_true rfl, Nat.le_of_ble_eq_true rfl⟩) (wc := (ce_X10 kA q_this_tokens o_this_tokens)) (ci := 6) (q0 := 0) rfl rfl rfl hl.1 (As := [.int (1 : Int32)]) (rest := []) rfl (Nat.le_of_ble_eq_true rfl) dX8_readCommand_14 ⟨Nat.le_of_ble_eq_true rfl, Nat.le_of_ble_eq_true rfl⟩ hK hP hD hS hA [5, 6, 7, 8, 9] [0, 1, 2, 3, 4] [0, 1, 2, 3, 4, 5, 6, 7, 8, 9] rfl (by decide) rfl (by decide) (by decide) rfl (by decide) (wr := (ce_X8 kA (zz 2) q_this q_this_tokens o_this)) (w2 := (ce_X8 kA (zz 2) q_this q_this_tokens o_this ++ (ce_X10 kA q_this_tokens u_5.2))) (fun H locs hP hD hS => ?_)
      have hP : va_P D vwCl (ce_X8 kA (zz 2) q_this q_this_tokens o_this ++ (ce_X10 kA q_this_tokens u_5.2)) H := hP
      obtain ⟨hz_7, hf⟩ := os_if hf
      rw [← Option.some.inj hf]
      exact mx_retz (Nat.le_of_ble_eq_true rfl) (Nat.le_of_ble_eq_true rfl) hx hb hr (os_z_n hz_7) hlk hP hK hD hS dX8_readCommand_17
    · rw [he_3]
      refine W.eq (g2 := F0 m 4 ls [.ref (zz 2 c_4)]) rfl ?_
      refine lv_astore_n (lv' := [(2, .ref (zz 2 c_4)), (0, .ref (q_this 0)), (1, .int a1)]) hx hb dX8_readCommand_4 rfl hl (by decide) rfl (fun ls hl => ?_)
      refine lv_aload_n hx hb dX8_readCommand_5 rfl (lv_at hl 0 rfl) ?_
      refine lv_ifnonnull (tgt := 18) hx hb dX8_readCommand_6 (by decide) ?_
      refine lv_aload_n hx hb dX8_readCommand_18 rfl (lv_at hl 0 rfl) ?_
      refine va_gets hx hb (hZ.2.2.2.2.1 11 (by decide)).1 hS hown (hts (Cond.fieldLink RX8 54 "ReliefBuilder$Command" "REPEAT" "LReliefBuilder$Command;") (List.mem_of_getElem? (i := 2) rfl)) (fun _ h9 => h9) dX8_readCommand_19 ?_
      obtain ⟨hc_8_k, hf⟩ := os_if hf
      refine lv_acmp_ne (rx := (some (zz 2 c_4))) (ry := (some (zz 2 11))) (tgt := 39) hx hb dX8_readCommand_22 (by decide) (fun hc_8_0 => ?_) (fun hc_8_0 => ?_)
      · have hc_8 : ¬ c_4 = 11 := fun h9 => hc_8_0 (by rw [h9])
        rw [if_neg hc_8] at hf
        exact hB39 o_this o_this_tokens a1 c_4 _ _ _ hP hD hS (lv_sub hl [1, 2, 0] rfl) hf
      · have hc_8 : c_4 = 11 := hZ.2.2.2.2.2.1 _ _ hc_8_k (by decide) (Option.some.inj hc_8_0)
        rw [if_pos hc_8] at hf
        refine lv_iload_n hx hb dX8_readCommand_25 rfl (lv_at hl 2 rfl) ?_
        refine lv_iconst (v := 2) hx hb dX8_readCommand_26 (by decide) ?_
        refine lv_icmp_lt (tgt := 39) hx hb dX8_readCommand_27 (by decide) (fun hc_9 => ?_) (fun hc_9 => ?_)
        · rw [if_pos hc_9] at hf
          exact hB39 o_this o_this_tokens a1 c_4 _ _ _ hP hD hS (lv_sub hl [1, 2, 0] rfl) hf
        · rw [if_neg hc_9] at hf
          refine lv_aload_n hx hb dX8_readCommand_30 rfl (lv_at hl 1 rfl) ?_
          refine va_get (D := D) (ci := 5) (v := .ref (q_this_tokens 0)) (C := RX8) (T := TX8) (N := 7) hx hb hUX8 (fun _ h9 => h9) hown hK hP 0 rfl rfl 0 (by decide) (hts (Cond.fieldLink RX8 27 "ReliefBuilder$Script" "tokens" "LReliefBuilder$Tokens;") (List.mem_of_getElem? (i := 1) rfl)) (fun _ h9 => h9) rfl dX8_readCommand_31 ?_
          refine lv_iconst (v := 3) hx hb dX8_readCommand_34 (by decide) ?_
          obtain ⟨u_10, he_11, hf⟩ := os_bd hf
          refine mc_callV ⟨hx, hb, hml, hown, hts⟩ (mm_X10_fail l D kA N q_this_tokens o_this_tokens (3 : Int32) u_10 he_11) (cwV 1 hts gX8_readCommand_X10_fail rfl rfl rfl (by decide +kernel) ⟨Nat.le_of_ble_eq_true rfl, Nat.le_of_ble_eq_true rfl⟩) (wc := (ce_X10 kA q_this_tokens o_this_tokens)) (ci := 6) (q0 := 0) rfl rfl rfl hl.1 (As := [.int (3 : Int32)]) (rest := []) rfl (Nat.le_of_ble_eq_true rfl) dX8_readCommand_35 ⟨Nat.le_of_ble_eq_true rfl, Nat.le_of_ble_eq_true rfl⟩ hK hP hD hS hA [5, 6, 7, 8, 9] [0, 1, 2, 3, 4] [0, 1, 2, 3, 4, 5, 6, 7, 8, 9] rfl (by decide) rfl (by decide) (by decide) rfl (by decide) (wr := (ce_X8 kA (zz 2) q_this q_this_tokens o_this)) (w2 := (ce_X8 kA (zz 2) q_this q_this_tokens o_this ++ (ce_X10 kA q_this_tokens u_10.2))) (fun H locs hP hD hS => ?_)
          have hP : va_P D vwCl (ce_X8 kA (zz 2) q_this q_this_tokens o_this ++ (ce_X10 kA q_this_tokens u_10.2)) H := hP
          obtain ⟨hz_12, hf⟩ := os_if hf
          rw [← Option.some.inj hf]
          exact mx_retz (Nat.le_of_ble_eq_true rfl) (Nat.le_of_ble_eq_true rfl) hx hb hr (os_z_n hz_12) hlk hP hK hD hS dX8_readCommand_38
def ff_X8_readCommands_v0_b32 (N : Nat) (k2 : (os_T × os_T × Int32 × Int32) → Option (Nat × Int32 × os_T × os_T)) (o_this : os_T) (o_this_tokens : os_T) (x1 : Int32) (x2 : Int32) (t0 : Int32) : Option (Nat × Int32 × os_T × os_T) :=
  (if t0 = 0 then ((ff_X8_readCommand_v0 N o_this o_this_tokens x1).bind fun u_11 => (if u_11.1 = 0 then (if u_11.2.1 = 0 then some (0, (0 : Int32), u_11.2.2.1, u_11.2.2.2) else k2 (u_11.2.2.1, u_11.2.2.2, x1, x2 + 1)) else some (u_11.1, (0 : Int32), u_11.2.2.1, u_11.2.2.2))) else some (0, (1 : Int32), o_this, o_this_tokens))
def ff_X8_readCommands_v0_c2 (N : Nat) (k2 : (os_T × os_T × Int32 × Int32) → Option (Nat × Int32 × os_T × os_T)) (o_this : os_T) (o_this_tokens : os_T) (x1 : Int32) (x2 : Int32) : Option (Nat × Int32 × os_T × os_T) :=
  (if (900 : Int32) ≤ x2 then ((ff_X10_fail N o_this_tokens (1 : Int32)).bind fun u_2 => (if os_z u_2.1 then some (0, u_2.1, o_this, u_2.2) else none)) else (if x1 = 0 then ((ff_X10_isAtEnd N o_this_tokens).bind fun u_8 => ff_X8_readCommands_v0_b32 N k2 o_this o_this_tokens x1 x2 u_8) else ((ff_X10_isSign N o_this_tokens (41 : Int32)).bind fun u_6 => ff_X8_readCommands_v0_b32 N k2 o_this o_this_tokens x1 x2 u_6)))
def ff_X8_readCommands_v0_l2 (N : Nat) : Nat → (os_T × os_T × Int32 × Int32) → Option (Nat × Int32 × os_T × os_T) := os_loop (fun k2 s1 => ff_X8_readCommands_v0_c2 N k2 s1.1 s1.2.1 s1.2.2.1 s1.2.2.2)
def ff_X8_readCommands_v0 (N : Nat) (o_this : os_T) (o_this_tokens : os_T) (a1 : Int32) : Option (Nat × Int32 × os_T × os_T) :=
  ff_X8_readCommands_v0_l2 N N (o_this, o_this_tokens, a1, (0 : Int32))
set_option maxHeartbeats 4000000 in
set_option maxRecDepth 100000 in
theorem mm_X8_readCommands_v0 (l : Launch) (hst : l.stackTraces = false) (zz : Nat → Nat → Nat) (D : va_G) (kA : Nat → ClassId) (N : Nat) (q_this : Nat → Nat) (q_this_tokens : Nat → Nat) (o_this : os_T) (o_this_tokens : os_T) (a1 : Int32) (out : (Nat × Int32 × os_T × os_T)) (hf : ff_X8_readCommands_v0 N o_this o_this_tokens a1 = some out) : mx_C l zz D kA yX8_readCommands wsX8_readCommands ({ frames := 7, cells := 0, slots := 0, locals := 152 } : Room) [.ref (q_this 0), .int a1] (ce_X8 kA (zz 2) q_this q_this_tokens o_this ++ (ce_X10 kA q_this_tokens o_this_tokens)) out.1 (some (.int out.2.1)) (ce_X8 kA (zz 2) q_this q_this_tokens out.2.2.1 ++ (ce_X10 kA q_this_tokens out.2.2.2)) := by
  refine mx_of (cc := cX8_readCommands) (maxL := 4) (ret := (some .boolean)) (by decide) rfl (Nat.le_of_ble_eq_true rfl) ?_
  intro p e s m below meth c A B hx0 hZ hD hP hS ls hl
  obtain ⟨hx, hb, hr, hlk, hml, hown, hts, hK, hA, hnm⟩ := B
  have hown : s.vm.findClass RX8 = some m.cls := hown
  have hl : lv_has ls 4 [(0, .ref (q_this 0)), (1, .int a1)] := hl
  have hUX8 : ∀ w ∈ u_ws RX8 TX8 7, w.before [.ref (q_this 0), .int a1].toArray s = true := fun w h => hts w (List.mem_cons_of_mem _ (List.mem_append_left _ (List.mem_append_right _ h)))
  have hB32 : ∀ (k2 : (os_T × os_T × Int32 × Int32) → Option (Nat × Int32 × os_T × os_T)), (∀ (o_this : os_T) (o_this_tokens : os_T) (x1 : Int32) (x2 : Int32) (H : Heap) (locs : List Loc) (ls : Array Slot), va_P D vwCl (ce_X8 kA (zz 2) q_this q_this_tokens o_this ++ (ce_X10 kA q_this_tokens o_this_tokens)) H → va_D A (ce_X8 kA (zz 2) q_this q_this_tokens o_this ++ (ce_X10 kA q_this_tokens o_this_tokens)) → va_S A s.heap H locs → lv_has ls 4 [(0, .ref (q_this 0)), (1, .int x1), (2, .int x2)] → k2 (o_this, o_this_tokens, x1, x2) = some out → W p l e ({ frames := 7, cells := 0, slots := 0, locals := 152 } : Room) s m [.ref (q_this 0), .int a1].toArray below meth c H locs 0 0 (vx_MQ below (mx_Q D kA A out.1 (some (.int out.2.1)) (ce_X8 kA (zz 2) q_this q_this_tokens out.2.2.1 ++ (ce_X10 kA q_this_tokens out.2.2.2))) (mx_X D kA A out.1 (ce_X8 kA (zz 2) q_this q_this_tokens out.2.2.1 ++ (ce_X10 kA q_this_tokens out.2.2.2))) [.ref (q_this 0), .int a1].toArray s 0 0 A) (F0 m 2 ls [])) → ∀ (o_this : os_T) (o_this_tokens : os_T) (x1 : Int32) (x2 : Int32) (t0 : Int32) (H : Heap) (locs : List Loc) (ls : Array Slot), va_P D vwCl (ce_X8 kA (zz 2) q_this q_this_tokens o_this ++ (ce_X10 kA q_this_tokens o_this_tokens)) H → va_D A (ce_X8 kA (zz 2) q_this q_this_tokens o_this ++ (ce_X10 kA q_this_tokens o_this_tokens)) → va_S A s.heap H locs → lv_has ls 4 [(0, .ref (q_this 0)), (1, .int x1), (2, .int x2)] → ff_X8_readCommands_v0_b32 N k2 o_this o_this_tokens x1 x2 t0 = some out → W p l e ({ frames := 7, cells := 0, slots := 0, locals := 152 } : Room) s m [.ref (q_this 0), .int a1].toArray below meth c H locs 0 0 (vx_MQ below (mx_Q D kA A out.1 (some (.int out.2.1)) (ce_X8 kA (zz 2) q_this q_this_tokens out.2.2.1 ++ (ce_X10 kA q_this_tokens out.2.2.2))) (mx_X D kA A out.1 (ce_X8 kA (zz 2) q_this q_this_tokens out.2.2.1 ++ (ce_X10 kA q_this_tokens out.2.2.2))) [.ref (q_this 0), .int a1].toArray s 0 0 A) (F0 m 32 ls [.int t0]) := by
    intro k2 hk2 o_this o_this_tokens x1 x2 t0 H locs ls hP hD hS hl hf
    unfold ff_X8_readCommands_v0_b32 at hf
    refine lv_istore_n (lv' := [(3, .int t0), (0, .ref (q_this 0)), (1, .int x1), (2, .int x2)]) hx hb dX8_readCommands_32 rfl hl (by decide) rfl (fun ls hl => ?_)
    refine lv_iload_n hx hb dX8_readCommands_33 rfl (lv_at hl 0 rfl) ?_
    refine lv_if_eq (tgt := 39) hx hb dX8_readCommands_34 (by decide) (fun hc_10 => ?_) (fun hc_10 => ?_)
    · rw [if_pos hc_10] at hf
      refine lv_aload_n hx hb dX8_readCommands_39 rfl (lv_at hl 1 rfl) ?_
      refine lv_iload_n hx hb dX8_readCommands_40 rfl (lv_at hl 2 rfl) ?_
      obtain ⟨u_11, he_12, hf⟩ := os_bd hf
      refine mx_callV ⟨hx, hb, hml, hown, hts⟩ (mm_X8_readCommand_v0 l hst zz D kA N q_this q_this_tokens o_this o_this_tokens x1 u_11 he_12) (cwV 1 hts gX8_readCommands_X8_readCommand rfl rfl rfl (by decide +kernel) ⟨Nat.le_of_ble_eq_true rfl, Nat.le_of_ble_eq_true rfl⟩) (wc := (ce_X8 kA (zz 2) q_this q_this_tokens o_this ++ (ce_X10 kA q_this_tokens o_this_tokens))) (ci := 5) (q0 := 0) rfl rfl rfl hl.1 (As := [.int x1]) (rest := []) rfl (Nat.le_of_ble_eq_true rfl) dX8_readCommands_41 ⟨Nat.le_of_ble_eq_true rfl, Nat.le_of_ble_eq_true rfl⟩ hK hP hD hS hA hZ [0, 1, 2, 3, 4, 5, 6, 7, 8, 9] [] [0, 1, 2, 3, 4, 5, 6, 7, 8, 9] rfl (by decide) rfl (by decide) (by decide) rfl (by decide) (wr := []) (w2 := (ce_X8 kA (zz 2) q_this q_this_tokens u_11.2.2.1 ++ (ce_X10 kA q_this_tokens u_11.2.2.2))) (fun hx9 H locs q9 ce hP hD hS h91 h92 h93 => ?_) (fun hx9 H locs hP hD hS => ?_)
      · rw [if_neg hx9] at hf
        rw [← Option.some.inj hf]
        exact mx_out hx9 hx0 hlk hP hK hD hS h91 h92 h93 (Nat.le_of_ble_eq_true rfl) (Nat.le_of_ble_eq_true rfl)
      · rw [if_pos hx9] at hf
        refine W.widen (k := 0) (n := 0) (Nat.le_of_ble_eq_true rfl) (Nat.le_of_ble_eq_true rfl) ?_
        have hP : va_P D vwCl (ce_X8 kA (zz 2) q_this q_this_tokens u_11.2.2.1 ++ (ce_X10 kA q_this_tokens u_11.2.2.2)) H := hP
        refine lv_if_ne (tgt := 49) hx hb dX8_readCommands_44 (by decide) (fun hc_13 => ?_) (fun hc_13 => ?_)
        · rw [if_neg hc_13] at hf
          refine lv_iinc (v := x2 + 1) (lv' := [(2, .int (x2 + 1)), (3, .int t0), (0, .ref (q_this 0)), (1, .int x1)]) hx hb dX8_readCommands_49 hl (k := 3) rfl rfl (by decide) rfl (fun ls hl => ?_)
          refine lv_goto (tgt := 2) hx hb dX8_readCommands_52 (by decide) ?_
          exact hk2 u_11.2.2.1 u_11.2.2.2 x1 (x2 + 1) _ _ _ hP hD hS (lv_sub hl [2, 3, 0] rfl) hf
        · rw [if_pos hc_13] at hf
          refine lv_iconst (v := 0) hx hb dX8_readCommands_47 (by decide) ?_
          rw [← Option.some.inj hf]
          exact mx_retz (v := 0) (Nat.le_of_ble_eq_true rfl) (Nat.le_of_ble_eq_true rfl) hx hb hr rfl hlk hP hK hD hS dX8_readCommands_48
    · rw [if_neg hc_10] at hf
      refine lv_iconst (v := 1) hx hb dX8_readCommands_37 (by decide) ?_
      rw [← Option.some.inj hf]
      exact mx_retz (v := 1) (Nat.le_of_ble_eq_true rfl) (Nat.le_of_ble_eq_true rfl) hx hb hr rfl hlk hP hK hD hS dX8_readCommands_38
  have hL2 : ∀ (n : Nat) (o_this : os_T) (o_this_tokens : os_T) (x1 : Int32) (x2 : Int32) (H : Heap) (locs : List Loc) (ls : Array Slot), va_P D vwCl (ce_X8 kA (zz 2) q_this q_this_tokens o_this ++ (ce_X10 kA q_this_tokens o_this_tokens)) H → va_D A (ce_X8 kA (zz 2) q_this q_this_tokens o_this ++ (ce_X10 kA q_this_tokens o_this_tokens)) → va_S A s.heap H locs → lv_has ls 4 [(0, .ref (q_this 0)), (1, .int x1), (2, .int x2)] → ff_X8_readCommands_v0_l2 N n (o_this, o_this_tokens, x1, x2) = some out → W p l e ({ frames := 7, cells := 0, slots := 0, locals := 152 } : Room) s m [.ref (q_this 0), .int a1].toArray below meth c H locs 0 0 (vx_MQ below (mx_Q D kA A out.1 (some (.int out.2.1)) (ce_X8 kA (zz 2) q_this q_this_tokens out.2.2.1 ++ (ce_X10 kA q_this_tokens out.2.2.2))) (mx_X D kA A out.1 (ce_X8 kA (zz 2) q_this q_this_tokens out.2.2.1 ++ (ce_X10 kA q_this_tokens out.2.2.2))) [.ref (q_this 0), .int a1].toArray s 0 0 A) (F0 m 2 ls []) := by
    intro n
    induction n with
    | zero => intro o_this o_this_tokens x1 x2 H locs ls _ _ _ _ hf; cases hf
    | succ n hk2 =>
      intro o_this o_this_tokens x1 x2 H locs ls hP hD hS hl hf
      have hf : ff_X8_readCommands_v0_c2 N (ff_X8_readCommands_v0_l2 N n) o_this o_this_tokens x1 x2 = some out := hf
      generalize hke : ff_X8_readCommands_v0_l2 N n = k2 at hk2 hf
      unfold ff_X8_readCommands_v0_c2 at hf
      refine lv_iload_n hx hb dX8_readCommands_2 rfl (lv_at hl 2 rfl) ?_
      refine lv_sipush (v := 900) hx hb dX8_readCommands_3 (by decide) ?_
      refine lv_icmp_ge (tgt := 55) hx hb dX8_readCommands_6 (by decide) (fun hc_1 => ?_) (fun hc_1 => ?_)
      · rw [if_pos hc_1] at hf
        refine lv_aload_n hx hb dX8_readCommands_55 rfl (lv_at hl 0 rfl) ?_
        refine va_get (D := D) (ci := 5) (v := .ref (q_this_tokens 0)) (C := RX8) (T := TX8) (N := 7) hx hb hUX8 (fun _ h9 => h9) hown hK hP 0 rfl rfl 0 (by decide) (hts (Cond.fieldLink RX8 27 "ReliefBuilder$Script" "tokens" "LReliefBuilder$Tokens;") (List.mem_of_getElem? (i := 1) rfl)) (fun _ h9 => h9) rfl dX8_readCommands_56 ?_
        refine lv_iconst (v := 1) hx hb dX8_readCommands_59 (by decide) ?_
        obtain ⟨u_2, he_3, hf⟩ := os_bd hf
        refine mc_callV ⟨hx, hb, hml, hown, hts⟩ (mm_X10_fail l D kA N q_this_tokens o_this_tokens (1 : Int32) u_2 he_3) (cwV 1 hts gX8_readCommands_X10_fail rfl rfl rfl (by decide +kernel) ⟨Nat.le_of_ble_eq_true rfl, Nat.le_of_ble_eq_true rfl⟩) (wc := (ce_X10 kA q_this_tokens o_this_tokens)) (ci := 6) (q0 := 0) rfl rfl rfl hl.1 (As := [.int (1 : Int32)]) (rest := []) rfl (Nat.le_of_ble_eq_true rfl) dX8_readCommands_60 ⟨Nat.le_of_ble_eq_true rfl, Nat.le_of_ble_eq_true rfl⟩ hK hP hD hS hA [5, 6, 7, 8, 9] [0, 1, 2, 3, 4] [0, 1, 2, 3, 4, 5, 6, 7, 8, 9] rfl (by decide) rfl (by decide) (by decide) rfl (by decide) (wr := (ce_X8 kA (zz 2) q_this q_this_tokens o_this)) (w2 := (ce_X8 kA (zz 2) q_this q_this_tokens o_this ++ (ce_X10 kA q_this_tokens u_2.2))) (fun H locs hP hD hS => ?_)
        have hP : va_P D vwCl (ce_X8 kA (zz 2) q_this q_this_tokens o_this ++ (ce_X10 kA q_this_tokens u_2.2)) H := hP
        obtain ⟨hz_4, hf⟩ := os_if hf
        rw [← Option.some.inj hf]
        exact mx_retz (Nat.le_of_ble_eq_true rfl) (Nat.le_of_ble_eq_true rfl) hx hb hr (os_z_n hz_4) hlk hP hK hD hS dX8_readCommands_63
      · rw [if_neg hc_1] at hf
        refine lv_iload_n hx hb dX8_readCommands_9 rfl (lv_at hl 1 rfl) ?_
        refine lv_if_ne (tgt := 23) hx hb dX8_readCommands_10 (by decide) (fun hc_5 => ?_) (fun hc_5 => ?_)
        · rw [if_neg hc_5] at hf
          refine lv_aload_n hx hb dX8_readCommands_23 rfl (lv_at hl 0 rfl) ?_
          refine va_get (D := D) (ci := 5) (v := .ref (q_this_tokens 0)) (C := RX8) (T := TX8) (N := 7) hx hb hUX8 (fun _ h9 => h9) hown hK hP 0 rfl rfl 0 (by decide) (hts (Cond.fieldLink RX8 27 "ReliefBuilder$Script" "tokens" "LReliefBuilder$Tokens;") (List.mem_of_getElem? (i := 1) rfl)) (fun _ h9 => h9) rfl dX8_readCommands_24 ?_
          refine lv_bipush (v := 41) hx hb dX8_readCommands_27 (by decide) ?_
          obtain ⟨u_6, he_7, hf⟩ := os_bd hf
          refine mc_callV ⟨hx, hb, hml, hown, hts⟩ (mm_X10_isSign l D kA N q_this_tokens o_this_tokens (41 : Int32) u_6 he_7) (cwV 1 hts gX8_readCommands_X10_isSign rfl rfl rfl (by decide +kernel) ⟨Nat.le_of_ble_eq_true rfl, Nat.le_of_ble_eq_true rfl⟩) (wc := (ce_X10 kA q_this_tokens o_this_tokens)) (ci := 6) (q0 := 0) rfl rfl rfl hl.1 (As := [.int (41 : Int32)]) (rest := []) rfl (Nat.le_of_ble_eq_true rfl) dX8_readCommands_29 ⟨Nat.le_of_ble_eq_true rfl, Nat.le_of_ble_eq_true rfl⟩ hK hP hD hS hA [5, 6, 7, 8, 9] [0, 1, 2, 3, 4] [0, 1, 2, 3, 4, 5, 6, 7, 8, 9] rfl (by decide) rfl (by decide) (by decide) rfl (by decide) (wr := (ce_X8 kA (zz 2) q_this q_this_tokens o_this)) (w2 := (ce_X8 kA (zz 2) q_this q_this_tokens o_this ++ (ce_X10 kA q_this_tokens o_this_tokens))) (fun H locs hP hD hS => ?_)
          have hP : va_P D vwCl (ce_X8 kA (zz 2) q_this q_this_tokens o_this ++ (ce_X10 kA q_this_tokens o_this_tokens)) H := hP
          exact hB32 k2 hk2 o_this o_this_tokens x1 x2 u_6 _ _ _ hP hD hS (lv_sub hl [0, 1, 2] rfl) hf
        · rw [if_pos hc_5] at hf
          refine lv_aload_n hx hb dX8_readCommands_13 rfl (lv_at hl 0 rfl) ?_
          refine va_get (D := D) (ci := 5) (v := .ref (q_this_tokens 0)) (C := RX8) (T := TX8) (N := 7) hx hb hUX8 (fun _ h9 => h9) hown hK hP 0 rfl rfl 0 (by decide) (hts (Cond.fieldLink RX8 27 "ReliefBuilder$Script" "tokens" "LReliefBuilder$Tokens;") (List.mem_of_getElem? (i := 1) rfl)) (fun _ h9 => h9) rfl dX8_readCommands_14 ?_
          obtain ⟨u_8, he_9, hf⟩ := os_bd hf
          refine mc_callV ⟨hx, hb, hml, hown, hts⟩ (mm_X10_isAtEnd l D kA N q_this_tokens o_this_tokens u_8 he_9) (cwV 0 hts gX8_readCommands_X10_isAtEnd rfl rfl rfl (by decide +kernel) ⟨Nat.le_of_ble_eq_true rfl, Nat.le_of_ble_eq_true rfl⟩) (wc := (ce_X10 kA q_this_tokens o_this_tokens)) (ci := 6) (q0 := 0) rfl rfl rfl hl.1 (As := []) (rest := []) rfl (Nat.le_of_ble_eq_true rfl) dX8_readCommands_17 ⟨Nat.le_of_ble_eq_true rfl, Nat.le_of_ble_eq_true rfl⟩ hK hP hD hS hA [5, 6, 7, 8, 9] [0, 1, 2, 3, 4] [0, 1, 2, 3, 4, 5, 6, 7, 8, 9] rfl (by decide) rfl (by decide) (by decide) rfl (by decide) (wr := (ce_X8 kA (zz 2) q_this q_this_tokens o_this)) (w2 := (ce_X8 kA (zz 2) q_this q_this_tokens o_this ++ (ce_X10 kA q_this_tokens o_this_tokens))) (fun H locs hP hD hS => ?_)
          have hP : va_P D vwCl (ce_X8 kA (zz 2) q_this q_this_tokens o_this ++ (ce_X10 kA q_this_tokens o_this_tokens)) H := hP
          refine lv_goto (tgt := 32) hx hb dX8_readCommands_20 (by decide) ?_
          exact hB32 k2 hk2 o_this o_this_tokens x1 x2 u_8 _ _ _ hP hD hS (lv_sub hl [0, 1, 2] rfl) hf
  unfold ff_X8_readCommands_v0 at hf
  refine lv_iconst (v := 0) hx hb dX8_readCommands_0 (by decide) ?_
  refine lv_istore_n (lv' := [(2, .int (0 : Int32)), (0, .ref (q_this 0)), (1, .int a1)]) hx hb dX8_readCommands_1 rfl hl (by decide) rfl (fun ls hl => ?_)
  exact hL2 N o_this o_this_tokens a1 (0 : Int32) _ _ _ hP hD hS (lv_sub hl [1, 2, 0] rfl) hf
def ff_X8_readCommand_v1_b144 (N : Nat) (o_this : os_T) (o_this_tokens : os_T) (x3 : Int32) (t0 : Int32) : Option (Nat × Int32 × os_T × os_T) :=
  (if os_in x3 30 then (if t0 = 0 then some (0, (0 : Int32), ss_A o_this 1 (upd (os_A o_this 1) (Int32.toNatClampNeg x3) (os_I o_this 5)), o_this_tokens) else ((ff_X10_takeSign N o_this_tokens (59 : Int32)).bind fun u_37 => (if u_37.1 = 0 then some (0, (0 : Int32), ss_A o_this 1 (upd (os_A o_this 1) (Int32.toNatClampNeg x3) (os_I o_this 5)), u_37.2) else some (0, (1 : Int32), ss_A o_this 1 (upd (os_A o_this 1) (Int32.toNatClampNeg x3) (os_I o_this 5)), u_37.2)))) else none)
def ff_X8_readCommand_v1_b139 (N : Nat) (o_this : os_T) (o_this_tokens : os_T) (x3 : Int32) : Option (Nat × Int32 × os_T × os_T) :=
  ff_X8_readCommand_v1_b144 N o_this o_this_tokens x3 (1 : Int32)
def ff_X8_readCommand_v1_b143 (N : Nat) (o_this : os_T) (o_this_tokens : os_T) (x3 : Int32) : Option (Nat × Int32 × os_T × os_T) :=
  ff_X8_readCommand_v1_b144 N o_this o_this_tokens x3 (0 : Int32)
def ff_X8_readCommand_v1_b39 (N : Nat) (o_this : os_T) (o_this_tokens : os_T) (x1 : Int32) (x2 : Nat) : Option (Nat × Int32 × os_T × os_T) :=
  ((ff_X8_isIndex N (os_I o_this 5)).bind fun u_13 => (if u_13 = 0 then ((ff_X10_fail N o_this_tokens (5 : Int32)).bind fun u_32 => (if os_z u_32.1 then some (0, u_32.1, o_this, u_32.2) else none)) else (if x2 < 12 then (if os_in (os_I o_this 5) 30 then ((ff_X10_advance N o_this_tokens).bind fun u_17 => ((ff_X8_readNumbers N (ss_I (ss_R o_this 0 (va_up (os_R o_this 0) (Int32.toNatClampNeg (os_I o_this 5)) (some x2))) 5 ((os_I o_this 5) + (1 : Int32))) u_17 x2 (os_I o_this 5)).bind fun u_19 => (if u_19.1 = 0 then (if u_19.2.1 = 0 then some (0, (0 : Int32), u_19.2.2.1, u_19.2.2.2) else (if x2 < 12 then (if x2 = 11 then ((ff_X10_takeSign N u_19.2.2.2 (40 : Int32)).bind fun u_23 => (if u_23.1 = 0 then ff_X8_readCommand_v1_b143 N u_19.2.2.1 u_23.2 (os_I o_this 5) else ((ff_X8_readCommands_v0 N u_19.2.2.1 u_23.2 (x1 + (1 : Int32))).bind fun u_26 => (if u_26.1 = 0 then (if u_26.2.1 = 0 then ff_X8_readCommand_v1_b143 N u_26.2.2.1 u_26.2.2.2 (os_I o_this 5) else ((ff_X10_takeSign N u_26.2.2.2 (41 : Int32)).bind fun u_29 => (if u_29.1 = 0 then ff_X8_readCommand_v1_b143 N u_26.2.2.1 u_29.2 (os_I o_this 5) else ff_X8_readCommand_v1_b139 N u_26.2.2.1 u_29.2 (os_I o_this 5)))) else some (u_26.1, (0 : Int32), u_26.2.2.1, u_26.2.2.2))))) else ff_X8_readCommand_v1_b139 N u_19.2.2.1 u_19.2.2.2 (os_I o_this 5)) else none)) else some (u_19.1, (0 : Int32), u_19.2.2.1, u_19.2.2.2)))) else none) else none)))
def ff_X8_readCommand_v1 (N : Nat) (o_this : os_T) (o_this_tokens : os_T) (a1 : Int32) : Option (Nat × Int32 × os_T × os_T) :=
  ((ff_X8_presentCommand N o_this o_this_tokens).bind fun u_1 => (if u_1.1 = 0 then (os_opt u_1.2 ((ff_X10_fail N o_this_tokens (1 : Int32)).bind fun u_5 => (if os_z u_5.1 then some (0, u_5.1, o_this, u_5.2) else none)) (fun c_4 => (if c_4 < 12 then (if c_4 = 11 then (if a1 < (2 : Int32) then ff_X8_readCommand_v1_b39 N o_this o_this_tokens a1 c_4 else ((ff_X10_fail N o_this_tokens (3 : Int32)).bind fun u_10 => (if os_z u_10.1 then some (0, u_10.1, o_this, u_10.2) else none))) else ff_X8_readCommand_v1_b39 N o_this o_this_tokens a1 c_4) else none))) else some (u_1.1, (0 : Int32), o_this, o_this_tokens)))
set_option maxHeartbeats 4000000 in
set_option maxRecDepth 100000 in
theorem mm_X8_readCommand_v1 (l : Launch) (hst : l.stackTraces = false) (zz : Nat → Nat → Nat) (D : va_G) (kA : Nat → ClassId) (N : Nat) (q_this : Nat → Nat) (q_this_tokens : Nat → Nat) (o_this : os_T) (o_this_tokens : os_T) (a1 : Int32) (out : (Nat × Int32 × os_T × os_T)) (hf : ff_X8_readCommand_v1 N o_this o_this_tokens a1 = some out) : mx_C l zz D kA yX8_readCommand wsX8_readCommand ({ frames := 8, cells := 0, slots := 0, locals := 175 } : Room) [.ref (q_this 0), .int a1] (ce_X8 kA (zz 2) q_this q_this_tokens o_this ++ (ce_X10 kA q_this_tokens o_this_tokens)) out.1 (some (.int out.2.1)) (ce_X8 kA (zz 2) q_this q_this_tokens out.2.2.1 ++ (ce_X10 kA q_this_tokens out.2.2.2)) := by
  refine mx_of (cc := cX8_readCommand) (maxL := 5) (ret := (some .boolean)) (by decide) rfl (Nat.le_of_ble_eq_true rfl) ?_
  intro p e s m below meth c A B hx0 hZ hD hP hS ls hl
  obtain ⟨hx, hb, hr, hlk, hml, hown, hts, hK, hA, hnm⟩ := B
  have hown : s.vm.findClass RX8 = some m.cls := hown
  have hl : lv_has ls 5 [(0, .ref (q_this 0)), (1, .int a1)] := hl
  have hUX8 : ∀ w ∈ u_ws RX8 TX8 7, w.before [.ref (q_this 0), .int a1].toArray s = true := fun w h => hts w (List.mem_cons_of_mem _ (List.mem_append_left _ (List.mem_append_right _ h)))
  have hB144 : ∀ (o_this : os_T) (o_this_tokens : os_T) (x3 : Int32) (t0 : Int32) (H : Heap) (locs : List Loc) (ls : Array Slot), va_P D vwCl (ce_X8 kA (zz 2) q_this q_this_tokens o_this ++ (ce_X10 kA q_this_tokens o_this_tokens)) H → va_D A (ce_X8 kA (zz 2) q_this q_this_tokens o_this ++ (ce_X10 kA q_this_tokens o_this_tokens)) → va_S A s.heap H locs → lv_has ls 5 [(0, .ref (q_this 0)), (3, .int x3)] → ff_X8_readCommand_v1_b144 N o_this o_this_tokens x3 t0 = some out → W p l e ({ frames := 8, cells := 0, slots := 0, locals := 175 } : Room) s m [.ref (q_this 0), .int a1].toArray below meth c H locs 0 0 (vx_MQ below (mx_Q D kA A out.1 (some (.int out.2.1)) (ce_X8 kA (zz 2) q_this q_this_tokens out.2.2.1 ++ (ce_X10 kA q_this_tokens out.2.2.2))) (mx_X D kA A out.1 (ce_X8 kA (zz 2) q_this q_this_tokens out.2.2.1 ++ (ce_X10 kA q_this_tokens out.2.2.2))) [.ref (q_this 0), .int a1].toArray s 0 0 A) (F0 m 144 ls [.int t0]) := by
    intro o_this o_this_tokens x3 t0 H locs ls hP hD hS hl hf
    unfold ff_X8_readCommand_v1_b144 at hf
    refine lv_istore (lv' := [(4, .int t0), (0, .ref (q_this 0)), (3, .int x3)]) hx hb dX8_readCommand_144 hl (by decide) rfl (fun ls hl => ?_)
    refine lv_aload_n hx hb dX8_readCommand_146 rfl (lv_at hl 1 rfl) ?_
    refine va_get (D := D) (ci := 5) (v := .ref (q_this 3)) (C := RX8) (T := TX8) (N := 7) hx hb hUX8 (fun _ h9 => h9) hown hK hP 0 rfl rfl 3 (by decide) (hts (Cond.fieldLink RX8 21 "ReliefBuilder$Script" "ends" "[I") (List.mem_of_getElem? (i := 5) rfl)) (fun _ h9 => h9) rfl dX8_readCommand_147 ?_
    refine lv_iload_n hx hb dX8_readCommand_150 rfl (lv_at hl 2 rfl) ?_
    refine lv_aload_n hx hb dX8_readCommand_151 rfl (lv_at hl 1 rfl) ?_
    refine va_get (D := D) (ci := 5) (v := .int (os_I o_this 5)) (C := RX8) (T := TX8) (N := 7) hx hb hUX8 (fun _ h9 => h9) hown hK hP 0 rfl rfl 5 (by decide) (hts (Cond.fieldLink RX8 35 "ReliefBuilder$Script" "count" "I") (List.mem_of_getElem? (i := 3) rfl)) (fun _ h9 => h9) rfl dX8_readCommand_152 ?_
    obtain ⟨hi_35, hf⟩ := os_if hf
    refine va_iast hx hb hK hP hD hS 3 0 rfl rfl hi_35 dX8_readCommand_155 (fun H locs hP hD hS => ?_)
    have hP : va_P D vwCl (ce_X8 kA (zz 2) q_this q_this_tokens (ss_A o_this 1 (upd (os_A o_this 1) (Int32.toNatClampNeg x3) (os_I o_this 5))) ++ (ce_X10 kA q_this_tokens o_this_tokens)) H := hP
    have hD : va_D A (ce_X8 kA (zz 2) q_this q_this_tokens (ss_A o_this 1 (upd (os_A o_this 1) (Int32.toNatClampNeg x3) (os_I o_this 5))) ++ (ce_X10 kA q_this_tokens o_this_tokens)) := hD
    refine lv_iload hx hb dX8_readCommand_156 (lv_at hl 0 rfl) ?_
    refine lv_if_eq (tgt := 177) hx hb dX8_readCommand_158 (by decide) (fun hc_36 => ?_) (fun hc_36 => ?_)
    · rw [if_pos hc_36] at hf
      refine lv_iconst (v := 0) hx hb dX8_readCommand_177 (by decide) ?_
      rw [← Option.some.inj hf]
      exact mx_retz (v := 0) (Nat.le_of_ble_eq_true rfl) (Nat.le_of_ble_eq_true rfl) hx hb hr rfl hlk hP hK hD hS dX8_readCommand_178
    · rw [if_neg hc_36] at hf
      refine lv_aload_n hx hb dX8_readCommand_161 rfl (lv_at hl 1 rfl) ?_
      refine va_get (D := D) (ci := 5) (v := .ref (q_this_tokens 0)) (C := RX8) (T := TX8) (N := 7) hx hb hUX8 (fun _ h9 => h9) hown hK hP 0 rfl rfl 0 (by decide) (hts (Cond.fieldLink RX8 27 "ReliefBuilder$Script" "tokens" "LReliefBuilder$Tokens;") (List.mem_of_getElem? (i := 1) rfl)) (fun _ h9 => h9) rfl dX8_readCommand_162 ?_
      refine lv_bipush (v := 59) hx hb dX8_readCommand_165 (by decide) ?_
      obtain ⟨u_37, he_38, hf⟩ := os_bd hf
      refine mc_callV ⟨hx, hb, hml, hown, hts⟩ (mm_X10_takeSign l D kA N q_this_tokens o_this_tokens (59 : Int32) u_37 he_38) (cwV 1 hts gX8_readCommand_X10_takeSign rfl rfl rfl (by decide +kernel) ⟨Nat.le_of_ble_eq_true rfl, Nat.le_of_ble_eq_true rfl⟩) (wc := (ce_X10 kA q_this_tokens o_this_tokens)) (ci := 6) (q0 := 0) rfl rfl rfl hl.1 (As := [.int (59 : Int32)]) (rest := []) rfl (Nat.le_of_ble_eq_true rfl) dX8_readCommand_167 ⟨Nat.le_of_ble_eq_true rfl, Nat.le_of_ble_eq_true rfl⟩ hK hP hD hS hA [5, 6, 7, 8, 9] [0, 1, 2, 3, 4] [0, 1, 2, 3, 4, 5, 6, 7, 8, 9] rfl (by decide) rfl (by decide) (by decide) rfl (by decide) (wr := (ce_X8 kA (zz 2) q_this q_this_tokens (ss_A o_this 1 (upd (os_A o_this 1) (Int32.toNatClampNeg x3) (os_I o_this 5))))) (w2 := (ce_X8 kA (zz 2) q_this q_this_tokens (ss_A o_this 1 (upd (os_A o_this 1) (Int32.toNatClampNeg x3) (os_I o_this 5))) ++ (ce_X10 kA q_this_tokens u_37.2))) (fun H locs hP hD hS => ?_)
      have hP : va_P D vwCl (ce_X8 kA (zz 2) q_this q_this_tokens (ss_A o_this 1 (upd (os_A o_this 1) (Int32.toNatClampNeg x3) (os_I o_this 5))) ++ (ce_X10 kA q_this_tokens u_37.2)) H := hP
      refine lv_if_eq (tgt := 177) hx hb dX8_readCommand_170 (by decide) (fun hc_39 => ?_) (fun hc_39 => ?_)
      · rw [if_pos hc_39] at hf
        refine lv_iconst (v := 0) hx hb dX8_readCommand_177 (by decide) ?_
        rw [← Option.some.inj hf]
        exact mx_retz (v := 0) (Nat.le_of_ble_eq_true rfl) (Nat.le_of_ble_eq_true rfl) hx hb hr rfl hlk hP hK hD hS dX8_readCommand_178
      · rw [if_neg hc_39] at hf
        refine lv_iconst (v := 1) hx hb dX8_readCommand_173 (by decide) ?_
        refine lv_goto (tgt := 178) hx hb dX8_readCommand_174 (by decide) ?_
        rw [← Option.some.inj hf]
        exact mx_retz (v := 1) (Nat.le_of_ble_eq_true rfl) (Nat.le_of_ble_eq_true rfl) hx hb hr rfl hlk hP hK hD hS dX8_readCommand_178
  have hB139 : ∀ (o_this : os_T) (o_this_tokens : os_T) (x3 : Int32) (H : Heap) (locs : List Loc) (ls : Array Slot), va_P D vwCl (ce_X8 kA (zz 2) q_this q_this_tokens o_this ++ (ce_X10 kA q_this_tokens o_this_tokens)) H → va_D A (ce_X8 kA (zz 2) q_this q_this_tokens o_this ++ (ce_X10 kA q_this_tokens o_this_tokens)) → va_S A s.heap H locs → lv_has ls 5 [(0, .ref (q_this 0)), (3, .int x3)] → ff_X8_readCommand_v1_b139 N o_this o_this_tokens x3 = some out → W p l e ({ frames := 8, cells := 0, slots := 0, locals := 175 } : Room) s m [.ref (q_this 0), .int a1].toArray below meth c H locs 0 0 (vx_MQ below (mx_Q D kA A out.1 (some (.int out.2.1)) (ce_X8 kA (zz 2) q_this q_this_tokens out.2.2.1 ++ (ce_X10 kA q_this_tokens out.2.2.2))) (mx_X D kA A out.1 (ce_X8 kA (zz 2) q_this q_this_tokens out.2.2.1 ++ (ce_X10 kA q_this_tokens out.2.2.2))) [.ref (q_this 0), .int a1].toArray s 0 0 A) (F0 m 139 ls []) := by
    intro o_this o_this_tokens x3 H locs ls hP hD hS hl hf
    unfold ff_X8_readCommand_v1_b139 at hf
    refine lv_iconst (v := 1) hx hb dX8_readCommand_139 (by decide) ?_
    refine lv_goto (tgt := 144) hx hb dX8_readCommand_140 (by decide) ?_
    exact hB144 o_this o_this_tokens x3 (1 : Int32) _ _ _ hP hD hS (lv_sub hl [0, 1] rfl) hf
  have hB143 : ∀ (o_this : os_T) (o_this_tokens : os_T) (x3 : Int32) (H : Heap) (locs : List Loc) (ls : Array Slot), va_P D vwCl (ce_X8 kA (zz 2) q_this q_this_tokens o_this ++ (ce_X10 kA q_this_tokens o_this_tokens)) H → va_D A (ce_X8 kA (zz 2) q_this q_this_tokens o_this ++ (ce_X10 kA q_this_tokens o_this_tokens)) → va_S A s.heap H locs → lv_has ls 5 [(0, .ref (q_this 0)), (3, .int x3)] → ff_X8_readCommand_v1_b143 N o_this o_this_tokens x3 = some out → W p l e ({ frames := 8, cells := 0, slots := 0, locals := 175 } : Room) s m [.ref (q_this 0), .int a1].toArray below meth c H locs 0 0 (vx_MQ below (mx_Q D kA A out.1 (some (.int out.2.1)) (ce_X8 kA (zz 2) q_this q_this_tokens out.2.2.1 ++ (ce_X10 kA q_this_tokens out.2.2.2))) (mx_X D kA A out.1 (ce_X8 kA (zz 2) q_this q_this_tokens out.2.2.1 ++ (ce_X10 kA q_this_tokens out.2.2.2))) [.ref (q_this 0), .int a1].toArray s 0 0 A) (F0 m 143 ls []) := by
    intro o_this o_this_tokens x3 H locs ls hP hD hS hl hf
    unfold ff_X8_readCommand_v1_b143 at hf
    refine lv_iconst (v := 0) hx hb dX8_readCommand_143 (by decide) ?_
    exact hB144 o_this o_this_tokens x3 (0 : Int32) _ _ _ hP hD hS (lv_sub hl [0, 1] rfl) hf
  have hB39 : ∀ (o_this : os_T) (o_this_tokens : os_T) (x1 : Int32) (x2 : Nat) (H : Heap) (locs : List Loc) (ls : Array Slot), va_P D vwCl (ce_X8 kA (zz 2) q_this q_this_tokens o_this ++ (ce_X10 kA q_this_tokens o_this_tokens)) H → va_D A (ce_X8 kA (zz 2) q_this q_this_tokens o_this ++ (ce_X10 kA q_this_tokens o_this_tokens)) → va_S A s.heap H locs → lv_has ls 5 [(0, .ref (q_this 0)), (1, .int x1), (2, .ref (zz 2 x2))] → ff_X8_readCommand_v1_b39 N o_this o_this_tokens x1 x2 = some out → W p l e ({ frames := 8, cells := 0, slots := 0, locals := 175 } : Room) s m [.ref (q_this 0), .int a1].toArray below meth c H locs 0 0 (vx_MQ below (mx_Q D kA A out.1 (some (.int out.2.1)) (ce_X8 kA (zz 2) q_this q_this_tokens out.2.2.1 ++ (ce_X10 kA q_this_tokens out.2.2.2))) (mx_X D kA A out.1 (ce_X8 kA (zz 2) q_this q_this_tokens out.2.2.1 ++ (ce_X10 kA q_this_tokens out.2.2.2))) [.ref (q_this 0), .int a1].toArray s 0 0 A) (F0 m 39 ls []) := by
    intro o_this o_this_tokens x1 x2 H locs ls hP hD hS hl hf
    unfold ff_X8_readCommand_v1_b39 at hf
    refine lv_aload_n hx hb dX8_readCommand_39 rfl (lv_at hl 0 rfl) ?_
    refine va_get (D := D) (ci := 5) (v := .int (os_I o_this 5)) (C := RX8) (T := TX8) (N := 7) hx hb hUX8 (fun _ h9 => h9) hown hK hP 0 rfl rfl 5 (by decide) (hts (Cond.fieldLink RX8 35 "ReliefBuilder$Script" "count" "I") (List.mem_of_getElem? (i := 3) rfl)) (fun _ h9 => h9) rfl dX8_readCommand_40 ?_
    obtain ⟨u_13, he_14, hf⟩ := os_bd hf
    refine mc_callS ⟨hx, hb, hml, hown, hts⟩ (mm_X8_isIndex l D kA N (os_I o_this 5) u_13 he_14) (va_cwS 1 hts gX8_readCommand_X8_isIndex rfl rfl rfl (by decide +kernel) ⟨Nat.le_of_ble_eq_true rfl, Nat.le_of_ble_eq_true rfl⟩) (wc := []) rfl hl.1 (As := [.int (os_I o_this 5)]) (rest := []) rfl (Nat.le_of_ble_eq_true rfl) dX8_readCommand_43 ⟨Nat.le_of_ble_eq_true rfl, Nat.le_of_ble_eq_true rfl⟩ hK hP hD hS hA [] [0, 1, 2, 3, 4, 5, 6, 7, 8, 9] [0, 1, 2, 3, 4, 5, 6, 7, 8, 9] rfl (by decide) rfl (by decide) (by decide) rfl (by decide) (wr := (ce_X8 kA (zz 2) q_this q_this_tokens o_this ++ (ce_X10 kA q_this_tokens o_this_tokens))) (w2 := (ce_X8 kA (zz 2) q_this q_this_tokens o_this ++ (ce_X10 kA q_this_tokens o_this_tokens))) (fun H locs hP hD hS => ?_)
    have hP : va_P D vwCl (ce_X8 kA (zz 2) q_this q_this_tokens o_this ++ (ce_X10 kA q_this_tokens o_this_tokens)) H := hP
    refine lv_if_ne (tgt := 58) hx hb dX8_readCommand_46 (by decide) (fun hc_15 => ?_) (fun hc_15 => ?_)
    · rw [if_neg hc_15] at hf
      refine lv_aload_n hx hb dX8_readCommand_58 rfl (lv_at hl 0 rfl) ?_
      refine va_get (D := D) (ci := 5) (v := .int (os_I o_this 5)) (C := RX8) (T := TX8) (N := 7) hx hb hUX8 (fun _ h9 => h9) hown hK hP 0 rfl rfl 5 (by decide) (hts (Cond.fieldLink RX8 35 "ReliefBuilder$Script" "count" "I") (List.mem_of_getElem? (i := 3) rfl)) (fun _ h9 => h9) rfl dX8_readCommand_59 ?_
      refine lv_istore_n (lv' := [(3, .int (os_I o_this 5)), (0, .ref (q_this 0)), (1, .int x1), (2, .ref (zz 2 x2))]) hx hb dX8_readCommand_62 rfl hl (by decide) rfl (fun ls hl => ?_)
      refine lv_aload_n hx hb dX8_readCommand_63 rfl (lv_at hl 1 rfl) ?_
      refine lv_dup hx hb dX8_readCommand_64 rfl ?_
      refine va_get (D := D) (ci := 5) (v := .int (os_I o_this 5)) (C := RX8) (T := TX8) (N := 7) hx hb hUX8 (fun _ h9 => h9) hown hK hP 0 rfl rfl 5 (by decide) (hts (Cond.fieldLink RX8 35 "ReliefBuilder$Script" "count" "I") (List.mem_of_getElem? (i := 3) rfl)) (fun _ h9 => h9) rfl dX8_readCommand_65 ?_
      refine lv_iconst (v := 1) hx hb dX8_readCommand_68 (by decide) ?_
      refine lv_iadd hx hb dX8_readCommand_69 ?_
      refine va_put (D := D) (ci := 5) (v := .int ((os_I o_this 5) + (1 : Int32))) (ty := .int) (C := RX8) (T := TX8) (N := 7) hx hb hUX8 (fun _ h9 => h9) tyX8 tyX8_ok nmX8 hown hK hP hD hS 0 rfl rfl 5 (by decide) (hts (Cond.fieldLink RX8 35 "ReliefBuilder$Script" "count" "I") (List.mem_of_getElem? (i := 3) rfl)) (fun _ h9 => h9) rfl (tyX8_ok 5 (by decide)) rfl rfl (Nat.le_of_ble_eq_true rfl) dX8_readCommand_70 (fun H locs hP hD hS => ?_)
      have hP : va_P D vwCl (ce_X8 kA (zz 2) q_this q_this_tokens (ss_I o_this 5 ((os_I o_this 5) + (1 : Int32))) ++ (ce_X10 kA q_this_tokens o_this_tokens)) H := hP
      have hD : va_D A (ce_X8 kA (zz 2) q_this q_this_tokens (ss_I o_this 5 ((os_I o_this 5) + (1 : Int32))) ++ (ce_X10 kA q_this_tokens o_this_tokens)) := hD
      refine lv_aload_n hx hb dX8_readCommand_73 rfl (lv_at hl 1 rfl) ?_
      refine va_get (D := D) (ci := 5) (v := .ref (q_this 1)) (C := RX8) (T := TX8) (N := 7) hx hb hUX8 (fun _ h9 => h9) hown hK hP 0 rfl rfl 1 (by decide) (hts (Cond.fieldLink RX8 13 "ReliefBuilder$Script" "commands" "[LReliefBuilder$Command;") (List.mem_of_getElem? (i := 4) rfl)) (fun _ h9 => h9) rfl dX8_readCommand_74 ?_
      refine lv_iload_n hx hb dX8_readCommand_77 rfl (lv_at hl 0 rfl) ?_
      refine lv_aload_n hx hb dX8_readCommand_78 rfl (lv_at hl 3 rfl) ?_
      obtain ⟨hi_16_k, hf⟩ := os_if hf
      obtain ⟨hi_16, hf⟩ := os_if hf
      refine vb_astq (C := RX1) hx hb hK hP hD hS 1 7 rfl rfl (va_Orecv (hZ.2.2.2.2.1 _ hi_16_k).2.1 hS) (fun _ _ h8 h9 => by cases h8.symm.trans h9; exact va_asg _ _) hi_16 dX8_readCommand_79 (fun H locs hP hD hS => ?_)
      rw [os_upR] at hP hD
      have hP : va_P D vwCl (ce_X8 kA (zz 2) q_this q_this_tokens (ss_I (ss_R o_this 0 (va_up (os_R o_this 0) (Int32.toNatClampNeg (os_I o_this 5)) (some x2))) 5 ((os_I o_this 5) + (1 : Int32))) ++ (ce_X10 kA q_this_tokens o_this_tokens)) H := hP
      have hD : va_D A (ce_X8 kA (zz 2) q_this q_this_tokens (ss_I (ss_R o_this 0 (va_up (os_R o_this 0) (Int32.toNatClampNeg (os_I o_this 5)) (some x2))) 5 ((os_I o_this 5) + (1 : Int32))) ++ (ce_X10 kA q_this_tokens o_this_tokens)) := hD
      refine lv_aload_n hx hb dX8_readCommand_80 rfl (lv_at hl 1 rfl) ?_
      refine va_get (D := D) (ci := 5) (v := .ref (q_this_tokens 0)) (C := RX8) (T := TX8) (N := 7) hx hb hUX8 (fun _ h9 => h9) hown hK hP 0 rfl rfl 0 (by decide) (hts (Cond.fieldLink RX8 27 "ReliefBuilder$Script" "tokens" "LReliefBuilder$Tokens;") (List.mem_of_getElem? (i := 1) rfl)) (fun _ h9 => h9) rfl dX8_readCommand_81 ?_
      obtain ⟨u_17, he_18, hf⟩ := os_bd hf
      refine mc_callV ⟨hx, hb, hml, hown, hts⟩ (mm_X10_advance l D kA N q_this_tokens o_this_tokens u_17 he_18) (cwV 0 hts gX8_readCommand_X10_advance rfl rfl rfl (by decide +kernel) ⟨Nat.le_of_ble_eq_true rfl, Nat.le_of_ble_eq_true rfl⟩) (wc := (ce_X10 kA q_this_tokens o_this_tokens)) (ci := 6) (q0 := 0) rfl rfl rfl hl.1 (As := []) (rest := []) rfl (Nat.le_of_ble_eq_true rfl) dX8_readCommand_84 ⟨Nat.le_of_ble_eq_true rfl, Nat.le_of_ble_eq_true rfl⟩ hK hP hD hS hA [5, 6, 7, 8, 9] [0, 1, 2, 3, 4] [0, 1, 2, 3, 4, 5, 6, 7, 8, 9] rfl (by decide) rfl (by decide) (by decide) rfl (by decide) (wr := (ce_X8 kA (zz 2) q_this q_this_tokens (ss_I (ss_R o_this 0 (va_up (os_R o_this 0) (Int32.toNatClampNeg (os_I o_this 5)) (some x2))) 5 ((os_I o_this 5) + (1 : Int32))))) (w2 := (ce_X8 kA (zz 2) q_this q_this_tokens (ss_I (ss_R o_this 0 (va_up (os_R o_this 0) (Int32.toNatClampNeg (os_I o_this 5)) (some x2))) 5 ((os_I o_this 5) + (1 : Int32))) ++ (ce_X10 kA q_this_tokens u_17))) (fun H locs hP hD hS => ?_)
      have hP : va_P D vwCl (ce_X8 kA (zz 2) q_this q_this_tokens (ss_I (ss_R o_this 0 (va_up (os_R o_this 0) (Int32.toNatClampNeg (os_I o_this 5)) (some x2))) 5 ((os_I o_this 5) + (1 : Int32))) ++ (ce_X10 kA q_this_tokens u_17)) H := hP
      refine lv_aload_n hx hb dX8_readCommand_87 rfl (lv_at hl 1 rfl) ?_
      refine lv_aload_n hx hb dX8_readCommand_88 rfl (lv_at hl 3 rfl) ?_
      refine lv_iload_n hx hb dX8_readCommand_89 rfl (lv_at hl 0 rfl) ?_
      obtain ⟨u_19, he_20, hf⟩ := os_bd hf
      refine mx_callV ⟨hx, hb, hml, hown, hts⟩ (mm_X8_readNumbers l hst zz D kA N q_this q_this_tokens (ss_I (ss_R o_this 0 (va_up (os_R o_this 0) (Int32.toNatClampNeg (os_I o_this 5)) (some x2))) 5 ((os_I o_this 5) + (1 : Int32))) u_17 x2 (os_I o_this 5) u_19 he_20) (cwV 2 hts gX8_readCommand_X8_readNumbers rfl rfl rfl (by decide +kernel) ⟨Nat.le_of_ble_eq_true rfl, Nat.le_of_ble_eq_true rfl⟩) (wc := (ce_X8 kA (zz 2) q_this q_this_tokens (ss_I (ss_R o_this 0 (va_up (os_R o_this 0) (Int32.toNatClampNeg (os_I o_this 5)) (some x2))) 5 ((os_I o_this 5) + (1 : Int32))) ++ (ce_X10 kA q_this_tokens u_17))) (ci := 5) (q0 := 0) rfl rfl rfl hl.1 (As := [.ref (zz 2 x2), .int (os_I o_this 5)]) (rest := []) rfl (Nat.le_of_ble_eq_true rfl) dX8_readCommand_90 ⟨Nat.le_of_ble_eq_true rfl, Nat.le_of_ble_eq_true rfl⟩ hK hP hD hS hA hZ [0, 1, 2, 3, 4, 5, 6, 7, 8, 9] [] [0, 1, 2, 3, 4, 5, 6, 7, 8, 9] rfl (by decide) rfl (by decide) (by decide) rfl (by decide) (wr := []) (w2 := (ce_X8 kA (zz 2) q_this q_this_tokens u_19.2.2.1 ++ (ce_X10 kA q_this_tokens u_19.2.2.2))) (fun hx9 H locs q9 ce hP hD hS h91 h92 h93 => ?_) (fun hx9 H locs hP hD hS => ?_)
      · rw [if_neg hx9] at hf
        rw [← Option.some.inj hf]
        exact mx_out hx9 hx0 hlk hP hK hD hS h91 h92 h93 (Nat.le_of_ble_eq_true rfl) (Nat.le_of_ble_eq_true rfl)
      · rw [if_pos hx9] at hf
        refine W.widen (k := 0) (n := 0) (Nat.le_of_ble_eq_true rfl) (Nat.le_of_ble_eq_true rfl) ?_
        have hP : va_P D vwCl (ce_X8 kA (zz 2) q_this q_this_tokens u_19.2.2.1 ++ (ce_X10 kA q_this_tokens u_19.2.2.2)) H := hP
        refine lv_if_ne (tgt := 98) hx hb dX8_readCommand_93 (by decide) (fun hc_21 => ?_) (fun hc_21 => ?_)
        · rw [if_neg hc_21] at hf
          refine lv_aload_n hx hb dX8_readCommand_98 rfl (lv_at hl 3 rfl) ?_
          refine va_gets hx hb (hZ.2.2.2.2.1 11 (by decide)).1 hS hown (hts (Cond.fieldLink RX8 54 "ReliefBuilder$Command" "REPEAT" "LReliefBuilder$Command;") (List.mem_of_getElem? (i := 2) rfl)) (fun _ h9 => h9) dX8_readCommand_99 ?_
          obtain ⟨hc_22_k, hf⟩ := os_if hf
          refine lv_acmp_ne (rx := (some (zz 2 x2))) (ry := (some (zz 2 11))) (tgt := 139) hx hb dX8_readCommand_102 (by decide) (fun hc_22_0 => ?_) (fun hc_22_0 => ?_)
          · have hc_22 : ¬ x2 = 11 := fun h9 => hc_22_0 (by rw [h9])
            rw [if_neg hc_22] at hf
            exact hB139 u_19.2.2.1 u_19.2.2.2 (os_I o_this 5) _ _ _ hP hD hS (lv_sub hl [1, 0] rfl) hf
          · have hc_22 : x2 = 11 := hZ.2.2.2.2.2.1 _ _ hc_22_k (by decide) (Option.some.inj hc_22_0)
            rw [if_pos hc_22] at hf
            refine lv_aload_n hx hb dX8_readCommand_105 rfl (lv_at hl 1 rfl) ?_
            refine va_get (D := D) (ci := 5) (v := .ref (q_this_tokens 0)) (C := RX8) (T := TX8) (N := 7) hx hb hUX8 (fun _ h9 => h9) hown hK hP 0 rfl rfl 0 (by decide) (hts (Cond.fieldLink RX8 27 "ReliefBuilder$Script" "tokens" "LReliefBuilder$Tokens;") (List.mem_of_getElem? (i := 1) rfl)) (fun _ h9 => h9) rfl dX8_readCommand_106 ?_
            refine lv_bipush (v := 40) hx hb dX8_readCommand_109 (by decide) ?_
            obtain ⟨u_23, he_24, hf⟩ := os_bd hf
            refine mc_callV ⟨hx, hb, hml, hown, hts⟩ (mm_X10_takeSign l D kA N q_this_tokens u_19.2.2.2 (40 : Int32) u_23 he_24) (cwV 1 hts gX8_readCommand_X10_takeSign rfl rfl rfl (by decide +kernel) ⟨Nat.le_of_ble_eq_true rfl, Nat.le_of_ble_eq_true rfl⟩) (wc := (ce_X10 kA q_this_tokens u_19.2.2.2)) (ci := 6) (q0 := 0) rfl rfl rfl hl.1 (As := [.int (40 : Int32)]) (rest := []) rfl (Nat.le_of_ble_eq_true rfl) dX8_readCommand_111 ⟨Nat.le_of_ble_eq_true rfl, Nat.le_of_ble_eq_true rfl⟩ hK hP hD hS hA [5, 6, 7, 8, 9] [0, 1, 2, 3, 4] [0, 1, 2, 3, 4, 5, 6, 7, 8, 9] rfl (by decide) rfl (by decide) (by decide) rfl (by decide) (wr := (ce_X8 kA (zz 2) q_this q_this_tokens u_19.2.2.1)) (w2 := (ce_X8 kA (zz 2) q_this q_this_tokens u_19.2.2.1 ++ (ce_X10 kA q_this_tokens u_23.2))) (fun H locs hP hD hS => ?_)
            have hP : va_P D vwCl (ce_X8 kA (zz 2) q_this q_this_tokens u_19.2.2.1 ++ (ce_X10 kA q_this_tokens u_23.2)) H := hP
            refine lv_if_eq (tgt := 143) hx hb dX8_readCommand_114 (by decide) (fun hc_25 => ?_) (fun hc_25 => ?_)
            · rw [if_pos hc_25] at hf
              exact hB143 u_19.2.2.1 u_23.2 (os_I o_this 5) _ _ _ hP hD hS (lv_sub hl [1, 0] rfl) hf
            · rw [if_neg hc_25] at hf
              refine lv_aload_n hx hb dX8_readCommand_117 rfl (lv_at hl 1 rfl) ?_
              refine lv_iload_n hx hb dX8_readCommand_118 rfl (lv_at hl 2 rfl) ?_
              refine lv_iconst (v := 1) hx hb dX8_readCommand_119 (by decide) ?_
              refine lv_iadd hx hb dX8_readCommand_120 ?_
              obtain ⟨u_26, he_27, hf⟩ := os_bd hf
              refine mx_callV ⟨hx, hb, hml, hown, hts⟩ (mm_X8_readCommands_v0 l hst zz D kA N q_this q_this_tokens u_19.2.2.1 u_23.2 (x1 + (1 : Int32)) u_26 he_27) (cwV 1 hts gX8_readCommand_X8_readCommands rfl rfl rfl (by decide +kernel) ⟨Nat.le_of_ble_eq_true rfl, Nat.le_of_ble_eq_true rfl⟩) (wc := (ce_X8 kA (zz 2) q_this q_this_tokens u_19.2.2.1 ++ (ce_X10 kA q_this_tokens u_23.2))) (ci := 5) (q0 := 0) rfl rfl rfl hl.1 (As := [.int (x1 + (1 : Int32))]) (rest := []) rfl (Nat.le_of_ble_eq_true rfl) dX8_readCommand_121 ⟨Nat.le_of_ble_eq_true rfl, Nat.le_of_ble_eq_true rfl⟩ hK hP hD hS hA hZ [0, 1, 2, 3, 4, 5, 6, 7, 8, 9] [] [0, 1, 2, 3, 4, 5, 6, 7, 8, 9] rfl (by decide) rfl (by decide) (by decide) rfl (by decide) (wr := []) (w2 := (ce_X8 kA (zz 2) q_this q_this_tokens u_26.2.2.1 ++ (ce_X10 kA q_this_tokens u_26.2.2.2))) (fun hx9 H locs q9 ce hP hD hS h91 h92 h93 => ?_) (fun hx9 H locs hP hD hS => ?_)
              · rw [if_neg hx9] at hf
                rw [← Option.some.inj hf]
                exact mx_out hx9 hx0 hlk hP hK hD hS h91 h92 h93 (Nat.le_of_ble_eq_true rfl) (Nat.le_of_ble_eq_true rfl)
              · rw [if_pos hx9] at hf
                refine W.widen (k := 0) (n := 0) (Nat.le_of_ble_eq_true rfl) (Nat.le_of_ble_eq_true rfl) ?_
                have hP : va_P D vwCl (ce_X8 kA (zz 2) q_this q_this_tokens u_26.2.2.1 ++ (ce_X10 kA q_this_tokens u_26.2.2.2)) H := hP
                refine lv_if_eq (tgt := 143) hx hb dX8_readCommand_124 (by decide) (fun hc_28 => ?_) (fun hc_28 => ?_)
                · rw [if_pos hc_28] at hf
                  exact hB143 u_26.2.2.1 u_26.2.2.2 (os_I o_this 5) _ _ _ hP hD hS (lv_sub hl [1, 0] rfl) hf
                · rw [if_neg hc_28] at hf
                  refine lv_aload_n hx hb dX8_readCommand_127 rfl (lv_at hl 1 rfl) ?_
                  refine va_get (D := D) (ci := 5) (v := .ref (q_this_tokens 0)) (C := RX8) (T := TX8) (N := 7) hx hb hUX8 (fun _ h9 => h9) hown hK hP 0 rfl rfl 0 (by decide) (hts (Cond.fieldLink RX8 27 "ReliefBuilder$Script" "tokens" "LReliefBuilder$Tokens;") (List.mem_of_getElem? (i := 1) rfl)) (fun _ h9 => h9) rfl dX8_readCommand_128 ?_
                  refine lv_bipush (v := 41) hx hb dX8_readCommand_131 (by decide) ?_
                  obtain ⟨u_29, he_30, hf⟩ := os_bd hf
                  refine mc_callV ⟨hx, hb, hml, hown, hts⟩ (mm_X10_takeSign l D kA N q_this_tokens u_26.2.2.2 (41 : Int32) u_29 he_30) (cwV 1 hts gX8_readCommand_X10_takeSign rfl rfl rfl (by decide +kernel) ⟨Nat.le_of_ble_eq_true rfl, Nat.le_of_ble_eq_true rfl⟩) (wc := (ce_X10 kA q_this_tokens u_26.2.2.2)) (ci := 6) (q0 := 0) rfl rfl rfl hl.1 (As := [.int (41 : Int32)]) (rest := []) rfl (Nat.le_of_ble_eq_true rfl) dX8_readCommand_133 ⟨Nat.le_of_ble_eq_true rfl, Nat.le_of_ble_eq_true rfl⟩ hK hP hD hS hA [5, 6, 7, 8, 9] [0, 1, 2, 3, 4] [0, 1, 2, 3, 4, 5, 6, 7, 8, 9] rfl (by decide) rfl (by decide) (by decide) rfl (by decide) (wr := (ce_X8 kA (zz 2) q_this q_this_tokens u_26.2.2.1)) (w2 := (ce_X8 kA (zz 2) q_this q_this_tokens u_26.2.2.1 ++ (ce_X10 kA q_this_tokens u_29.2))) (fun H locs hP hD hS => ?_)
                  have hP : va_P D vwCl (ce_X8 kA (zz 2) q_this q_this_tokens u_26.2.2.1 ++ (ce_X10 kA q_this_tokens u_29.2)) H := hP
                  refine lv_if_eq (tgt := 143) hx hb dX8_readCommand_136 (by decide) (fun hc_31 => ?_) (fun hc_31 => ?_)
                  · rw [if_pos hc_31] at hf
                    exact hB143 u_26.2.2.1 u_29.2 (os_I o_this 5) _ _ _ hP hD hS (lv_sub hl [1, 0] rfl) hf
                  · rw [if_neg hc_31] at hf
                    exact hB139 u_26.2.2.1 u_29.2 (os_I o_this 5) _ _ _ hP hD hS (lv_sub hl [1, 0] rfl) hf
        · rw [if_pos hc_21] at hf
          refine lv_iconst (v := 0) hx hb dX8_readCommand_96 (by decide) ?_
          rw [← Option.some.inj hf]
          exact mx_retz (v := 0) (Nat.le_of_ble_eq_true rfl) (Nat.le_of_ble_eq_true rfl) hx hb hr rfl hlk hP hK hD hS dX8_readCommand_97
    · rw [if_pos hc_15] at hf
      refine lv_aload_n hx hb dX8_readCommand_49 rfl (lv_at hl 0 rfl) ?_
      refine va_get (D := D) (ci := 5) (v := .ref (q_this_tokens 0)) (C := RX8) (T := TX8) (N := 7) hx hb hUX8 (fun _ h9 => h9) hown hK hP 0 rfl rfl 0 (by decide) (hts (Cond.fieldLink RX8 27 "ReliefBuilder$Script" "tokens" "LReliefBuilder$Tokens;") (List.mem_of_getElem? (i := 1) rfl)) (fun _ h9 => h9) rfl dX8_readCommand_50 ?_
      refine lv_iconst (v := 5) hx hb dX8_readCommand_53 (by decide) ?_
      obtain ⟨u_32, he_33, hf⟩ := os_bd hf
      refine mc_callV ⟨hx, hb, hml, hown, hts⟩ (mm_X10_fail l D kA N q_this_tokens o_this_tokens (5 : Int32) u_32 he_33) (cwV 1 hts gX8_readCommand_X10_fail rfl rfl rfl (by decide +kernel) ⟨Nat.le_of_ble_eq_true rfl, Nat.le_of_ble_eq_true rfl⟩) (wc := (ce_X10 kA q_this_tokens o_this_tokens)) (ci := 6) (q0 := 0) rfl rfl rfl hl.1 (As := [.int (5 : Int32)]) (rest := []) rfl (Nat.le_of_ble_eq_true rfl) dX8_readCommand_54 ⟨Nat.le_of_ble_eq_true rfl, Nat.le_of_ble_eq_true rfl⟩ hK hP hD hS hA [5, 6, 7, 8, 9] [0, 1, 2, 3, 4] [0, 1, 2, 3, 4, 5, 6, 7, 8, 9] rfl (by decide) rfl (by decide) (by decide) rfl (by decide) (wr := (ce_X8 kA (zz 2) q_this q_this_tokens o_this)) (w2 := (ce_X8 kA (zz 2) q_this q_this_tokens o_this ++ (ce_X10 kA q_this_tokens u_32.2))) (fun H locs hP hD hS => ?_)
      have hP : va_P D vwCl (ce_X8 kA (zz 2) q_this q_this_tokens o_this ++ (ce_X10 kA q_this_tokens u_32.2)) H := hP
      obtain ⟨hz_34, hf⟩ := os_if hf
      rw [← Option.some.inj hf]
      exact mx_retz (Nat.le_of_ble_eq_true rfl) (Nat.le_of_ble_eq_true rfl) hx hb hr (os_z_n hz_34) hlk hP hK hD hS dX8_readCommand_57
  unfold ff_X8_readCommand_v1 at hf
  refine lv_aload_n hx hb dX8_readCommand_0 rfl (lv_at hl 0 rfl) ?_
  obtain ⟨u_1, he_2, hf⟩ := os_bd hf
  refine mx_callV ⟨hx, hb, hml, hown, hts⟩ (mm_X8_presentCommand l hst zz D kA N q_this q_this_tokens o_this o_this_tokens u_1 he_2) (cwV 0 hts gX8_readCommand_X8_presentCommand rfl rfl rfl (by decide +kernel) ⟨Nat.le_of_ble_eq_true rfl, Nat.le_of_ble_eq_true rfl⟩) (wc := (ce_X8 kA (zz 2) q_this q_this_tokens o_this ++ (ce_X10 kA q_this_tokens o_this_tokens))) (ci := 5) (q0 := 0) rfl rfl rfl hl.1 (As := []) (rest := []) rfl (Nat.le_of_ble_eq_true rfl) dX8_readCommand_1 ⟨Nat.le_of_ble_eq_true rfl, Nat.le_of_ble_eq_true rfl⟩ hK hP hD hS hA hZ [0, 1, 2, 3, 4, 5, 6, 7, 8, 9] [] [0, 1, 2, 3, 4, 5, 6, 7, 8, 9] rfl (by decide) rfl (by decide) (by decide) rfl (by decide) (wr := []) (w2 := (ce_X8 kA (zz 2) q_this q_this_tokens o_this ++ (ce_X10 kA q_this_tokens o_this_tokens))) (fun hx9 H locs q9 ce hP hD hS h91 h92 h93 => ?_) (fun hx9 H locs hP hD hS => ?_)
  · rw [if_neg hx9] at hf
    rw [← Option.some.inj hf]
    exact mx_out hx9 hx0 hlk hP hK hD hS h91 h92 h93 (Nat.le_of_ble_eq_true rfl) (Nat.le_of_ble_eq_true rfl)
  · rw [if_pos hx9] at hf
    refine W.widen (k := 0) (n := 0) (Nat.le_of_ble_eq_true rfl) (Nat.le_of_ble_eq_true rfl) ?_
    have hP : va_P D vwCl (ce_X8 kA (zz 2) q_this q_this_tokens o_this ++ (ce_X10 kA q_this_tokens o_this_tokens)) H := hP
    rcases os_op hf with ⟨he_3, hf⟩ | ⟨c_4, he_3, hf⟩
    · rw [he_3]
      refine W.eq (g2 := F0 m 4 ls [.null]) rfl ?_
      refine lv_astore_nN (lv' := [(2, .null), (0, .ref (q_this 0)), (1, .int a1)]) hx hb dX8_readCommand_4 rfl hl (by decide) rfl (fun ls hl => ?_)
      refine lv_aload_nN hx hb dX8_readCommand_5 rfl (lv_at hl 0 rfl) ?_
      refine lv_ifnonnullN hx hb dX8_readCommand_6 ?_
      refine lv_aload_n hx hb dX8_readCommand_9 rfl (lv_at hl 1 rfl) ?_
      refine va_get (D := D) (ci := 5) (v := .ref (q_this_tokens 0)) (C := RX8) (T := TX8) (N := 7) hx hb hUX8 (fun _ h9 => h9) hown hK hP 0 rfl rfl 0 (by decide) (hts (Cond.fieldLink RX8 27 "ReliefBuilder$Script" "tokens" "LReliefBuilder$Tokens;") (List.mem_of_getElem? (i := 1) rfl)) (fun _ h9 => h9) rfl dX8_readCommand_10 ?_
      refine lv_iconst (v := 1) hx hb dX8_readCommand_13 (by decide) ?_
      obtain ⟨u_5, he_6, hf⟩ := os_bd hf
      refine mc_callV ⟨hx, hb, hml, hown, hts⟩ (mm_X10_fail l D kA N q_this_tokens o_this_tokens (1 : Int32) u_5 he_6) (cwV 1 hts gX8_readCommand_X10_fail rfl rfl rfl (by decide +kernel) ⟨Nat.le_of_ble_eq_true rfl, Nat.le_of_ble_eq_true rfl⟩) (wc := (ce_X10 kA q_this_tokens o_this_tokens)) (ci := 6) (q0 := 0) rfl rfl rfl hl.1 (As := [.int (1 : Int32)]) (rest := []) rfl (Nat.le_of_ble_eq_true rfl) dX8_readCommand_14 ⟨Nat.le_of_ble_eq_true rfl, Nat.le_of_ble_eq_true rfl⟩ hK hP hD hS hA [5, 6, 7, 8, 9] [0, 1, 2, 3, 4] [0, 1, 2, 3, 4, 5, 6, 7, 8, 9] rfl (by decide) rfl (by decide) (by decide) rfl (by decide) (wr := (ce_X8 kA (zz 2) q_this q_this_tokens o_this)) (w2 := (ce_X8 kA (zz 2) q_this q_this_tokens o_this ++ (ce_X10 kA q_this_tokens u_5.2))) (fun H locs hP hD hS => ?_)
      have hP : va_P D vwCl (ce_X8 kA (zz 2) q_this q_this_tokens o_this ++ (ce_X10 kA q_this_tokens u_5.2)) H := hP
      obtain ⟨hz_7, hf⟩ := os_if hf
      rw [← Option.some.inj hf]
      exact mx_retz (Nat.le_of_ble_eq_true rfl) (Nat.le_of_ble_eq_true rfl) hx hb hr (os_z_n hz_7) hlk hP hK hD hS dX8_readCommand_17
    · rw [he_3]
      refine W.eq (g2 := F0 m 4 ls [.ref (zz 2 c_4)]) rfl ?_
      refine lv_astore_n (lv' := [(2, .ref (zz 2 c_4)), (0, .ref (q_this 0)), (1, .int a1)]) hx hb dX8_readCommand_4 rfl hl (by decide) rfl (fun ls hl => ?_)
      refine lv_aload_n hx hb dX8_readCommand_5 rfl (lv_at hl 0 rfl) ?_
      refine lv_ifnonnull (tgt := 18) hx hb dX8_readCommand_6 (by decide) ?_
      refine lv_aload_n hx hb dX8_readCommand_18 rfl (lv_at hl 0 rfl) ?_
      refine va_gets hx hb (hZ.2.2.2.2.1 11 (by decide)).1 hS hown (hts (Cond.fieldLink RX8 54 "ReliefBuilder$Command" "REPEAT" "LReliefBuilder$Command;") (List.mem_of_getElem? (i := 2) rfl)) (fun _ h9 => h9) dX8_readCommand_19 ?_
      obtain ⟨hc_8_k, hf⟩ := os_if hf
      refine lv_acmp_ne (rx := (some (zz 2 c_4))) (ry := (some (zz 2 11))) (tgt := 39) hx hb dX8_readCommand_22 (by decide) (fun hc_8_0 => ?_) (fun hc_8_0 => ?_)
      · have hc_8 : ¬ c_4 = 11 := fun h9 => hc_8_0 (by rw [h9])
        rw [if_neg hc_8] at hf
        exact hB39 o_this o_this_tokens a1 c_4 _ _ _ hP hD hS (lv_sub hl [1, 2, 0] rfl) hf
      · have hc_8 : c_4 = 11 := hZ.2.2.2.2.2.1 _ _ hc_8_k (by decide) (Option.some.inj hc_8_0)
        rw [if_pos hc_8] at hf
        refine lv_iload_n hx hb dX8_readCommand_25 rfl (lv_at hl 2 rfl) ?_
        refine lv_iconst (v := 2) hx hb dX8_readCommand_26 (by decide) ?_
        refine lv_icmp_lt (tgt := 39) hx hb dX8_readCommand_27 (by decide) (fun hc_9 => ?_) (fun hc_9 => ?_)
        · rw [if_pos hc_9] at hf
          exact hB39 o_this o_this_tokens a1 c_4 _ _ _ hP hD hS (lv_sub hl [1, 2, 0] rfl) hf
        · rw [if_neg hc_9] at hf
          refine lv_aload_n hx hb dX8_readCommand_30 rfl (lv_at hl 1 rfl) ?_
          refine va_get (D := D) (ci := 5) (v := .ref (q_this_tokens 0)) (C := RX8) (T := TX8) (N := 7) hx hb hUX8 (fun _ h9 => h9) hown hK hP 0 rfl rfl 0 (by decide) (hts (Cond.fieldLink RX8 27 "ReliefBuilder$Script" "tokens" "LReliefBuilder$Tokens;") (List.mem_of_getElem? (i := 1) rfl)) (fun _ h9 => h9) rfl dX8_readCommand_31 ?_
          refine lv_iconst (v := 3) hx hb dX8_readCommand_34 (by decide) ?_
          obtain ⟨u_10, he_11, hf⟩ := os_bd hf
          refine mc_callV ⟨hx, hb, hml, hown, hts⟩ (mm_X10_fail l D kA N q_this_tokens o_this_tokens (3 : Int32) u_10 he_11) (cwV 1 hts gX8_readCommand_X10_fail rfl rfl rfl (by decide +kernel) ⟨Nat.le_of_ble_eq_true rfl, Nat.le_of_ble_eq_true rfl⟩) (wc := (ce_X10 kA q_this_tokens o_this_tokens)) (ci := 6) (q0 := 0) rfl rfl rfl hl.1 (As := [.int (3 : Int32)]) (rest := []) rfl (Nat.le_of_ble_eq_true rfl) dX8_readCommand_35 ⟨Nat.le_of_ble_eq_true rfl, Nat.le_of_ble_eq_true rfl⟩ hK hP hD hS hA [5, 6, 7, 8, 9] [0, 1, 2, 3, 4] [0, 1, 2, 3, 4, 5, 6, 7, 8, 9] rfl (by decide) rfl (by decide) (by decide) rfl (by decide) (wr := (ce_X8 kA (zz 2) q_this q_this_tokens o_this)) (w2 := (ce_X8 kA (zz 2) q_this q_this_tokens o_this ++ (ce_X10 kA q_this_tokens u_10.2))) (fun H locs hP hD hS => ?_)
          have hP : va_P D vwCl (ce_X8 kA (zz 2) q_this q_this_tokens o_this ++ (ce_X10 kA q_this_tokens u_10.2)) H := hP
          obtain ⟨hz_12, hf⟩ := os_if hf
          rw [← Option.some.inj hf]
          exact mx_retz (Nat.le_of_ble_eq_true rfl) (Nat.le_of_ble_eq_true rfl) hx hb hr (os_z_n hz_12) hlk hP hK hD hS dX8_readCommand_38
def ff_X8_readCommands_v1_b32 (N : Nat) (k2 : (os_T × os_T × Int32 × Int32) → Option (Nat × Int32 × os_T × os_T)) (o_this : os_T) (o_this_tokens : os_T) (x1 : Int32) (x2 : Int32) (t0 : Int32) : Option (Nat × Int32 × os_T × os_T) :=
  (if t0 = 0 then ((ff_X8_readCommand_v1 N o_this o_this_tokens x1).bind fun u_11 => (if u_11.1 = 0 then (if u_11.2.1 = 0 then some (0, (0 : Int32), u_11.2.2.1, u_11.2.2.2) else k2 (u_11.2.2.1, u_11.2.2.2, x1, x2 + 1)) else some (u_11.1, (0 : Int32), u_11.2.2.1, u_11.2.2.2))) else some (0, (1 : Int32), o_this, o_this_tokens))
def ff_X8_readCommands_v1_c2 (N : Nat) (k2 : (os_T × os_T × Int32 × Int32) → Option (Nat × Int32 × os_T × os_T)) (o_this : os_T) (o_this_tokens : os_T) (x1 : Int32) (x2 : Int32) : Option (Nat × Int32 × os_T × os_T) :=
  (if (900 : Int32) ≤ x2 then ((ff_X10_fail N o_this_tokens (1 : Int32)).bind fun u_2 => (if os_z u_2.1 then some (0, u_2.1, o_this, u_2.2) else none)) else (if x1 = 0 then ((ff_X10_isAtEnd N o_this_tokens).bind fun u_8 => ff_X8_readCommands_v1_b32 N k2 o_this o_this_tokens x1 x2 u_8) else ((ff_X10_isSign N o_this_tokens (41 : Int32)).bind fun u_6 => ff_X8_readCommands_v1_b32 N k2 o_this o_this_tokens x1 x2 u_6)))
def ff_X8_readCommands_v1_l2 (N : Nat) : Nat → (os_T × os_T × Int32 × Int32) → Option (Nat × Int32 × os_T × os_T) := os_loop (fun k2 s1 => ff_X8_readCommands_v1_c2 N k2 s1.1 s1.2.1 s1.2.2.1 s1.2.2.2)
def ff_X8_readCommands_v1 (N : Nat) (o_this : os_T) (o_this_tokens : os_T) (a1 : Int32) : Option (Nat × Int32 × os_T × os_T) :=
  ff_X8_readCommands_v1_l2 N N (o_this, o_this_tokens, a1, (0 : Int32))
set_option maxHeartbeats 4000000 in
set_option maxRecDepth 100000 in
theorem mm_X8_readCommands_v1 (l : Launch) (hst : l.stackTraces = false) (zz : Nat → Nat → Nat) (D : va_G) (kA : Nat → ClassId) (N : Nat) (q_this : Nat → Nat) (q_this_tokens : Nat → Nat) (o_this : os_T) (o_this_tokens : os_T) (a1 : Int32) (out : (Nat × Int32 × os_T × os_T)) (hf : ff_X8_readCommands_v1 N o_this o_this_tokens a1 = some out) : mx_C l zz D kA yX8_readCommands wsX8_readCommands ({ frames := 9, cells := 0, slots := 0, locals := 199 } : Room) [.ref (q_this 0), .int a1] (ce_X8 kA (zz 2) q_this q_this_tokens o_this ++ (ce_X10 kA q_this_tokens o_this_tokens)) out.1 (some (.int out.2.1)) (ce_X8 kA (zz 2) q_this q_this_tokens out.2.2.1 ++ (ce_X10 kA q_this_tokens out.2.2.2)) := by
  refine mx_of (cc := cX8_readCommands) (maxL := 4) (ret := (some .boolean)) (by decide) rfl (Nat.le_of_ble_eq_true rfl) ?_
  intro p e s m below meth c A B hx0 hZ hD hP hS ls hl
  obtain ⟨hx, hb, hr, hlk, hml, hown, hts, hK, hA, hnm⟩ := B
  have hown : s.vm.findClass RX8 = some m.cls := hown
  have hl : lv_has ls 4 [(0, .ref (q_this 0)), (1, .int a1)] := hl
  have hUX8 : ∀ w ∈ u_ws RX8 TX8 7, w.before [.ref (q_this 0), .int a1].toArray s = true := fun w h => hts w (List.mem_cons_of_mem _ (List.mem_append_left _ (List.mem_append_right _ h)))
  have hB32 : ∀ (k2 : (os_T × os_T × Int32 × Int32) → Option (Nat × Int32 × os_T × os_T)), (∀ (o_this : os_T) (o_this_tokens : os_T) (x1 : Int32) (x2 : Int32) (H : Heap) (locs : List Loc) (ls : Array Slot), va_P D vwCl (ce_X8 kA (zz 2) q_this q_this_tokens o_this ++ (ce_X10 kA q_this_tokens o_this_tokens)) H → va_D A (ce_X8 kA (zz 2) q_this q_this_tokens o_this ++ (ce_X10 kA q_this_tokens o_this_tokens)) → va_S A s.heap H locs → lv_has ls 4 [(0, .ref (q_this 0)), (1, .int x1), (2, .int x2)] → k2 (o_this, o_this_tokens, x1, x2) = some out → W p l e ({ frames := 9, cells := 0, slots := 0, locals := 199 } : Room) s m [.ref (q_this 0), .int a1].toArray below meth c H locs 0 0 (vx_MQ below (mx_Q D kA A out.1 (some (.int out.2.1)) (ce_X8 kA (zz 2) q_this q_this_tokens out.2.2.1 ++ (ce_X10 kA q_this_tokens out.2.2.2))) (mx_X D kA A out.1 (ce_X8 kA (zz 2) q_this q_this_tokens out.2.2.1 ++ (ce_X10 kA q_this_tokens out.2.2.2))) [.ref (q_this 0), .int a1].toArray s 0 0 A) (F0 m 2 ls [])) → ∀ (o_this : os_T) (o_this_tokens : os_T) (x1 : Int32) (x2 : Int32) (t0 : Int32) (H : Heap) (locs : List Loc) (ls : Array Slot), va_P D vwCl (ce_X8 kA (zz 2) q_this q_this_tokens o_this ++ (ce_X10 kA q_this_tokens o_this_tokens)) H → va_D A (ce_X8 kA (zz 2) q_this q_this_tokens o_this ++ (ce_X10 kA q_this_tokens o_this_tokens)) → va_S A s.heap H locs → lv_has ls 4 [(0, .ref (q_this 0)), (1, .int x1), (2, .int x2)] → ff_X8_readCommands_v1_b32 N k2 o_this o_this_tokens x1 x2 t0 = some out → W p l e ({ frames := 9, cells := 0, slots := 0, locals := 199 } : Room) s m [.ref (q_this 0), .int a1].toArray below meth c H locs 0 0 (vx_MQ below (mx_Q D kA A out.1 (some (.int out.2.1)) (ce_X8 kA (zz 2) q_this q_this_tokens out.2.2.1 ++ (ce_X10 kA q_this_tokens out.2.2.2))) (mx_X D kA A out.1 (ce_X8 kA (zz 2) q_this q_this_tokens out.2.2.1 ++ (ce_X10 kA q_this_tokens out.2.2.2))) [.ref (q_this 0), .int a1].toArray s 0 0 A) (F0 m 32 ls [.int t0]) := by
    intro k2 hk2 o_this o_this_tokens x1 x2 t0 H locs ls hP hD hS hl hf
    unfold ff_X8_readCommands_v1_b32 at hf
    refine lv_istore_n (lv' := [(3, .int t0), (0, .ref (q_this 0)), (1, .int x1), (2, .int x2)]) hx hb dX8_readCommands_32 rfl hl (by decide) rfl (fun ls hl => ?_)
    refine lv_iload_n hx hb dX8_readCommands_33 rfl (lv_at hl 0 rfl) ?_
    refine lv_if_eq (tgt := 39) hx hb dX8_readCommands_34 (by decide) (fun hc_10 => ?_) (fun hc_10 => ?_)
    · rw [if_pos hc_10] at hf
      refine lv_aload_n hx hb dX8_readCommands_39 rfl (lv_at hl 1 rfl) ?_
      refine lv_iload_n hx hb dX8_readCommands_40 rfl (lv_at hl 2 rfl) ?_
      obtain ⟨u_11, he_12, hf⟩ := os_bd hf
      refine mx_callV ⟨hx, hb, hml, hown, hts⟩ (mm_X8_readCommand_v1 l hst zz D kA N q_this q_this_tokens o_this o_this_tokens x1 u_11 he_12) (cwV 1 hts gX8_readCommands_X8_readCommand rfl rfl rfl (by decide +kernel) ⟨Nat.le_of_ble_eq_true rfl, Nat.le_of_ble_eq_true rfl⟩) (wc := (ce_X8 kA (zz 2) q_this q_this_tokens o_this ++ (ce_X10 kA q_this_tokens o_this_tokens))) (ci := 5) (q0 := 0) rfl rfl rfl hl.1 (As := [.int x1]) (rest := []) rfl (Nat.le_of_ble_eq_true rfl) dX8_readCommands_41 ⟨Nat.le_of_ble_eq_true rfl, Nat.le_of_ble_eq_true rfl⟩ hK hP hD hS hA hZ [0, 1, 2, 3, 4, 5, 6, 7, 8, 9] [] [0, 1, 2, 3, 4, 5, 6, 7, 8, 9] rfl (by decide) rfl (by decide) (by decide) rfl (by decide) (wr := []) (w2 := (ce_X8 kA (zz 2) q_this q_this_tokens u_11.2.2.1 ++ (ce_X10 kA q_this_tokens u_11.2.2.2))) (fun hx9 H locs q9 ce hP hD hS h91 h92 h93 => ?_) (fun hx9 H locs hP hD hS => ?_)
      · rw [if_neg hx9] at hf
        rw [← Option.some.inj hf]
        exact mx_out hx9 hx0 hlk hP hK hD hS h91 h92 h93 (Nat.le_of_ble_eq_true rfl) (Nat.le_of_ble_eq_true rfl)
      · rw [if_pos hx9] at hf
        refine W.widen (k := 0) (n := 0) (Nat.le_of_ble_eq_true rfl) (Nat.le_of_ble_eq_true rfl) ?_
        have hP : va_P D vwCl (ce_X8 kA (zz 2) q_this q_this_tokens u_11.2.2.1 ++ (ce_X10 kA q_this_tokens u_11.2.2.2)) H := hP
        refine lv_if_ne (tgt := 49) hx hb dX8_readCommands_44 (by decide) (fun hc_13 => ?_) (fun hc_13 => ?_)
        · rw [if_neg hc_13] at hf
          refine lv_iinc (v := x2 + 1) (lv' := [(2, .int (x2 + 1)), (3, .int t0), (0, .ref (q_this 0)), (1, .int x1)]) hx hb dX8_readCommands_49 hl (k := 3) rfl rfl (by decide) rfl (fun ls hl => ?_)
          refine lv_goto (tgt := 2) hx hb dX8_readCommands_52 (by decide) ?_
          exact hk2 u_11.2.2.1 u_11.2.2.2 x1 (x2 + 1) _ _ _ hP hD hS (lv_sub hl [2, 3, 0] rfl) hf
        · rw [if_pos hc_13] at hf
          refine lv_iconst (v := 0) hx hb dX8_readCommands_47 (by decide) ?_
          rw [← Option.some.inj hf]
          exact mx_retz (v := 0) (Nat.le_of_ble_eq_true rfl) (Nat.le_of_ble_eq_true rfl) hx hb hr rfl hlk hP hK hD hS dX8_readCommands_48
    · rw [if_neg hc_10] at hf
      refine lv_iconst (v := 1) hx hb dX8_readCommands_37 (by decide) ?_
      rw [← Option.some.inj hf]
      exact mx_retz (v := 1) (Nat.le_of_ble_eq_true rfl) (Nat.le_of_ble_eq_true rfl) hx hb hr rfl hlk hP hK hD hS dX8_readCommands_38
  have hL2 : ∀ (n : Nat) (o_this : os_T) (o_this_tokens : os_T) (x1 : Int32) (x2 : Int32) (H : Heap) (locs : List Loc) (ls : Array Slot), va_P D vwCl (ce_X8 kA (zz 2) q_this q_this_tokens o_this ++ (ce_X10 kA q_this_tokens o_this_tokens)) H → va_D A (ce_X8 kA (zz 2) q_this q_this_tokens o_this ++ (ce_X10 kA q_this_tokens o_this_tokens)) → va_S A s.heap H locs → lv_has ls 4 [(0, .ref (q_this 0)), (1, .int x1), (2, .int x2)] → ff_X8_readCommands_v1_l2 N n (o_this, o_this_tokens, x1, x2) = some out → W p l e ({ frames := 9, cells := 0, slots := 0, locals := 199 } : Room) s m [.ref (q_this 0), .int a1].toArray below meth c H locs 0 0 (vx_MQ below (mx_Q D kA A out.1 (some (.int out.2.1)) (ce_X8 kA (zz 2) q_this q_this_tokens out.2.2.1 ++ (ce_X10 kA q_this_tokens out.2.2.2))) (mx_X D kA A out.1 (ce_X8 kA (zz 2) q_this q_this_tokens out.2.2.1 ++ (ce_X10 kA q_this_tokens out.2.2.2))) [.ref (q_this 0), .int a1].toArray s 0 0 A) (F0 m 2 ls []) := by
    intro n
    induction n with
    | zero => intro o_this o_this_tokens x1 x2 H locs ls _ _ _ _ hf; cases hf
    | succ n hk2 =>
      intro o_this o_this_tokens x1 x2 H locs ls hP hD hS hl hf
      have hf : ff_X8_readCommands_v1_c2 N (ff_X8_readCommands_v1_l2 N n) o_this o_this_tokens x1 x2 = some out := hf
      generalize hke : ff_X8_readCommands_v1_l2 N n = k2 at hk2 hf
      unfold ff_X8_readCommands_v1_c2 at hf
      refine lv_iload_n hx hb dX8_readCommands_2 rfl (lv_at hl 2 rfl) ?_
      refine lv_sipush (v := 900) hx hb dX8_readCommands_3 (by decide) ?_
      refine lv_icmp_ge (tgt := 55) hx hb dX8_readCommands_6 (by decide) (fun hc_1 => ?_) (fun hc_1 => ?_)
      · rw [if_pos hc_1] at hf
        refine lv_aload_n hx hb dX8_readCommands_55 rfl (lv_at hl 0 rfl) ?_
        refine va_get (D := D) (ci := 5) (v := .ref (q_this_tokens 0)) (C := RX8) (T := TX8) (N := 7) hx hb hUX8 (fun _ h9 => h9) hown hK hP 0 rfl rfl 0 (by decide) (hts (Cond.fieldLink RX8 27 "ReliefBuilder$Script" "tokens" "LReliefBuilder$Tokens;") (List.mem_of_getElem? (i := 1) rfl)) (fun _ h9 => h9) rfl dX8_readCommands_56 ?_
        refine lv_iconst (v := 1) hx hb dX8_readCommands_59 (by decide) ?_
        obtain ⟨u_2, he_3, hf⟩ := os_bd hf
        refine mc_callV ⟨hx, hb, hml, hown, hts⟩ (mm_X10_fail l D kA N q_this_tokens o_this_tokens (1 : Int32) u_2 he_3) (cwV 1 hts gX8_readCommands_X10_fail rfl rfl rfl (by decide +kernel) ⟨Nat.le_of_ble_eq_true rfl, Nat.le_of_ble_eq_true rfl⟩) (wc := (ce_X10 kA q_this_tokens o_this_tokens)) (ci := 6) (q0 := 0) rfl rfl rfl hl.1 (As := [.int (1 : Int32)]) (rest := []) rfl (Nat.le_of_ble_eq_true rfl) dX8_readCommands_60 ⟨Nat.le_of_ble_eq_true rfl, Nat.le_of_ble_eq_true rfl⟩ hK hP hD hS hA [5, 6, 7, 8, 9] [0, 1, 2, 3, 4] [0, 1, 2, 3, 4, 5, 6, 7, 8, 9] rfl (by decide) rfl (by decide) (by decide) rfl (by decide) (wr := (ce_X8 kA (zz 2) q_this q_this_tokens o_this)) (w2 := (ce_X8 kA (zz 2) q_this q_this_tokens o_this ++ (ce_X10 kA q_this_tokens u_2.2))) (fun H locs hP hD hS => ?_)
        have hP : va_P D vwCl (ce_X8 kA (zz 2) q_this q_this_tokens o_this ++ (ce_X10 kA q_this_tokens u_2.2)) H := hP
        obtain ⟨hz_4, hf⟩ := os_if hf
        rw [← Option.some.inj hf]
        exact mx_retz (Nat.le_of_ble_eq_true rfl) (Nat.le_of_ble_eq_true rfl) hx hb hr (os_z_n hz_4) hlk hP hK hD hS dX8_readCommands_63
      · rw [if_neg hc_1] at hf
        refine lv_iload_n hx hb dX8_readCommands_9 rfl (lv_at hl 1 rfl) ?_
        refine lv_if_ne (tgt := 23) hx hb dX8_readCommands_10 (by decide) (fun hc_5 => ?_) (fun hc_5 => ?_)
        · rw [if_neg hc_5] at hf
          refine lv_aload_n hx hb dX8_readCommands_23 rfl (lv_at hl 0 rfl) ?_
          refine va_get (D := D) (ci := 5) (v := .ref (q_this_tokens 0)) (C := RX8) (T := TX8) (N := 7) hx hb hUX8 (fun _ h9 => h9) hown hK hP 0 rfl rfl 0 (by decide) (hts (Cond.fieldLink RX8 27 "ReliefBuilder$Script" "tokens" "LReliefBuilder$Tokens;") (List.mem_of_getElem? (i := 1) rfl)) (fun _ h9 => h9) rfl dX8_readCommands_24 ?_
          refine lv_bipush (v := 41) hx hb dX8_readCommands_27 (by decide) ?_
          obtain ⟨u_6, he_7, hf⟩ := os_bd hf
          refine mc_callV ⟨hx, hb, hml, hown, hts⟩ (mm_X10_isSign l D kA N q_this_tokens o_this_tokens (41 : Int32) u_6 he_7) (cwV 1 hts gX8_readCommands_X10_isSign rfl rfl rfl (by decide +kernel) ⟨Nat.le_of_ble_eq_true rfl, Nat.le_of_ble_eq_true rfl⟩) (wc := (ce_X10 kA q_this_tokens o_this_tokens)) (ci := 6) (q0 := 0) rfl rfl rfl hl.1 (As := [.int (41 : Int32)]) (rest := []) rfl (Nat.le_of_ble_eq_true rfl) dX8_readCommands_29 ⟨Nat.le_of_ble_eq_true rfl, Nat.le_of_ble_eq_true rfl⟩ hK hP hD hS hA [5, 6, 7, 8, 9] [0, 1, 2, 3, 4] [0, 1, 2, 3, 4, 5, 6, 7, 8, 9] rfl (by decide) rfl (by decide) (by decide) rfl (by decide) (wr := (ce_X8 kA (zz 2) q_this q_this_tokens o_this)) (w2 := (ce_X8 kA (zz 2) q_this q_this_tokens o_this ++ (ce_X10 kA q_this_tokens o_this_tokens))) (fun H locs hP hD hS => ?_)
          have hP : va_P D vwCl (ce_X8 kA (zz 2) q_this q_this_tokens o_this ++ (ce_X10 kA q_this_tokens o_this_tokens)) H := hP
          exact hB32 k2 hk2 o_this o_this_tokens x1 x2 u_6 _ _ _ hP hD hS (lv_sub hl [0, 1, 2] rfl) hf
        · rw [if_pos hc_5] at hf
          refine lv_aload_n hx hb dX8_readCommands_13 rfl (lv_at hl 0 rfl) ?_
          refine va_get (D := D) (ci := 5) (v := .ref (q_this_tokens 0)) (C := RX8) (T := TX8) (N := 7) hx hb hUX8 (fun _ h9 => h9) hown hK hP 0 rfl rfl 0 (by decide) (hts (Cond.fieldLink RX8 27 "ReliefBuilder$Script" "tokens" "LReliefBuilder$Tokens;") (List.mem_of_getElem? (i := 1) rfl)) (fun _ h9 => h9) rfl dX8_readCommands_14 ?_
          obtain ⟨u_8, he_9, hf⟩ := os_bd hf
          refine mc_callV ⟨hx, hb, hml, hown, hts⟩ (mm_X10_isAtEnd l D kA N q_this_tokens o_this_tokens u_8 he_9) (cwV 0 hts gX8_readCommands_X10_isAtEnd rfl rfl rfl (by decide +kernel) ⟨Nat.le_of_ble_eq_true rfl, Nat.le_of_ble_eq_true rfl⟩) (wc := (ce_X10 kA q_this_tokens o_this_tokens)) (ci := 6) (q0 := 0) rfl rfl rfl hl.1 (As := []) (rest := []) rfl (Nat.le_of_ble_eq_true rfl) dX8_readCommands_17 ⟨Nat.le_of_ble_eq_true rfl, Nat.le_of_ble_eq_true rfl⟩ hK hP hD hS hA [5, 6, 7, 8, 9] [0, 1, 2, 3, 4] [0, 1, 2, 3, 4, 5, 6, 7, 8, 9] rfl (by decide) rfl (by decide) (by decide) rfl (by decide) (wr := (ce_X8 kA (zz 2) q_this q_this_tokens o_this)) (w2 := (ce_X8 kA (zz 2) q_this q_this_tokens o_this ++ (ce_X10 kA q_this_tokens o_this_tokens))) (fun H locs hP hD hS => ?_)
          have hP : va_P D vwCl (ce_X8 kA (zz 2) q_this q_this_tokens o_this ++ (ce_X10 kA q_this_tokens o_this_tokens)) H := hP
          refine lv_goto (tgt := 32) hx hb dX8_readCommands_20 (by decide) ?_
          exact hB32 k2 hk2 o_this o_this_tokens x1 x2 u_8 _ _ _ hP hD hS (lv_sub hl [0, 1, 2] rfl) hf
  unfold ff_X8_readCommands_v1 at hf
  refine lv_iconst (v := 0) hx hb dX8_readCommands_0 (by decide) ?_
  refine lv_istore_n (lv' := [(2, .int (0 : Int32)), (0, .ref (q_this 0)), (1, .int a1)]) hx hb dX8_readCommands_1 rfl hl (by decide) rfl (fun ls hl => ?_)
  exact hL2 N o_this o_this_tokens a1 (0 : Int32) _ _ _ hP hD hS (lv_sub hl [1, 2, 0] rfl) hf
def ff_X8_readCommand_v2_b144 (N : Nat) (o_this : os_T) (o_this_tokens : os_T) (x3 : Int32) (t0 : Int32) : Option (Nat × Int32 × os_T × os_T) :=
  (if os_in x3 30 then (if t0 = 0 then some (0, (0 : Int32), ss_A o_this 1 (upd (os_A o_this 1) (Int32.toNatClampNeg x3) (os_I o_this 5)), o_this_tokens) else ((ff_X10_takeSign N o_this_tokens (59 : Int32)).bind fun u_37 => (if u_37.1 = 0 then some (0, (0 : Int32), ss_A o_this 1 (upd (os_A o_this 1) (Int32.toNatClampNeg x3) (os_I o_this 5)), u_37.2) else some (0, (1 : Int32), ss_A o_this 1 (upd (os_A o_this 1) (Int32.toNatClampNeg x3) (os_I o_this 5)), u_37.2)))) else none)
def ff_X8_readCommand_v2_b139 (N : Nat) (o_this : os_T) (o_this_tokens : os_T) (x3 : Int32) : Option (Nat × Int32 × os_T × os_T) :=
  ff_X8_readCommand_v2_b144 N o_this o_this_tokens x3 (1 : Int32)
def ff_X8_readCommand_v2_b143 (N : Nat) (o_this : os_T) (o_this_tokens : os_T) (x3 : Int32) : Option (Nat × Int32 × os_T × os_T) :=
  ff_X8_readCommand_v2_b144 N o_this o_this_tokens x3 (0 : Int32)
def ff_X8_readCommand_v2_b39 (N : Nat) (o_this : os_T) (o_this_tokens : os_T) (x1 : Int32) (x2 : Nat) : Option (Nat × Int32 × os_T × os_T) :=
  ((ff_X8_isIndex N (os_I o_this 5)).bind fun u_13 => (if u_13 = 0 then ((ff_X10_fail N o_this_tokens (5 : Int32)).bind fun u_32 => (if os_z u_32.1 then some (0, u_32.1, o_this, u_32.2) else none)) else (if x2 < 12 then (if os_in (os_I o_this 5) 30 then ((ff_X10_advance N o_this_tokens).bind fun u_17 => ((ff_X8_readNumbers N (ss_I (ss_R o_this 0 (va_up (os_R o_this 0) (Int32.toNatClampNeg (os_I o_this 5)) (some x2))) 5 ((os_I o_this 5) + (1 : Int32))) u_17 x2 (os_I o_this 5)).bind fun u_19 => (if u_19.1 = 0 then (if u_19.2.1 = 0 then some (0, (0 : Int32), u_19.2.2.1, u_19.2.2.2) else (if x2 < 12 then (if x2 = 11 then ((ff_X10_takeSign N u_19.2.2.2 (40 : Int32)).bind fun u_23 => (if u_23.1 = 0 then ff_X8_readCommand_v2_b143 N u_19.2.2.1 u_23.2 (os_I o_this 5) else ((ff_X8_readCommands_v1 N u_19.2.2.1 u_23.2 (x1 + (1 : Int32))).bind fun u_26 => (if u_26.1 = 0 then (if u_26.2.1 = 0 then ff_X8_readCommand_v2_b143 N u_26.2.2.1 u_26.2.2.2 (os_I o_this 5) else ((ff_X10_takeSign N u_26.2.2.2 (41 : Int32)).bind fun u_29 => (if u_29.1 = 0 then ff_X8_readCommand_v2_b143 N u_26.2.2.1 u_29.2 (os_I o_this 5) else ff_X8_readCommand_v2_b139 N u_26.2.2.1 u_29.2 (os_I o_this 5)))) else some (u_26.1, (0 : Int32), u_26.2.2.1, u_26.2.2.2))))) else ff_X8_readCommand_v2_b139 N u_19.2.2.1 u_19.2.2.2 (os_I o_this 5)) else none)) else some (u_19.1, (0 : Int32), u_19.2.2.1, u_19.2.2.2)))) else none) else none)))
def ff_X8_readCommand_v2 (N : Nat) (o_this : os_T) (o_this_tokens : os_T) (a1 : Int32) : Option (Nat × Int32 × os_T × os_T) :=
  ((ff_X8_presentCommand N o_this o_this_tokens).bind fun u_1 => (if u_1.1 = 0 then (os_opt u_1.2 ((ff_X10_fail N o_this_tokens (1 : Int32)).bind fun u_5 => (if os_z u_5.1 then some (0, u_5.1, o_this, u_5.2) else none)) (fun c_4 => (if c_4 < 12 then (if c_4 = 11 then (if a1 < (2 : Int32) then ff_X8_readCommand_v2_b39 N o_this o_this_tokens a1 c_4 else ((ff_X10_fail N o_this_tokens (3 : Int32)).bind fun u_10 => (if os_z u_10.1 then some (0, u_10.1, o_this, u_10.2) else none))) else ff_X8_readCommand_v2_b39 N o_this o_this_tokens a1 c_4) else none))) else some (u_1.1, (0 : Int32), o_this, o_this_tokens)))
set_option maxHeartbeats 4000000 in
set_option maxRecDepth 100000 in
theorem mm_X8_readCommand_v2 (l : Launch) (hst : l.stackTraces = false) (zz : Nat → Nat → Nat) (D : va_G) (kA : Nat → ClassId) (N : Nat) (q_this : Nat → Nat) (q_this_tokens : Nat → Nat) (o_this : os_T) (o_this_tokens : os_T) (a1 : Int32) (out : (Nat × Int32 × os_T × os_T)) (hf : ff_X8_readCommand_v2 N o_this o_this_tokens a1 = some out) : mx_C l zz D kA yX8_readCommand wsX8_readCommand ({ frames := 10, cells := 0, slots := 0, locals := 222 } : Room) [.ref (q_this 0), .int a1] (ce_X8 kA (zz 2) q_this q_this_tokens o_this ++ (ce_X10 kA q_this_tokens o_this_tokens)) out.1 (some (.int out.2.1)) (ce_X8 kA (zz 2) q_this q_this_tokens out.2.2.1 ++ (ce_X10 kA q_this_tokens out.2.2.2)) := by
  refine mx_of (cc := cX8_readCommand) (maxL := 5) (ret := (some .boolean)) (by decide) rfl (Nat.le_of_ble_eq_true rfl) ?_
  intro p e s m below meth c A B hx0 hZ hD hP hS ls hl
  obtain ⟨hx, hb, hr, hlk, hml, hown, hts, hK, hA, hnm⟩ := B
  have hown : s.vm.findClass RX8 = some m.cls := hown
  have hl : lv_has ls 5 [(0, .ref (q_this 0)), (1, .int a1)] := hl
  have hUX8 : ∀ w ∈ u_ws RX8 TX8 7, w.before [.ref (q_this 0), .int a1].toArray s = true := fun w h => hts w (List.mem_cons_of_mem _ (List.mem_append_left _ (List.mem_append_right _ h)))
  have hB144 : ∀ (o_this : os_T) (o_this_tokens : os_T) (x3 : Int32) (t0 : Int32) (H : Heap) (locs : List Loc) (ls : Array Slot), va_P D vwCl (ce_X8 kA (zz 2) q_this q_this_tokens o_this ++ (ce_X10 kA q_this_tokens o_this_tokens)) H → va_D A (ce_X8 kA (zz 2) q_this q_this_tokens o_this ++ (ce_X10 kA q_this_tokens o_this_tokens)) → va_S A s.heap H locs → lv_has ls 5 [(0, .ref (q_this 0)), (3, .int x3)] → ff_X8_readCommand_v2_b144 N o_this o_this_tokens x3 t0 = some out → W p l e ({ frames := 10, cells := 0, slots := 0, locals := 222 } : Room) s m [.ref (q_this 0), .int a1].toArray below meth c H locs 0 0 (vx_MQ below (mx_Q D kA A out.1 (some (.int out.2.1)) (ce_X8 kA (zz 2) q_this q_this_tokens out.2.2.1 ++ (ce_X10 kA q_this_tokens out.2.2.2))) (mx_X D kA A out.1 (ce_X8 kA (zz 2) q_this q_this_tokens out.2.2.1 ++ (ce_X10 kA q_this_tokens out.2.2.2))) [.ref (q_this 0), .int a1].toArray s 0 0 A) (F0 m 144 ls [.int t0]) := by
    intro o_this o_this_tokens x3 t0 H locs ls hP hD hS hl hf
    unfold ff_X8_readCommand_v2_b144 at hf
    refine lv_istore (lv' := [(4, .int t0), (0, .ref (q_this 0)), (3, .int x3)]) hx hb dX8_readCommand_144 hl (by decide) rfl (fun ls hl => ?_)
    refine lv_aload_n hx hb dX8_readCommand_146 rfl (lv_at hl 1 rfl) ?_
    refine va_get (D := D) (ci := 5) (v := .ref (q_this 3)) (C := RX8) (T := TX8) (N := 7) hx hb hUX8 (fun _ h9 => h9) hown hK hP 0 rfl rfl 3 (by decide) (hts (Cond.fieldLink RX8 21 "ReliefBuilder$Script" "ends" "[I") (List.mem_of_getElem? (i := 5) rfl)) (fun _ h9 => h9) rfl dX8_readCommand_147 ?_
    refine lv_iload_n hx hb dX8_readCommand_150 rfl (lv_at hl 2 rfl) ?_
    refine lv_aload_n hx hb dX8_readCommand_151 rfl (lv_at hl 1 rfl) ?_
    refine va_get (D := D) (ci := 5) (v := .int (os_I o_this 5)) (C := RX8) (T := TX8) (N := 7) hx hb hUX8 (fun _ h9 => h9) hown hK hP 0 rfl rfl 5 (by decide) (hts (Cond.fieldLink RX8 35 "ReliefBuilder$Script" "count" "I") (List.mem_of_getElem? (i := 3) rfl)) (fun _ h9 => h9) rfl dX8_readCommand_152 ?_
    obtain ⟨hi_35, hf⟩ := os_if hf
    refine va_iast hx hb hK hP hD hS 3 0 rfl rfl hi_35 dX8_readCommand_155 (fun H locs hP hD hS => ?_)
    have hP : va_P D vwCl (ce_X8 kA (zz 2) q_this q_this_tokens (ss_A o_this 1 (upd (os_A o_this 1) (Int32.toNatClampNeg x3) (os_I o_this 5))) ++ (ce_X10 kA q_this_tokens o_this_tokens)) H := hP
    have hD : va_D A (ce_X8 kA (zz 2) q_this q_this_tokens (ss_A o_this 1 (upd (os_A o_this 1) (Int32.toNatClampNeg x3) (os_I o_this 5))) ++ (ce_X10 kA q_this_tokens o_this_tokens)) := hD
    refine lv_iload hx hb dX8_readCommand_156 (lv_at hl 0 rfl) ?_
    refine lv_if_eq (tgt := 177) hx hb dX8_readCommand_158 (by decide) (fun hc_36 => ?_) (fun hc_36 => ?_)
    · rw [if_pos hc_36] at hf
      refine lv_iconst (v := 0) hx hb dX8_readCommand_177 (by decide) ?_
      rw [← Option.some.inj hf]
      exact mx_retz (v := 0) (Nat.le_of_ble_eq_true rfl) (Nat.le_of_ble_eq_true rfl) hx hb hr rfl hlk hP hK hD hS dX8_readCommand_178
    · rw [if_neg hc_36] at hf
      refine lv_aload_n hx hb dX8_readCommand_161 rfl (lv_at hl 1 rfl) ?_
      refine va_get (D := D) (ci := 5) (v := .ref (q_this_tokens 0)) (C := RX8) (T := TX8) (N := 7) hx hb hUX8 (fun _ h9 => h9) hown hK hP 0 rfl rfl 0 (by decide) (hts (Cond.fieldLink RX8 27 "ReliefBuilder$Script" "tokens" "LReliefBuilder$Tokens;") (List.mem_of_getElem? (i := 1) rfl)) (fun _ h9 => h9) rfl dX8_readCommand_162 ?_
      refine lv_bipush (v := 59) hx hb dX8_readCommand_165 (by decide) ?_
      obtain ⟨u_37, he_38, hf⟩ := os_bd hf
      refine mc_callV ⟨hx, hb, hml, hown, hts⟩ (mm_X10_takeSign l D kA N q_this_tokens o_this_tokens (59 : Int32) u_37 he_38) (cwV 1 hts gX8_readCommand_X10_takeSign rfl rfl rfl (by decide +kernel) ⟨Nat.le_of_ble_eq_true rfl, Nat.le_of_ble_eq_true rfl⟩) (wc := (ce_X10 kA q_this_tokens o_this_tokens)) (ci := 6) (q0 := 0) rfl rfl rfl hl.1 (As := [.int (59 : Int32)]) (rest := []) rfl (Nat.le_of_ble_eq_true rfl) dX8_readCommand_167 ⟨Nat.le_of_ble_eq_true rfl, Nat.le_of_ble_eq_true rfl⟩ hK hP hD hS hA [5, 6, 7, 8, 9] [0, 1, 2, 3, 4] [0, 1, 2, 3, 4, 5, 6, 7, 8, 9] rfl (by decide) rfl (by decide) (by decide) rfl (by decide) (wr := (ce_X8 kA (zz 2) q_this q_this_tokens (ss_A o_this 1 (upd (os_A o_this 1) (Int32.toNatClampNeg x3) (os_I o_this 5))))) (w2 := (ce_X8 kA (zz 2) q_this q_this_tokens (ss_A o_this 1 (upd (os_A o_this 1) (Int32.toNatClampNeg x3) (os_I o_this 5))) ++ (ce_X10 kA q_this_tokens u_37.2))) (fun H locs hP hD hS => ?_)
      have hP : va_P D vwCl (ce_X8 kA (zz 2) q_this q_this_tokens (ss_A o_this 1 (upd (os_A o_this 1) (Int32.toNatClampNeg x3) (os_I o_this 5))) ++ (ce_X10 kA q_this_tokens u_37.2)) H := hP
      refine lv_if_eq (tgt := 177) hx hb dX8_readCommand_170 (by decide) (fun hc_39 => ?_) (fun hc_39 => ?_)
      · rw [if_pos hc_39] at hf
        refine lv_iconst (v := 0) hx hb dX8_readCommand_177 (by decide) ?_
        rw [← Option.some.inj hf]
        exact mx_retz (v := 0) (Nat.le_of_ble_eq_true rfl) (Nat.le_of_ble_eq_true rfl) hx hb hr rfl hlk hP hK hD hS dX8_readCommand_178
      · rw [if_neg hc_39] at hf
        refine lv_iconst (v := 1) hx hb dX8_readCommand_173 (by decide) ?_
        refine lv_goto (tgt := 178) hx hb dX8_readCommand_174 (by decide) ?_
        rw [← Option.some.inj hf]
        exact mx_retz (v := 1) (Nat.le_of_ble_eq_true rfl) (Nat.le_of_ble_eq_true rfl) hx hb hr rfl hlk hP hK hD hS dX8_readCommand_178
  have hB139 : ∀ (o_this : os_T) (o_this_tokens : os_T) (x3 : Int32) (H : Heap) (locs : List Loc) (ls : Array Slot), va_P D vwCl (ce_X8 kA (zz 2) q_this q_this_tokens o_this ++ (ce_X10 kA q_this_tokens o_this_tokens)) H → va_D A (ce_X8 kA (zz 2) q_this q_this_tokens o_this ++ (ce_X10 kA q_this_tokens o_this_tokens)) → va_S A s.heap H locs → lv_has ls 5 [(0, .ref (q_this 0)), (3, .int x3)] → ff_X8_readCommand_v2_b139 N o_this o_this_tokens x3 = some out → W p l e ({ frames := 10, cells := 0, slots := 0, locals := 222 } : Room) s m [.ref (q_this 0), .int a1].toArray below meth c H locs 0 0 (vx_MQ below (mx_Q D kA A out.1 (some (.int out.2.1)) (ce_X8 kA (zz 2) q_this q_this_tokens out.2.2.1 ++ (ce_X10 kA q_this_tokens out.2.2.2))) (mx_X D kA A out.1 (ce_X8 kA (zz 2) q_this q_this_tokens out.2.2.1 ++ (ce_X10 kA q_this_tokens out.2.2.2))) [.ref (q_this 0), .int a1].toArray s 0 0 A) (F0 m 139 ls []) := by
    intro o_this o_this_tokens x3 H locs ls hP hD hS hl hf
    unfold ff_X8_readCommand_v2_b139 at hf
    refine lv_iconst (v := 1) hx hb dX8_readCommand_139 (by decide) ?_
    refine lv_goto (tgt := 144) hx hb dX8_readCommand_140 (by decide) ?_
    exact hB144 o_this o_this_tokens x3 (1 : Int32) _ _ _ hP hD hS (lv_sub hl [0, 1] rfl) hf
  have hB143 : ∀ (o_this : os_T) (o_this_tokens : os_T) (x3 : Int32) (H : Heap) (locs : List Loc) (ls : Array Slot), va_P D vwCl (ce_X8 kA (zz 2) q_this q_this_tokens o_this ++ (ce_X10 kA q_this_tokens o_this_tokens)) H → va_D A (ce_X8 kA (zz 2) q_this q_this_tokens o_this ++ (ce_X10 kA q_this_tokens o_this_tokens)) → va_S A s.heap H locs → lv_has ls 5 [(0, .ref (q_this 0)), (3, .int x3)] → ff_X8_readCommand_v2_b143 N o_this o_this_tokens x3 = some out → W p l e ({ frames := 10, cells := 0, slots := 0, locals := 222 } : Room) s m [.ref (q_this 0), .int a1].toArray below meth c H locs 0 0 (vx_MQ below (mx_Q D kA A out.1 (some (.int out.2.1)) (ce_X8 kA (zz 2) q_this q_this_tokens out.2.2.1 ++ (ce_X10 kA q_this_tokens out.2.2.2))) (mx_X D kA A out.1 (ce_X8 kA (zz 2) q_this q_this_tokens out.2.2.1 ++ (ce_X10 kA q_this_tokens out.2.2.2))) [.ref (q_this 0), .int a1].toArray s 0 0 A) (F0 m 143 ls []) := by
    intro o_this o_this_tokens x3 H locs ls hP hD hS hl hf
    unfold ff_X8_readCommand_v2_b143 at hf
    refine lv_iconst (v := 0) hx hb dX8_readCommand_143 (by decide) ?_
    exact hB144 o_this o_this_tokens x3 (0 : Int32) _ _ _ hP hD hS (lv_sub hl [0, 1] rfl) hf
  have hB39 : ∀ (o_this : os_T) (o_this_tokens : os_T) (x1 : Int32) (x2 : Nat) (H : Heap) (locs : List Loc) (ls : Array Slot), va_P D vwCl (ce_X8 kA (zz 2) q_this q_this_tokens o_this ++ (ce_X10 kA q_this_tokens o_this_tokens)) H → va_D A (ce_X8 kA (zz 2) q_this q_this_tokens o_this ++ (ce_X10 kA q_this_tokens o_this_tokens)) → va_S A s.heap H locs → lv_has ls 5 [(0, .ref (q_this 0)), (1, .int x1), (2, .ref (zz 2 x2))] → ff_X8_readCommand_v2_b39 N o_this o_this_tokens x1 x2 = some out → W p l e ({ frames := 10, cells := 0, slots := 0, locals := 222 } : Room) s m [.ref (q_this 0), .int a1].toArray below meth c H locs 0 0 (vx_MQ below (mx_Q D kA A out.1 (some (.int out.2.1)) (ce_X8 kA (zz 2) q_this q_this_tokens out.2.2.1 ++ (ce_X10 kA q_this_tokens out.2.2.2))) (mx_X D kA A out.1 (ce_X8 kA (zz 2) q_this q_this_tokens out.2.2.1 ++ (ce_X10 kA q_this_tokens out.2.2.2))) [.ref (q_this 0), .int a1].toArray s 0 0 A) (F0 m 39 ls []) := by
    intro o_this o_this_tokens x1 x2 H locs ls hP hD hS hl hf
    unfold ff_X8_readCommand_v2_b39 at hf
    refine lv_aload_n hx hb dX8_readCommand_39 rfl (lv_at hl 0 rfl) ?_
    refine va_get (D := D) (ci := 5) (v := .int (os_I o_this 5)) (C := RX8) (T := TX8) (N := 7) hx hb hUX8 (fun _ h9 => h9) hown hK hP 0 rfl rfl 5 (by decide) (hts (Cond.fieldLink RX8 35 "ReliefBuilder$Script" "count" "I") (List.mem_of_getElem? (i := 3) rfl)) (fun _ h9 => h9) rfl dX8_readCommand_40 ?_
    obtain ⟨u_13, he_14, hf⟩ := os_bd hf
    refine mc_callS ⟨hx, hb, hml, hown, hts⟩ (mm_X8_isIndex l D kA N (os_I o_this 5) u_13 he_14) (va_cwS 1 hts gX8_readCommand_X8_isIndex rfl rfl rfl (by decide +kernel) ⟨Nat.le_of_ble_eq_true rfl, Nat.le_of_ble_eq_true rfl⟩) (wc := []) rfl hl.1 (As := [.int (os_I o_this 5)]) (rest := []) rfl (Nat.le_of_ble_eq_true rfl) dX8_readCommand_43 ⟨Nat.le_of_ble_eq_true rfl, Nat.le_of_ble_eq_true rfl⟩ hK hP hD hS hA [] [0, 1, 2, 3, 4, 5, 6, 7, 8, 9] [0, 1, 2, 3, 4, 5, 6, 7, 8, 9] rfl (by decide) rfl (by decide) (by decide) rfl (by decide) (wr := (ce_X8 kA (zz 2) q_this q_this_tokens o_this ++ (ce_X10 kA q_this_tokens o_this_tokens))) (w2 := (ce_X8 kA (zz 2) q_this q_this_tokens o_this ++ (ce_X10 kA q_this_tokens o_this_tokens))) (fun H locs hP hD hS => ?_)
    have hP : va_P D vwCl (ce_X8 kA (zz 2) q_this q_this_tokens o_this ++ (ce_X10 kA q_this_tokens o_this_tokens)) H := hP
    refine lv_if_ne (tgt := 58) hx hb dX8_readCommand_46 (by decide) (fun hc_15 => ?_) (fun hc_15 => ?_)
    · rw [if_neg hc_15] at hf
      refine lv_aload_n hx hb dX8_readCommand_58 rfl (lv_at hl 0 rfl) ?_
      refine va_get (D := D) (ci := 5) (v := .int (os_I o_this 5)) (C := RX8) (T := TX8) (N := 7) hx hb hUX8 (fun _ h9 => h9) hown hK hP 0 rfl rfl 5 (by decide) (hts (Cond.fieldLink RX8 35 "ReliefBuilder$Script" "count" "I") (List.mem_of_getElem? (i := 3) rfl)) (fun _ h9 => h9) rfl dX8_readCommand_59 ?_
      refine lv_istore_n (lv' := [(3, .int (os_I o_this 5)), (0, .ref (q_this 0)), (1, .int x1), (2, .ref (zz 2 x2))]) hx hb dX8_readCommand_62 rfl hl (by decide) rfl (fun ls hl => ?_)
      refine lv_aload_n hx hb dX8_readCommand_63 rfl (lv_at hl 1 rfl) ?_
      refine lv_dup hx hb dX8_readCommand_64 rfl ?_
      refine va_get (D := D) (ci := 5) (v := .int (os_I o_this 5)) (C := RX8) (T := TX8) (N := 7) hx hb hUX8 (fun _ h9 => h9) hown hK hP 0 rfl rfl 5 (by decide) (hts (Cond.fieldLink RX8 35 "ReliefBuilder$Script" "count" "I") (List.mem_of_getElem? (i := 3) rfl)) (fun _ h9 => h9) rfl dX8_readCommand_65 ?_
      refine lv_iconst (v := 1) hx hb dX8_readCommand_68 (by decide) ?_
      refine lv_iadd hx hb dX8_readCommand_69 ?_
      refine va_put (D := D) (ci := 5) (v := .int ((os_I o_this 5) + (1 : Int32))) (ty := .int) (C := RX8) (T := TX8) (N := 7) hx hb hUX8 (fun _ h9 => h9) tyX8 tyX8_ok nmX8 hown hK hP hD hS 0 rfl rfl 5 (by decide) (hts (Cond.fieldLink RX8 35 "ReliefBuilder$Script" "count" "I") (List.mem_of_getElem? (i := 3) rfl)) (fun _ h9 => h9) rfl (tyX8_ok 5 (by decide)) rfl rfl (Nat.le_of_ble_eq_true rfl) dX8_readCommand_70 (fun H locs hP hD hS => ?_)
      have hP : va_P D vwCl (ce_X8 kA (zz 2) q_this q_this_tokens (ss_I o_this 5 ((os_I o_this 5) + (1 : Int32))) ++ (ce_X10 kA q_this_tokens o_this_tokens)) H := hP
      have hD : va_D A (ce_X8 kA (zz 2) q_this q_this_tokens (ss_I o_this 5 ((os_I o_this 5) + (1 : Int32))) ++ (ce_X10 kA q_this_tokens o_this_tokens)) := hD
      refine lv_aload_n hx hb dX8_readCommand_73 rfl (lv_at hl 1 rfl) ?_
      refine va_get (D := D) (ci := 5) (v := .ref (q_this 1)) (C := RX8) (T := TX8) (N := 7) hx hb hUX8 (fun _ h9 => h9) hown hK hP 0 rfl rfl 1 (by decide) (hts (Cond.fieldLink RX8 13 "ReliefBuilder$Script" "commands" "[LReliefBuilder$Command;") (List.mem_of_getElem? (i := 4) rfl)) (fun _ h9 => h9) rfl dX8_readCommand_74 ?_
      refine lv_iload_n hx hb dX8_readCommand_77 rfl (lv_at hl 0 rfl) ?_
      refine lv_aload_n hx hb dX8_readCommand_78 rfl (lv_at hl 3 rfl) ?_
      obtain ⟨hi_16_k, hf⟩ := os_if hf
      obtain ⟨hi_16, hf⟩ := os_if hf
      refine vb_astq (C := RX1) hx hb hK hP hD hS 1 7 rfl rfl (va_Orecv (hZ.2.2.2.2.1 _ hi_16_k).2.1 hS) (fun _ _ h8 h9 => by cases h8.symm.trans h9; exact va_asg _ _) hi_16 dX8_readCommand_79 (fun H locs hP hD hS => ?_)
      rw [os_upR] at hP hD
      have hP : va_P D vwCl (ce_X8 kA (zz 2) q_this q_this_tokens (ss_I (ss_R o_this 0 (va_up (os_R o_this 0) (Int32.toNatClampNeg (os_I o_this 5)) (some x2))) 5 ((os_I o_this 5) + (1 : Int32))) ++ (ce_X10 kA q_this_tokens o_this_tokens)) H := hP
      have hD : va_D A (ce_X8 kA (zz 2) q_this q_this_tokens (ss_I (ss_R o_this 0 (va_up (os_R o_this 0) (Int32.toNatClampNeg (os_I o_this 5)) (some x2))) 5 ((os_I o_this 5) + (1 : Int32))) ++ (ce_X10 kA q_this_tokens o_this_tokens)) := hD
      refine lv_aload_n hx hb dX8_readCommand_80 rfl (lv_at hl 1 rfl) ?_
      refine va_get (D := D) (ci := 5) (v := .ref (q_this_tokens 0)) (C := RX8) (T := TX8) (N := 7) hx hb hUX8 (fun _ h9 => h9) hown hK hP 0 rfl rfl 0 (by decide) (hts (Cond.fieldLink RX8 27 "ReliefBuilder$Script" "tokens" "LReliefBuilder$Tokens;") (List.mem_of_getElem? (i := 1) rfl)) (fun _ h9 => h9) rfl dX8_readCommand_81 ?_
      obtain ⟨u_17, he_18, hf⟩ := os_bd hf
      refine mc_callV ⟨hx, hb, hml, hown, hts⟩ (mm_X10_advance l D kA N q_this_tokens o_this_tokens u_17 he_18) (cwV 0 hts gX8_readCommand_X10_advance rfl rfl rfl (by decide +kernel) ⟨Nat.le_of_ble_eq_true rfl, Nat.le_of_ble_eq_true rfl⟩) (wc := (ce_X10 kA q_this_tokens o_this_tokens)) (ci := 6) (q0 := 0) rfl rfl rfl hl.1 (As := []) (rest := []) rfl (Nat.le_of_ble_eq_true rfl) dX8_readCommand_84 ⟨Nat.le_of_ble_eq_true rfl, Nat.le_of_ble_eq_true rfl⟩ hK hP hD hS hA [5, 6, 7, 8, 9] [0, 1, 2, 3, 4] [0, 1, 2, 3, 4, 5, 6, 7, 8, 9] rfl (by decide) rfl (by decide) (by decide) rfl (by decide) (wr := (ce_X8 kA (zz 2) q_this q_this_tokens (ss_I (ss_R o_this 0 (va_up (os_R o_this 0) (Int32.toNatClampNeg (os_I o_this 5)) (some x2))) 5 ((os_I o_this 5) + (1 : Int32))))) (w2 := (ce_X8 kA (zz 2) q_this q_this_tokens (ss_I (ss_R o_this 0 (va_up (os_R o_this 0) (Int32.toNatClampNeg (os_I o_this 5)) (some x2))) 5 ((os_I o_this 5) + (1 : Int32))) ++ (ce_X10 kA q_this_tokens u_17))) (fun H locs hP hD hS => ?_)
      have hP : va_P D vwCl (ce_X8 kA (zz 2) q_this q_this_tokens (ss_I (ss_R o_this 0 (va_up (os_R o_this 0) (Int32.toNatClampNeg (os_I o_this 5)) (some x2))) 5 ((os_I o_this 5) + (1 : Int32))) ++ (ce_X10 kA q_this_tokens u_17)) H := hP
      refine lv_aload_n hx hb dX8_readCommand_87 rfl (lv_at hl 1 rfl) ?_
      refine lv_aload_n hx hb dX8_readCommand_88 rfl (lv_at hl 3 rfl) ?_
      refine lv_iload_n hx hb dX8_readCommand_89 rfl (lv_at hl 0 rfl) ?_
      obtain ⟨u_19, he_20, hf⟩ := os_bd hf
      refine mx_callV ⟨hx, hb, hml, hown, hts⟩ (mm_X8_readNumbers l hst zz D kA N q_this q_this_tokens (ss_I (ss_R o_this 0 (va_up (os_R o_this 0) (Int32.toNatClampNeg (os_I o_this 5)) (some x2))) 5 ((os_I o_this 5) + (1 : Int32))) u_17 x2 (os_I o_this 5) u_19 he_20) (cwV 2 hts gX8_readCommand_X8_readNumbers rfl rfl rfl (by decide +kernel) ⟨Nat.le_of_ble_eq_true rfl, Nat.le_of_ble_eq_true rfl⟩) (wc := (ce_X8 kA (zz 2) q_this q_this_tokens (ss_I (ss_R o_this 0 (va_up (os_R o_this 0) (Int32.toNatClampNeg (os_I o_this 5)) (some x2))) 5 ((os_I o_this 5) + (1 : Int32))) ++ (ce_X10 kA q_this_tokens u_17))) (ci := 5) (q0 := 0) rfl rfl rfl hl.1 (As := [.ref (zz 2 x2), .int (os_I o_this 5)]) (rest := []) rfl (Nat.le_of_ble_eq_true rfl) dX8_readCommand_90 ⟨Nat.le_of_ble_eq_true rfl, Nat.le_of_ble_eq_true rfl⟩ hK hP hD hS hA hZ [0, 1, 2, 3, 4, 5, 6, 7, 8, 9] [] [0, 1, 2, 3, 4, 5, 6, 7, 8, 9] rfl (by decide) rfl (by decide) (by decide) rfl (by decide) (wr := []) (w2 := (ce_X8 kA (zz 2) q_this q_this_tokens u_19.2.2.1 ++ (ce_X10 kA q_this_tokens u_19.2.2.2))) (fun hx9 H locs q9 ce hP hD hS h91 h92 h93 => ?_) (fun hx9 H locs hP hD hS => ?_)
      · rw [if_neg hx9] at hf
        rw [← Option.some.inj hf]
        exact mx_out hx9 hx0 hlk hP hK hD hS h91 h92 h93 (Nat.le_of_ble_eq_true rfl) (Nat.le_of_ble_eq_true rfl)
      · rw [if_pos hx9] at hf
        refine W.widen (k := 0) (n := 0) (Nat.le_of_ble_eq_true rfl) (Nat.le_of_ble_eq_true rfl) ?_
        have hP : va_P D vwCl (ce_X8 kA (zz 2) q_this q_this_tokens u_19.2.2.1 ++ (ce_X10 kA q_this_tokens u_19.2.2.2)) H := hP
        refine lv_if_ne (tgt := 98) hx hb dX8_readCommand_93 (by decide) (fun hc_21 => ?_) (fun hc_21 => ?_)
        · rw [if_neg hc_21] at hf
          refine lv_aload_n hx hb dX8_readCommand_98 rfl (lv_at hl 3 rfl) ?_
          refine va_gets hx hb (hZ.2.2.2.2.1 11 (by decide)).1 hS hown (hts (Cond.fieldLink RX8 54 "ReliefBuilder$Command" "REPEAT" "LReliefBuilder$Command;") (List.mem_of_getElem? (i := 2) rfl)) (fun _ h9 => h9) dX8_readCommand_99 ?_
          obtain ⟨hc_22_k, hf⟩ := os_if hf
          refine lv_acmp_ne (rx := (some (zz 2 x2))) (ry := (some (zz 2 11))) (tgt := 139) hx hb dX8_readCommand_102 (by decide) (fun hc_22_0 => ?_) (fun hc_22_0 => ?_)
          · have hc_22 : ¬ x2 = 11 := fun h9 => hc_22_0 (by rw [h9])
            rw [if_neg hc_22] at hf
            exact hB139 u_19.2.2.1 u_19.2.2.2 (os_I o_this 5) _ _ _ hP hD hS (lv_sub hl [1, 0] rfl) hf
          · have hc_22 : x2 = 11 := hZ.2.2.2.2.2.1 _ _ hc_22_k (by decide) (Option.some.inj hc_22_0)
            rw [if_pos hc_22] at hf
            refine lv_aload_n hx hb dX8_readCommand_105 rfl (lv_at hl 1 rfl) ?_
            refine va_get (D := D) (ci := 5) (v := .ref (q_this_tokens 0)) (C := RX8) (T := TX8) (N := 7) hx hb hUX8 (fun _ h9 => h9) hown hK hP 0 rfl rfl 0 (by decide) (hts (Cond.fieldLink RX8 27 "ReliefBuilder$Script" "tokens" "LReliefBuilder$Tokens;") (List.mem_of_getElem? (i := 1) rfl)) (fun _ h9 => h9) rfl dX8_readCommand_106 ?_
            refine lv_bipush (v := 40) hx hb dX8_readCommand_109 (by decide) ?_
            obtain ⟨u_23, he_24, hf⟩ := os_bd hf
            refine mc_callV ⟨hx, hb, hml, hown, hts⟩ (mm_X10_takeSign l D kA N q_this_tokens u_19.2.2.2 (40 : Int32) u_23 he_24) (cwV 1 hts gX8_readCommand_X10_takeSign rfl rfl rfl (by decide +kernel) ⟨Nat.le_of_ble_eq_true rfl, Nat.le_of_ble_eq_true rfl⟩) (wc := (ce_X10 kA q_this_tokens u_19.2.2.2)) (ci := 6) (q0 := 0) rfl rfl rfl hl.1 (As := [.int (40 : Int32)]) (rest := []) rfl (Nat.le_of_ble_eq_true rfl) dX8_readCommand_111 ⟨Nat.le_of_ble_eq_true rfl, Nat.le_of_ble_eq_true rfl⟩ hK hP hD hS hA [5, 6, 7, 8, 9] [0, 1, 2, 3, 4] [0, 1, 2, 3, 4, 5, 6, 7, 8, 9] rfl (by decide) rfl (by decide) (by decide) rfl (by decide) (wr := (ce_X8 kA (zz 2) q_this q_this_tokens u_19.2.2.1)) (w2 := (ce_X8 kA (zz 2) q_this q_this_tokens u_19.2.2.1 ++ (ce_X10 kA q_this_tokens u_23.2))) (fun H locs hP hD hS => ?_)
            have hP : va_P D vwCl (ce_X8 kA (zz 2) q_this q_this_tokens u_19.2.2.1 ++ (ce_X10 kA q_this_tokens u_23.2)) H := hP
            refine lv_if_eq (tgt := 143) hx hb dX8_readCommand_114 (by decide) (fun hc_25 => ?_) (fun hc_25 => ?_)
            · rw [if_pos hc_25] at hf
              exact hB143 u_19.2.2.1 u_23.2 (os_I o_this 5) _ _ _ hP hD hS (lv_sub hl [1, 0] rfl) hf
            · rw [if_neg hc_25] at hf
              refine lv_aload_n hx hb dX8_readCommand_117 rfl (lv_at hl 1 rfl) ?_
              refine lv_iload_n hx hb dX8_readCommand_118 rfl (lv_at hl 2 rfl) ?_
              refine lv_iconst (v := 1) hx hb dX8_readCommand_119 (by decide) ?_
              refine lv_iadd hx hb dX8_readCommand_120 ?_
              obtain ⟨u_26, he_27, hf⟩ := os_bd hf
              refine mx_callV ⟨hx, hb, hml, hown, hts⟩ (mm_X8_readCommands_v1 l hst zz D kA N q_this q_this_tokens u_19.2.2.1 u_23.2 (x1 + (1 : Int32)) u_26 he_27) (cwV 1 hts gX8_readCommand_X8_readCommands rfl rfl rfl (by decide +kernel) ⟨Nat.le_of_ble_eq_true rfl, Nat.le_of_ble_eq_true rfl⟩) (wc := (ce_X8 kA (zz 2) q_this q_this_tokens u_19.2.2.1 ++ (ce_X10 kA q_this_tokens u_23.2))) (ci := 5) (q0 := 0) rfl rfl rfl hl.1 (As := [.int (x1 + (1 : Int32))]) (rest := []) rfl (Nat.le_of_ble_eq_true rfl) dX8_readCommand_121 ⟨Nat.le_of_ble_eq_true rfl, Nat.le_of_ble_eq_true rfl⟩ hK hP hD hS hA hZ [0, 1, 2, 3, 4, 5, 6, 7, 8, 9] [] [0, 1, 2, 3, 4, 5, 6, 7, 8, 9] rfl (by decide) rfl (by decide) (by decide) rfl (by decide) (wr := []) (w2 := (ce_X8 kA (zz 2) q_this q_this_tokens u_26.2.2.1 ++ (ce_X10 kA q_this_tokens u_26.2.2.2))) (fun hx9 H locs q9 ce hP hD hS h91 h92 h93 => ?_) (fun hx9 H locs hP hD hS => ?_)
              · rw [if_neg hx9] at hf
                rw [← Option.some.inj hf]
                exact mx_out hx9 hx0 hlk hP hK hD hS h91 h92 h93 (Nat.le_of_ble_eq_true rfl) (Nat.le_of_ble_eq_true rfl)
              · rw [if_pos hx9] at hf
                refine W.widen (k := 0) (n := 0) (Nat.le_of_ble_eq_true rfl) (Nat.le_of_ble_eq_true rfl) ?_
                have hP : va_P D vwCl (ce_X8 kA (zz 2) q_this q_this_tokens u_26.2.2.1 ++ (ce_X10 kA q_this_tokens u_26.2.2.2)) H := hP
                refine lv_if_eq (tgt := 143) hx hb dX8_readCommand_124 (by decide) (fun hc_28 => ?_) (fun hc_28 => ?_)
                · rw [if_pos hc_28] at hf
                  exact hB143 u_26.2.2.1 u_26.2.2.2 (os_I o_this 5) _ _ _ hP hD hS (lv_sub hl [1, 0] rfl) hf
                · rw [if_neg hc_28] at hf
                  refine lv_aload_n hx hb dX8_readCommand_127 rfl (lv_at hl 1 rfl) ?_
                  refine va_get (D := D) (ci := 5) (v := .ref (q_this_tokens 0)) (C := RX8) (T := TX8) (N := 7) hx hb hUX8 (fun _ h9 => h9) hown hK hP 0 rfl rfl 0 (by decide) (hts (Cond.fieldLink RX8 27 "ReliefBuilder$Script" "tokens" "LReliefBuilder$Tokens;") (List.mem_of_getElem? (i := 1) rfl)) (fun _ h9 => h9) rfl dX8_readCommand_128 ?_
                  refine lv_bipush (v := 41) hx hb dX8_readCommand_131 (by decide) ?_
                  obtain ⟨u_29, he_30, hf⟩ := os_bd hf
                  refine mc_callV ⟨hx, hb, hml, hown, hts⟩ (mm_X10_takeSign l D kA N q_this_tokens u_26.2.2.2 (41 : Int32) u_29 he_30) (cwV 1 hts gX8_readCommand_X10_takeSign rfl rfl rfl (by decide +kernel) ⟨Nat.le_of_ble_eq_true rfl, Nat.le_of_ble_eq_true rfl⟩) (wc := (ce_X10 kA q_this_tokens u_26.2.2.2)) (ci := 6) (q0 := 0) rfl rfl rfl hl.1 (As := [.int (41 : Int32)]) (rest := []) rfl (Nat.le_of_ble_eq_true rfl) dX8_readCommand_133 ⟨Nat.le_of_ble_eq_true rfl, Nat.le_of_ble_eq_true rfl⟩ hK hP hD hS hA [5, 6, 7, 8, 9] [0, 1, 2, 3, 4] [0, 1, 2, 3, 4, 5, 6, 7, 8, 9] rfl (by decide) rfl (by decide) (by decide) rfl (by decide) (wr := (ce_X8 kA (zz 2) q_this q_this_tokens u_26.2.2.1)) (w2 := (ce_X8 kA (zz 2) q_this q_this_tokens u_26.2.2.1 ++ (ce_X10 kA q_this_tokens u_29.2))) (fun H locs hP hD hS => ?_)
                  have hP : va_P D vwCl (ce_X8 kA (zz 2) q_this q_this_tokens u_26.2.2.1 ++ (ce_X10 kA q_this_tokens u_29.2)) H := hP
                  refine lv_if_eq (tgt := 143) hx hb dX8_readCommand_136 (by decide) (fun hc_31 => ?_) (fun hc_31 => ?_)
                  · rw [if_pos hc_31] at hf
                    exact hB143 u_26.2.2.1 u_29.2 (os_I o_this 5) _ _ _ hP hD hS (lv_sub hl [1, 0] rfl) hf
                  · rw [if_neg hc_31] at hf
                    exact hB139 u_26.2.2.1 u_29.2 (os_I o_this 5) _ _ _ hP hD hS (lv_sub hl [1, 0] rfl) hf
        · rw [if_pos hc_21] at hf
          refine lv_iconst (v := 0) hx hb dX8_readCommand_96 (by decide) ?_
          rw [← Option.some.inj hf]
          exact mx_retz (v := 0) (Nat.le_of_ble_eq_true rfl) (Nat.le_of_ble_eq_true rfl) hx hb hr rfl hlk hP hK hD hS dX8_readCommand_97
    · rw [if_pos hc_15] at hf
      refine lv_aload_n hx hb dX8_readCommand_49 rfl (lv_at hl 0 rfl) ?_
      refine va_get (D := D) (ci := 5) (v := .ref (q_this_tokens 0)) (C := RX8) (T := TX8) (N := 7) hx hb hUX8 (fun _ h9 => h9) hown hK hP 0 rfl rfl 0 (by decide) (hts (Cond.fieldLink RX8 27 "ReliefBuilder$Script" "tokens" "LReliefBuilder$Tokens;") (List.mem_of_getElem? (i := 1) rfl)) (fun _ h9 => h9) rfl dX8_readCommand_50 ?_
      refine lv_iconst (v := 5) hx hb dX8_readCommand_53 (by decide) ?_
      obtain ⟨u_32, he_33, hf⟩ := os_bd hf
      refine mc_callV ⟨hx, hb, hml, hown, hts⟩ (mm_X10_fail l D kA N q_this_tokens o_this_tokens (5 : Int32) u_32 he_33) (cwV 1 hts gX8_readCommand_X10_fail rfl rfl rfl (by decide +kernel) ⟨Nat.le_of_ble_eq_true rfl, Nat.le_of_ble_eq_true rfl⟩) (wc := (ce_X10 kA q_this_tokens o_this_tokens)) (ci := 6) (q0 := 0) rfl rfl rfl hl.1 (As := [.int (5 : Int32)]) (rest := []) rfl (Nat.le_of_ble_eq_true rfl) dX8_readCommand_54 ⟨Nat.le_of_ble_eq_true rfl, Nat.le_of_ble_eq_true rfl⟩ hK hP hD hS hA [5, 6, 7, 8, 9] [0, 1, 2, 3, 4] [0, 1, 2, 3, 4, 5, 6, 7, 8, 9] rfl (by decide) rfl (by decide) (by decide) rfl (by decide) (wr := (ce_X8 kA (zz 2) q_this q_this_tokens o_this)) (w2 := (ce_X8 kA (zz 2) q_this q_this_tokens o_this ++ (ce_X10 kA q_this_tokens u_32.2))) (fun H locs hP hD hS => ?_)
      have hP : va_P D vwCl (ce_X8 kA (zz 2) q_this q_this_tokens o_this ++ (ce_X10 kA q_this_tokens u_32.2)) H := hP
      obtain ⟨hz_34, hf⟩ := os_if hf
      rw [← Option.some.inj hf]
      exact mx_retz (Nat.le_of_ble_eq_true rfl) (Nat.le_of_ble_eq_true rfl) hx hb hr (os_z_n hz_34) hlk hP hK hD hS dX8_readCommand_57
  unfold ff_X8_readCommand_v2 at hf
  refine lv_aload_n hx hb dX8_readCommand_0 rfl (lv_at hl 0 rfl) ?_
  obtain ⟨u_1, he_2, hf⟩ := os_bd hf
  refine mx_callV ⟨hx, hb, hml, hown, hts⟩ (mm_X8_presentCommand l hst zz D kA N q_this q_this_tokens o_this o_this_tokens u_1 he_2) (cwV 0 hts gX8_readCommand_X8_presentCommand rfl rfl rfl (by decide +kernel) ⟨Nat.le_of_ble_eq_true rfl, Nat.le_of_ble_eq_true rfl⟩) (wc := (ce_X8 kA (zz 2) q_this q_this_tokens o_this ++ (ce_X10 kA q_this_tokens o_this_tokens))) (ci := 5) (q0 := 0) rfl rfl rfl hl.1 (As := []) (rest := []) rfl (Nat.le_of_ble_eq_true rfl) dX8_readCommand_1 ⟨Nat.le_of_ble_eq_true rfl, Nat.le_of_ble_eq_true rfl⟩ hK hP hD hS hA hZ [0, 1, 2, 3, 4, 5, 6, 7, 8, 9] [] [0, 1, 2, 3, 4, 5, 6, 7, 8, 9] rfl (by decide) rfl (by decide) (by decide) rfl (by decide) (wr := []) (w2 := (ce_X8 kA (zz 2) q_this q_this_tokens o_this ++ (ce_X10 kA q_this_tokens o_this_tokens))) (fun hx9 H locs q9 ce hP hD hS h91 h92 h93 => ?_) (fun hx9 H locs hP hD hS => ?_)
  · rw [if_neg hx9] at hf
    rw [← Option.some.inj hf]
    exact mx_out hx9 hx0 hlk hP hK hD hS h91 h92 h93 (Nat.le_of_ble_eq_true rfl) (Nat.le_of_ble_eq_true rfl)
  · rw [if_pos hx9] at hf
    refine W.widen (k := 0) (n := 0) (Nat.le_of_ble_eq_true rfl) (Nat.le_of_ble_eq_true rfl) ?_
    have hP : va_P D vwCl (ce_X8 kA (zz 2) q_this q_this_tokens o_this ++ (ce_X10 kA q_this_tokens o_this_tokens)) H := hP
    rcases os_op hf with ⟨he_3, hf⟩ | ⟨c_4, he_3, hf⟩
    · rw [he_3]
      refine W.eq (g2 := F0 m 4 ls [.null]) rfl ?_
      refine lv_astore_nN (lv' := [(2, .null), (0, .ref (q_this 0)), (1, .int a1)]) hx hb dX8_readCommand_4 rfl hl (by decide) rfl (fun ls hl => ?_)
      refine lv_aload_nN hx hb dX8_readCommand_5 rfl (lv_at hl 0 rfl) ?_
      refine lv_ifnonnullN hx hb dX8_readCommand_6 ?_
      refine lv_aload_n hx hb dX8_readCommand_9 rfl (lv_at hl 1 rfl) ?_
      refine va_get (D := D) (ci := 5) (v := .ref (q_this_tokens 0)) (C := RX8) (T := TX8) (N := 7) hx hb hUX8 (fun _ h9 => h9) hown hK hP 0 rfl rfl 0 (by decide) (hts (Cond.fieldLink RX8 27 "ReliefBuilder$Script" "tokens" "LReliefBuilder$Tokens;") (List.mem_of_getElem? (i := 1) rfl)) (fun _ h9 => h9) rfl dX8_readCommand_10 ?_
      refine lv_iconst (v := 1) hx hb dX8_readCommand_13 (by decide) ?_
      obtain ⟨u_5, he_6, hf⟩ := os_bd hf
      refine mc_callV ⟨hx, hb, hml, hown, hts⟩ (mm_X10_fail l D kA N q_this_tokens o_this_tokens (1 : Int32) u_5 he_6) (cwV 1 hts gX8_readCommand_X10_fail rfl rfl rfl (by decide +kernel) ⟨Nat.le_of_ble_eq_true rfl, Nat.le_of_ble_eq_true rfl⟩) (wc := (ce_X10 kA q_this_tokens o_this_tokens)) (ci := 6) (q0 := 0) rfl rfl rfl hl.1 (As := [.int (1 : Int32)]) (rest := []) rfl (Nat.le_of_ble_eq_true rfl) dX8_readCommand_14 ⟨Nat.le_of_ble_eq_true rfl, Nat.le_of_ble_eq_true rfl⟩ hK hP hD hS hA [5, 6, 7, 8, 9] [0, 1, 2, 3, 4] [0, 1, 2, 3, 4, 5, 6, 7, 8, 9] rfl (by decide) rfl (by decide) (by decide) rfl (by decide) (wr := (ce_X8 kA (zz 2) q_this q_this_tokens o_this)) (w2 := (ce_X8 kA (zz 2) q_this q_this_tokens o_this ++ (ce_X10 kA q_this_tokens u_5.2))) (fun H locs hP hD hS => ?_)
      have hP : va_P D vwCl (ce_X8 kA (zz 2) q_this q_this_tokens o_this ++ (ce_X10 kA q_this_tokens u_5.2)) H := hP
      obtain ⟨hz_7, hf⟩ := os_if hf
      rw [← Option.some.inj hf]
      exact mx_retz (Nat.le_of_ble_eq_true rfl) (Nat.le_of_ble_eq_true rfl) hx hb hr (os_z_n hz_7) hlk hP hK hD hS dX8_readCommand_17
    · rw [he_3]
      refine W.eq (g2 := F0 m 4 ls [.ref (zz 2 c_4)]) rfl ?_
      refine lv_astore_n (lv' := [(2, .ref (zz 2 c_4)), (0, .ref (q_this 0)), (1, .int a1)]) hx hb dX8_readCommand_4 rfl hl (by decide) rfl (fun ls hl => ?_)
      refine lv_aload_n hx hb dX8_readCommand_5 rfl (lv_at hl 0 rfl) ?_
      refine lv_ifnonnull (tgt := 18) hx hb dX8_readCommand_6 (by decide) ?_
      refine lv_aload_n hx hb dX8_readCommand_18 rfl (lv_at hl 0 rfl) ?_
      refine va_gets hx hb (hZ.2.2.2.2.1 11 (by decide)).1 hS hown (hts (Cond.fieldLink RX8 54 "ReliefBuilder$Command" "REPEAT" "LReliefBuilder$Command;") (List.mem_of_getElem? (i := 2) rfl)) (fun _ h9 => h9) dX8_readCommand_19 ?_
      obtain ⟨hc_8_k, hf⟩ := os_if hf
      refine lv_acmp_ne (rx := (some (zz 2 c_4))) (ry := (some (zz 2 11))) (tgt := 39) hx hb dX8_readCommand_22 (by decide) (fun hc_8_0 => ?_) (fun hc_8_0 => ?_)
      · have hc_8 : ¬ c_4 = 11 := fun h9 => hc_8_0 (by rw [h9])
        rw [if_neg hc_8] at hf
        exact hB39 o_this o_this_tokens a1 c_4 _ _ _ hP hD hS (lv_sub hl [1, 2, 0] rfl) hf
      · have hc_8 : c_4 = 11 := hZ.2.2.2.2.2.1 _ _ hc_8_k (by decide) (Option.some.inj hc_8_0)
        rw [if_pos hc_8] at hf
        refine lv_iload_n hx hb dX8_readCommand_25 rfl (lv_at hl 2 rfl) ?_
        refine lv_iconst (v := 2) hx hb dX8_readCommand_26 (by decide) ?_
        refine lv_icmp_lt (tgt := 39) hx hb dX8_readCommand_27 (by decide) (fun hc_9 => ?_) (fun hc_9 => ?_)
        · rw [if_pos hc_9] at hf
          exact hB39 o_this o_this_tokens a1 c_4 _ _ _ hP hD hS (lv_sub hl [1, 2, 0] rfl) hf
        · rw [if_neg hc_9] at hf
          refine lv_aload_n hx hb dX8_readCommand_30 rfl (lv_at hl 1 rfl) ?_
          refine va_get (D := D) (ci := 5) (v := .ref (q_this_tokens 0)) (C := RX8) (T := TX8) (N := 7) hx hb hUX8 (fun _ h9 => h9) hown hK hP 0 rfl rfl 0 (by decide) (hts (Cond.fieldLink RX8 27 "ReliefBuilder$Script" "tokens" "LReliefBuilder$Tokens;") (List.mem_of_getElem? (i := 1) rfl)) (fun _ h9 => h9) rfl dX8_readCommand_31 ?_
          refine lv_iconst (v := 3) hx hb dX8_readCommand_34 (by decide) ?_
          obtain ⟨u_10, he_11, hf⟩ := os_bd hf
          refine mc_callV ⟨hx, hb, hml, hown, hts⟩ (mm_X10_fail l D kA N q_this_tokens o_this_tokens (3 : Int32) u_10 he_11) (cwV 1 hts gX8_readCommand_X10_fail rfl rfl rfl (by decide +kernel) ⟨Nat.le_of_ble_eq_true rfl, Nat.le_of_ble_eq_true rfl⟩) (wc := (ce_X10 kA q_this_tokens o_this_tokens)) (ci := 6) (q0 := 0) rfl rfl rfl hl.1 (As := [.int (3 : Int32)]) (rest := []) rfl (Nat.le_of_ble_eq_true rfl) dX8_readCommand_35 ⟨Nat.le_of_ble_eq_true rfl, Nat.le_of_ble_eq_true rfl⟩ hK hP hD hS hA [5, 6, 7, 8, 9] [0, 1, 2, 3, 4] [0, 1, 2, 3, 4, 5, 6, 7, 8, 9] rfl (by decide) rfl (by decide) (by decide) rfl (by decide) (wr := (ce_X8 kA (zz 2) q_this q_this_tokens o_this)) (w2 := (ce_X8 kA (zz 2) q_this q_this_tokens o_this ++ (ce_X10 kA q_this_tokens u_10.2))) (fun H locs hP hD hS => ?_)
          have hP : va_P D vwCl (ce_X8 kA (zz 2) q_this q_this_tokens o_this ++ (ce_X10 kA q_this_tokens u_10.2)) H := hP
          obtain ⟨hz_12, hf⟩ := os_if hf
          rw [← Option.some.inj hf]
          exact mx_retz (Nat.le_of_ble_eq_true rfl) (Nat.le_of_ble_eq_true rfl) hx hb hr (os_z_n hz_12) hlk hP hK hD hS dX8_readCommand_38
def ff_X8_readCommands_v2_b32 (N : Nat) (k2 : (os_T × os_T × Int32 × Int32) → Option (Nat × Int32 × os_T × os_T)) (o_this : os_T) (o_this_tokens : os_T) (x1 : Int32) (x2 : Int32) (t0 : Int32) : Option (Nat × Int32 × os_T × os_T) :=
  (if t0 = 0 then ((ff_X8_readCommand_v2 N o_this o_this_tokens x1).bind fun u_11 => (if u_11.1 = 0 then (if u_11.2.1 = 0 then some (0, (0 : Int32), u_11.2.2.1, u_11.2.2.2) else k2 (u_11.2.2.1, u_11.2.2.2, x1, x2 + 1)) else some (u_11.1, (0 : Int32), u_11.2.2.1, u_11.2.2.2))) else some (0, (1 : Int32), o_this, o_this_tokens))
def ff_X8_readCommands_v2_c2 (N : Nat) (k2 : (os_T × os_T × Int32 × Int32) → Option (Nat × Int32 × os_T × os_T)) (o_this : os_T) (o_this_tokens : os_T) (x1 : Int32) (x2 : Int32) : Option (Nat × Int32 × os_T × os_T) :=
  (if (900 : Int32) ≤ x2 then ((ff_X10_fail N o_this_tokens (1 : Int32)).bind fun u_2 => (if os_z u_2.1 then some (0, u_2.1, o_this, u_2.2) else none)) else (if x1 = 0 then ((ff_X10_isAtEnd N o_this_tokens).bind fun u_8 => ff_X8_readCommands_v2_b32 N k2 o_this o_this_tokens x1 x2 u_8) else ((ff_X10_isSign N o_this_tokens (41 : Int32)).bind fun u_6 => ff_X8_readCommands_v2_b32 N k2 o_this o_this_tokens x1 x2 u_6)))
def ff_X8_readCommands_v2_l2 (N : Nat) : Nat → (os_T × os_T × Int32 × Int32) → Option (Nat × Int32 × os_T × os_T) := os_loop (fun k2 s1 => ff_X8_readCommands_v2_c2 N k2 s1.1 s1.2.1 s1.2.2.1 s1.2.2.2)
def ff_X8_readCommands_v2 (N : Nat) (o_this : os_T) (o_this_tokens : os_T) (a1 : Int32) : Option (Nat × Int32 × os_T × os_T) :=
  ff_X8_readCommands_v2_l2 N N (o_this, o_this_tokens, a1, (0 : Int32))
set_option maxHeartbeats 4000000 in
set_option maxRecDepth 100000 in
theorem mm_X8_readCommands_v2 (l : Launch) (hst : l.stackTraces = false) (zz : Nat → Nat → Nat) (D : va_G) (kA : Nat → ClassId) (N : Nat) (q_this : Nat → Nat) (q_this_tokens : Nat → Nat) (o_this : os_T) (o_this_tokens : os_T) (a1 : Int32) (out : (Nat × Int32 × os_T × os_T)) (hf : ff_X8_readCommands_v2 N o_this o_this_tokens a1 = some out) : mx_C l zz D kA yX8_readCommands wsX8_readCommands ({ frames := 11, cells := 0, slots := 0, locals := 246 } : Room) [.ref (q_this 0), .int a1] (ce_X8 kA (zz 2) q_this q_this_tokens o_this ++ (ce_X10 kA q_this_tokens o_this_tokens)) out.1 (some (.int out.2.1)) (ce_X8 kA (zz 2) q_this q_this_tokens out.2.2.1 ++ (ce_X10 kA q_this_tokens out.2.2.2)) := by
  refine mx_of (cc := cX8_readCommands) (maxL := 4) (ret := (some .boolean)) (by decide) rfl (Nat.le_of_ble_eq_true rfl) ?_
  intro p e s m below meth c A B hx0 hZ hD hP hS ls hl
  obtain ⟨hx, hb, hr, hlk, hml, hown, hts, hK, hA, hnm⟩ := B
  have hown : s.vm.findClass RX8 = some m.cls := hown
  have hl : lv_has ls 4 [(0, .ref (q_this 0)), (1, .int a1)] := hl
  have hUX8 : ∀ w ∈ u_ws RX8 TX8 7, w.before [.ref (q_this 0), .int a1].toArray s = true := fun w h => hts w (List.mem_cons_of_mem _ (List.mem_append_left _ (List.mem_append_right _ h)))
  have hB32 : ∀ (k2 : (os_T × os_T × Int32 × Int32) → Option (Nat × Int32 × os_T × os_T)), (∀ (o_this : os_T) (o_this_tokens : os_T) (x1 : Int32) (x2 : Int32) (H : Heap) (locs : List Loc) (ls : Array Slot), va_P D vwCl (ce_X8 kA (zz 2) q_this q_this_tokens o_this ++ (ce_X10 kA q_this_tokens o_this_tokens)) H → va_D A (ce_X8 kA (zz 2) q_this q_this_tokens o_this ++ (ce_X10 kA q_this_tokens o_this_tokens)) → va_S A s.heap H locs → lv_has ls 4 [(0, .ref (q_this 0)), (1, .int x1), (2, .int x2)] → k2 (o_this, o_this_tokens, x1, x2) = some out → W p l e ({ frames := 11, cells := 0, slots := 0, locals := 246 } : Room) s m [.ref (q_this 0), .int a1].toArray below meth c H locs 0 0 (vx_MQ below (mx_Q D kA A out.1 (some (.int out.2.1)) (ce_X8 kA (zz 2) q_this q_this_tokens out.2.2.1 ++ (ce_X10 kA q_this_tokens out.2.2.2))) (mx_X D kA A out.1 (ce_X8 kA (zz 2) q_this q_this_tokens out.2.2.1 ++ (ce_X10 kA q_this_tokens out.2.2.2))) [.ref (q_this 0), .int a1].toArray s 0 0 A) (F0 m 2 ls [])) → ∀ (o_this : os_T) (o_this_tokens : os_T) (x1 : Int32) (x2 : Int32) (t0 : Int32) (H : Heap) (locs : List Loc) (ls : Array Slot), va_P D vwCl (ce_X8 kA (zz 2) q_this q_this_tokens o_this ++ (ce_X10 kA q_this_tokens o_this_tokens)) H → va_D A (ce_X8 kA (zz 2) q_this q_this_tokens o_this ++ (ce_X10 kA q_this_tokens o_this_tokens)) → va_S A s.heap H locs → lv_has ls 4 [(0, .ref (q_this 0)), (1, .int x1), (2, .int x2)] → ff_X8_readCommands_v2_b32 N k2 o_this o_this_tokens x1 x2 t0 = some out → W p l e ({ frames := 11, cells := 0, slots := 0, locals := 246 } : Room) s m [.ref (q_this 0), .int a1].toArray below meth c H locs 0 0 (vx_MQ below (mx_Q D kA A out.1 (some (.int out.2.1)) (ce_X8 kA (zz 2) q_this q_this_tokens out.2.2.1 ++ (ce_X10 kA q_this_tokens out.2.2.2))) (mx_X D kA A out.1 (ce_X8 kA (zz 2) q_this q_this_tokens out.2.2.1 ++ (ce_X10 kA q_this_tokens out.2.2.2))) [.ref (q_this 0), .int a1].toArray s 0 0 A) (F0 m 32 ls [.int t0]) := by
    intro k2 hk2 o_this o_this_tokens x1 x2 t0 H locs ls hP hD hS hl hf
    unfold ff_X8_readCommands_v2_b32 at hf
    refine lv_istore_n (lv' := [(3, .int t0), (0, .ref (q_this 0)), (1, .int x1), (2, .int x2)]) hx hb dX8_readCommands_32 rfl hl (by decide) rfl (fun ls hl => ?_)
    refine lv_iload_n hx hb dX8_readCommands_33 rfl (lv_at hl 0 rfl) ?_
    refine lv_if_eq (tgt := 39) hx hb dX8_readCommands_34 (by decide) (fun hc_10 => ?_) (fun hc_10 => ?_)
    · rw [if_pos hc_10] at hf
      refine lv_aload_n hx hb dX8_readCommands_39 rfl (lv_at hl 1 rfl) ?_
      refine lv_iload_n hx hb dX8_readCommands_40 rfl (lv_at hl 2 rfl) ?_
      obtain ⟨u_11, he_12, hf⟩ := os_bd hf
      refine mx_callV ⟨hx, hb, hml, hown, hts⟩ (mm_X8_readCommand_v2 l hst zz D kA N q_this q_this_tokens o_this o_this_tokens x1 u_11 he_12) (cwV 1 hts gX8_readCommands_X8_readCommand rfl rfl rfl (by decide +kernel) ⟨Nat.le_of_ble_eq_true rfl, Nat.le_of_ble_eq_true rfl⟩) (wc := (ce_X8 kA (zz 2) q_this q_this_tokens o_this ++ (ce_X10 kA q_this_tokens o_this_tokens))) (ci := 5) (q0 := 0) rfl rfl rfl hl.1 (As := [.int x1]) (rest := []) rfl (Nat.le_of_ble_eq_true rfl) dX8_readCommands_41 ⟨Nat.le_of_ble_eq_true rfl, Nat.le_of_ble_eq_true rfl⟩ hK hP hD hS hA hZ [0, 1, 2, 3, 4, 5, 6, 7, 8, 9] [] [0, 1, 2, 3, 4, 5, 6, 7, 8, 9] rfl (by decide) rfl (by decide) (by decide) rfl (by decide) (wr := []) (w2 := (ce_X8 kA (zz 2) q_this q_this_tokens u_11.2.2.1 ++ (ce_X10 kA q_this_tokens u_11.2.2.2))) (fun hx9 H locs q9 ce hP hD hS h91 h92 h93 => ?_) (fun hx9 H locs hP hD hS => ?_)
      · rw [if_neg hx9] at hf
        rw [← Option.some.inj hf]
        exact mx_out hx9 hx0 hlk hP hK hD hS h91 h92 h93 (Nat.le_of_ble_eq_true rfl) (Nat.le_of_ble_eq_true rfl)
      · rw [if_pos hx9] at hf
        refine W.widen (k := 0) (n := 0) (Nat.le_of_ble_eq_true rfl) (Nat.le_of_ble_eq_true rfl) ?_
        have hP : va_P D vwCl (ce_X8 kA (zz 2) q_this q_this_tokens u_11.2.2.1 ++ (ce_X10 kA q_this_tokens u_11.2.2.2)) H := hP
        refine lv_if_ne (tgt := 49) hx hb dX8_readCommands_44 (by decide) (fun hc_13 => ?_) (fun hc_13 => ?_)
        · rw [if_neg hc_13] at hf
          refine lv_iinc (v := x2 + 1) (lv' := [(2, .int (x2 + 1)), (3, .int t0), (0, .ref (q_this 0)), (1, .int x1)]) hx hb dX8_readCommands_49 hl (k := 3) rfl rfl (by decide) rfl (fun ls hl => ?_)
          refine lv_goto (tgt := 2) hx hb dX8_readCommands_52 (by decide) ?_
          exact hk2 u_11.2.2.1 u_11.2.2.2 x1 (x2 + 1) _ _ _ hP hD hS (lv_sub hl [2, 3, 0] rfl) hf
        · rw [if_pos hc_13] at hf
          refine lv_iconst (v := 0) hx hb dX8_readCommands_47 (by decide) ?_
          rw [← Option.some.inj hf]
          exact mx_retz (v := 0) (Nat.le_of_ble_eq_true rfl) (Nat.le_of_ble_eq_true rfl) hx hb hr rfl hlk hP hK hD hS dX8_readCommands_48
    · rw [if_neg hc_10] at hf
      refine lv_iconst (v := 1) hx hb dX8_readCommands_37 (by decide) ?_
      rw [← Option.some.inj hf]
      exact mx_retz (v := 1) (Nat.le_of_ble_eq_true rfl) (Nat.le_of_ble_eq_true rfl) hx hb hr rfl hlk hP hK hD hS dX8_readCommands_38
  have hL2 : ∀ (n : Nat) (o_this : os_T) (o_this_tokens : os_T) (x1 : Int32) (x2 : Int32) (H : Heap) (locs : List Loc) (ls : Array Slot), va_P D vwCl (ce_X8 kA (zz 2) q_this q_this_tokens o_this ++ (ce_X10 kA q_this_tokens o_this_tokens)) H → va_D A (ce_X8 kA (zz 2) q_this q_this_tokens o_this ++ (ce_X10 kA q_this_tokens o_this_tokens)) → va_S A s.heap H locs → lv_has ls 4 [(0, .ref (q_this 0)), (1, .int x1), (2, .int x2)] → ff_X8_readCommands_v2_l2 N n (o_this, o_this_tokens, x1, x2) = some out → W p l e ({ frames := 11, cells := 0, slots := 0, locals := 246 } : Room) s m [.ref (q_this 0), .int a1].toArray below meth c H locs 0 0 (vx_MQ below (mx_Q D kA A out.1 (some (.int out.2.1)) (ce_X8 kA (zz 2) q_this q_this_tokens out.2.2.1 ++ (ce_X10 kA q_this_tokens out.2.2.2))) (mx_X D kA A out.1 (ce_X8 kA (zz 2) q_this q_this_tokens out.2.2.1 ++ (ce_X10 kA q_this_tokens out.2.2.2))) [.ref (q_this 0), .int a1].toArray s 0 0 A) (F0 m 2 ls []) := by
    intro n
    induction n with
    | zero => intro o_this o_this_tokens x1 x2 H locs ls _ _ _ _ hf; cases hf
    | succ n hk2 =>
      intro o_this o_this_tokens x1 x2 H locs ls hP hD hS hl hf
      have hf : ff_X8_readCommands_v2_c2 N (ff_X8_readCommands_v2_l2 N n) o_this o_this_tokens x1 x2 = some out := hf
      generalize hke : ff_X8_readCommands_v2_l2 N n = k2 at hk2 hf
      unfold ff_X8_readCommands_v2_c2 at hf
      refine lv_iload_n hx hb dX8_readCommands_2 rfl (lv_at hl 2 rfl) ?_
      refine lv_sipush (v := 900) hx hb dX8_readCommands_3 (by decide) ?_
      refine lv_icmp_ge (tgt := 55) hx hb dX8_readCommands_6 (by decide) (fun hc_1 => ?_) (fun hc_1 => ?_)
      · rw [if_pos hc_1] at hf
        refine lv_aload_n hx hb dX8_readCommands_55 rfl (lv_at hl 0 rfl) ?_
        refine va_get (D := D) (ci := 5) (v := .ref (q_this_tokens 0)) (C := RX8) (T := TX8) (N := 7) hx hb hUX8 (fun _ h9 => h9) hown hK hP 0 rfl rfl 0 (by decide) (hts (Cond.fieldLink RX8 27 "ReliefBuilder$Script" "tokens" "LReliefBuilder$Tokens;") (List.mem_of_getElem? (i := 1) rfl)) (fun _ h9 => h9) rfl dX8_readCommands_56 ?_
        refine lv_iconst (v := 1) hx hb dX8_readCommands_59 (by decide) ?_
        obtain ⟨u_2, he_3, hf⟩ := os_bd hf
        refine mc_callV ⟨hx, hb, hml, hown, hts⟩ (mm_X10_fail l D kA N q_this_tokens o_this_tokens (1 : Int32) u_2 he_3) (cwV 1 hts gX8_readCommands_X10_fail rfl rfl rfl (by decide +kernel) ⟨Nat.le_of_ble_eq_true rfl, Nat.le_of_ble_eq_true rfl⟩) (wc := (ce_X10 kA q_this_tokens o_this_tokens)) (ci := 6) (q0 := 0) rfl rfl rfl hl.1 (As := [.int (1 : Int32)]) (rest := []) rfl (Nat.le_of_ble_eq_true rfl) dX8_readCommands_60 ⟨Nat.le_of_ble_eq_true rfl, Nat.le_of_ble_eq_true rfl⟩ hK hP hD hS hA [5, 6, 7, 8, 9] [0, 1, 2, 3, 4] [0, 1, 2, 3, 4, 5, 6, 7, 8, 9] rfl (by decide) rfl (by decide) (by decide) rfl (by decide) (wr := (ce_X8 kA (zz 2) q_this q_this_tokens o_this)) (w2 := (ce_X8 kA (zz 2) q_this q_this_tokens o_this ++ (ce_X10 kA q_this_tokens u_2.2))) (fun H locs hP hD hS => ?_)
        have hP : va_P D vwCl (ce_X8 kA (zz 2) q_this q_this_tokens o_this ++ (ce_X10 kA q_this_tokens u_2.2)) H := hP
        obtain ⟨hz_4, hf⟩ := os_if hf
        rw [← Option.some.inj hf]
        exact mx_retz (Nat.le_of_ble_eq_true rfl) (Nat.le_of_ble_eq_true rfl) hx hb hr (os_z_n hz_4) hlk hP hK hD hS dX8_readCommands_63
      · rw [if_neg hc_1] at hf
        refine lv_iload_n hx hb dX8_readCommands_9 rfl (lv_at hl 1 rfl) ?_
        refine lv_if_ne (tgt := 23) hx hb dX8_readCommands_10 (by decide) (fun hc_5 => ?_) (fun hc_5 => ?_)
        · rw [if_neg hc_5] at hf
          refine lv_aload_n hx hb dX8_readCommands_23 rfl (lv_at hl 0 rfl) ?_
          refine va_get (D := D) (ci := 5) (v := .ref (q_this_tokens 0)) (C := RX8) (T := TX8) (N := 7) hx hb hUX8 (fun _ h9 => h9) hown hK hP 0 rfl rfl 0 (by decide) (hts (Cond.fieldLink RX8 27 "ReliefBuilder$Script" "tokens" "LReliefBuilder$Tokens;") (List.mem_of_getElem? (i := 1) rfl)) (fun _ h9 => h9) rfl dX8_readCommands_24 ?_
          refine lv_bipush (v := 41) hx hb dX8_readCommands_27 (by decide) ?_
          obtain ⟨u_6, he_7, hf⟩ := os_bd hf
          refine mc_callV ⟨hx, hb, hml, hown, hts⟩ (mm_X10_isSign l D kA N q_this_tokens o_this_tokens (41 : Int32) u_6 he_7) (cwV 1 hts gX8_readCommands_X10_isSign rfl rfl rfl (by decide +kernel) ⟨Nat.le_of_ble_eq_true rfl, Nat.le_of_ble_eq_true rfl⟩) (wc := (ce_X10 kA q_this_tokens o_this_tokens)) (ci := 6) (q0 := 0) rfl rfl rfl hl.1 (As := [.int (41 : Int32)]) (rest := []) rfl (Nat.le_of_ble_eq_true rfl) dX8_readCommands_29 ⟨Nat.le_of_ble_eq_true rfl, Nat.le_of_ble_eq_true rfl⟩ hK hP hD hS hA [5, 6, 7, 8, 9] [0, 1, 2, 3, 4] [0, 1, 2, 3, 4, 5, 6, 7, 8, 9] rfl (by decide) rfl (by decide) (by decide) rfl (by decide) (wr := (ce_X8 kA (zz 2) q_this q_this_tokens o_this)) (w2 := (ce_X8 kA (zz 2) q_this q_this_tokens o_this ++ (ce_X10 kA q_this_tokens o_this_tokens))) (fun H locs hP hD hS => ?_)
          have hP : va_P D vwCl (ce_X8 kA (zz 2) q_this q_this_tokens o_this ++ (ce_X10 kA q_this_tokens o_this_tokens)) H := hP
          exact hB32 k2 hk2 o_this o_this_tokens x1 x2 u_6 _ _ _ hP hD hS (lv_sub hl [0, 1, 2] rfl) hf
        · rw [if_pos hc_5] at hf
          refine lv_aload_n hx hb dX8_readCommands_13 rfl (lv_at hl 0 rfl) ?_
          refine va_get (D := D) (ci := 5) (v := .ref (q_this_tokens 0)) (C := RX8) (T := TX8) (N := 7) hx hb hUX8 (fun _ h9 => h9) hown hK hP 0 rfl rfl 0 (by decide) (hts (Cond.fieldLink RX8 27 "ReliefBuilder$Script" "tokens" "LReliefBuilder$Tokens;") (List.mem_of_getElem? (i := 1) rfl)) (fun _ h9 => h9) rfl dX8_readCommands_14 ?_
          obtain ⟨u_8, he_9, hf⟩ := os_bd hf
          refine mc_callV ⟨hx, hb, hml, hown, hts⟩ (mm_X10_isAtEnd l D kA N q_this_tokens o_this_tokens u_8 he_9) (cwV 0 hts gX8_readCommands_X10_isAtEnd rfl rfl rfl (by decide +kernel) ⟨Nat.le_of_ble_eq_true rfl, Nat.le_of_ble_eq_true rfl⟩) (wc := (ce_X10 kA q_this_tokens o_this_tokens)) (ci := 6) (q0 := 0) rfl rfl rfl hl.1 (As := []) (rest := []) rfl (Nat.le_of_ble_eq_true rfl) dX8_readCommands_17 ⟨Nat.le_of_ble_eq_true rfl, Nat.le_of_ble_eq_true rfl⟩ hK hP hD hS hA [5, 6, 7, 8, 9] [0, 1, 2, 3, 4] [0, 1, 2, 3, 4, 5, 6, 7, 8, 9] rfl (by decide) rfl (by decide) (by decide) rfl (by decide) (wr := (ce_X8 kA (zz 2) q_this q_this_tokens o_this)) (w2 := (ce_X8 kA (zz 2) q_this q_this_tokens o_this ++ (ce_X10 kA q_this_tokens o_this_tokens))) (fun H locs hP hD hS => ?_)
          have hP : va_P D vwCl (ce_X8 kA (zz 2) q_this q_this_tokens o_this ++ (ce_X10 kA q_this_tokens o_this_tokens)) H := hP
          refine lv_goto (tgt := 32) hx hb dX8_readCommands_20 (by decide) ?_
          exact hB32 k2 hk2 o_this o_this_tokens x1 x2 u_8 _ _ _ hP hD hS (lv_sub hl [0, 1, 2] rfl) hf
  unfold ff_X8_readCommands_v2 at hf
  refine lv_iconst (v := 0) hx hb dX8_readCommands_0 (by decide) ?_
  refine lv_istore_n (lv' := [(2, .int (0 : Int32)), (0, .ref (q_this 0)), (1, .int a1)]) hx hb dX8_readCommands_1 rfl hl (by decide) rfl (fun ls hl => ?_)
  exact hL2 N o_this o_this_tokens a1 (0 : Int32) _ _ _ hP hD hS (lv_sub hl [1, 2, 0] rfl) hf
def ff_X8_readAll (N : Nat) (o_this : os_T) (o_this_tokens : os_T) : Option (Nat × Int32 × os_T × os_T) :=
  ((ff_X10_begin N o_this_tokens).bind fun u_1 => ((ff_X8_readCommands_v2 N (ss_I (ss_I o_this 5 (0 : Int32)) 6 (0 : Int32)) u_1 (0 : Int32)).bind fun u_3 => (if u_3.1 = 0 then (if u_3.2.1 = 0 then some (0, (0 : Int32), u_3.2.2.1, u_3.2.2.2) else ((ff_X8_planCommands_v2 N u_3.2.2.1 (0 : Int32) (os_I u_3.2.2.1 5) (0 : Int32)).bind fun u_6 => (if u_6.1 = 0 then some (0, (1 : Int32), u_6.2, u_3.2.2.2) else some (u_6.1, (0 : Int32), u_6.2, u_3.2.2.2)))) else some (u_3.1, (0 : Int32), u_3.2.2.1, u_3.2.2.2))))
set_option maxHeartbeats 4000000 in
set_option maxRecDepth 100000 in
theorem mm_X8_readAll (l : Launch) (hst : l.stackTraces = false) (zz : Nat → Nat → Nat) (D : va_G) (kA : Nat → ClassId) (N : Nat) (q_this : Nat → Nat) (q_this_tokens : Nat → Nat) (o_this : os_T) (o_this_tokens : os_T) (out : (Nat × Int32 × os_T × os_T)) (hf : ff_X8_readAll N o_this o_this_tokens = some out) : mx_C l zz D kA yX8_readAll wsX8_readAll ({ frames := 12, cells := 0, slots := 0, locals := 269 } : Room) [.ref (q_this 0)] (ce_X8 kA (zz 2) q_this q_this_tokens o_this ++ (ce_X10 kA q_this_tokens o_this_tokens)) out.1 (some (.int out.2.1)) (ce_X8 kA (zz 2) q_this q_this_tokens out.2.2.1 ++ (ce_X10 kA q_this_tokens out.2.2.2)) := by
  refine mx_of (cc := cX8_readAll) (maxL := 1) (ret := (some .boolean)) (by decide) rfl (Nat.le_of_ble_eq_true rfl) ?_
  intro p e s m below meth c A B hx0 hZ hD hP hS ls hl
  obtain ⟨hx, hb, hr, hlk, hml, hown, hts, hK, hA, hnm⟩ := B
  have hown : s.vm.findClass RX8 = some m.cls := hown
  have hl : lv_has ls 1 [(0, .ref (q_this 0))] := hl
  have hUX8 : ∀ w ∈ u_ws RX8 TX8 7, w.before [.ref (q_this 0)].toArray s = true := fun w h => hts w (List.mem_cons_of_mem _ (List.mem_append_left _ (List.mem_append_right _ h)))
  unfold ff_X8_readAll at hf
  refine lv_aload_n hx hb dX8_readAll_0 rfl (lv_at hl 0 rfl) ?_
  refine lv_iconst (v := 0) hx hb dX8_readAll_1 (by decide) ?_
  refine va_put (D := D) (ci := 5) (v := .int (0 : Int32)) (ty := .int) (C := RX8) (T := TX8) (N := 7) hx hb hUX8 (fun _ h9 => h9) tyX8 tyX8_ok nmX8 hown hK hP hD hS 0 rfl rfl 5 (by decide) (hts (Cond.fieldLink RX8 35 "ReliefBuilder$Script" "count" "I") (List.mem_of_getElem? (i := 1) rfl)) (fun _ h9 => h9) rfl (tyX8_ok 5 (by decide)) rfl rfl (Nat.le_of_ble_eq_true rfl) dX8_readAll_2 (fun H locs hP hD hS => ?_)
  have hP : va_P D vwCl (ce_X8 kA (zz 2) q_this q_this_tokens (ss_I o_this 5 (0 : Int32)) ++ (ce_X10 kA q_this_tokens o_this_tokens)) H := hP
  have hD : va_D A (ce_X8 kA (zz 2) q_this q_this_tokens (ss_I o_this 5 (0 : Int32)) ++ (ce_X10 kA q_this_tokens o_this_tokens)) := hD
  refine lv_aload_n hx hb dX8_readAll_5 rfl (lv_at hl 0 rfl) ?_
  refine lv_iconst (v := 0) hx hb dX8_readAll_6 (by decide) ?_
  refine va_put (D := D) (ci := 5) (v := .int (0 : Int32)) (ty := .int) (C := RX8) (T := TX8) (N := 7) hx hb hUX8 (fun _ h9 => h9) tyX8 tyX8_ok nmX8 hown hK hP hD hS 0 rfl rfl 6 (by decide) (hts (Cond.fieldLink RX8 39 "ReliefBuilder$Script" "planned" "I") (List.mem_of_getElem? (i := 2) rfl)) (fun _ h9 => h9) rfl (tyX8_ok 6 (by decide)) rfl rfl (Nat.le_of_ble_eq_true rfl) dX8_readAll_7 (fun H locs hP hD hS => ?_)
  have hP : va_P D vwCl (ce_X8 kA (zz 2) q_this q_this_tokens (ss_I (ss_I o_this 5 (0 : Int32)) 6 (0 : Int32)) ++ (ce_X10 kA q_this_tokens o_this_tokens)) H := hP
  have hD : va_D A (ce_X8 kA (zz 2) q_this q_this_tokens (ss_I (ss_I o_this 5 (0 : Int32)) 6 (0 : Int32)) ++ (ce_X10 kA q_this_tokens o_this_tokens)) := hD
  refine lv_aload_n hx hb dX8_readAll_10 rfl (lv_at hl 0 rfl) ?_
  refine va_get (D := D) (ci := 5) (v := .ref (q_this_tokens 0)) (C := RX8) (T := TX8) (N := 7) hx hb hUX8 (fun _ h9 => h9) hown hK hP 0 rfl rfl 0 (by decide) (hts (Cond.fieldLink RX8 27 "ReliefBuilder$Script" "tokens" "LReliefBuilder$Tokens;") (List.mem_of_getElem? (i := 3) rfl)) (fun _ h9 => h9) rfl dX8_readAll_11 ?_
  obtain ⟨u_1, he_2, hf⟩ := os_bd hf
  refine mc_callV ⟨hx, hb, hml, hown, hts⟩ (mm_X10_begin l D kA N q_this_tokens o_this_tokens u_1 he_2) (cwV 0 hts gX8_readAll_X10_begin rfl rfl rfl (by decide +kernel) ⟨Nat.le_of_ble_eq_true rfl, Nat.le_of_ble_eq_true rfl⟩) (wc := (ce_X10 kA q_this_tokens o_this_tokens)) (ci := 6) (q0 := 0) rfl rfl rfl hl.1 (As := []) (rest := []) rfl (Nat.le_of_ble_eq_true rfl) dX8_readAll_14 ⟨Nat.le_of_ble_eq_true rfl, Nat.le_of_ble_eq_true rfl⟩ hK hP hD hS hA [5, 6, 7, 8, 9] [0, 1, 2, 3, 4] [0, 1, 2, 3, 4, 5, 6, 7, 8, 9] rfl (by decide) rfl (by decide) (by decide) rfl (by decide) (wr := (ce_X8 kA (zz 2) q_this q_this_tokens (ss_I (ss_I o_this 5 (0 : Int32)) 6 (0 : Int32)))) (w2 := (ce_X8 kA (zz 2) q_this q_this_tokens (ss_I (ss_I o_this 5 (0 : Int32)) 6 (0 : Int32)) ++ (ce_X10 kA q_this_tokens u_1))) (fun H locs hP hD hS => ?_)
  have hP : va_P D vwCl (ce_X8 kA (zz 2) q_this q_this_tokens (ss_I (ss_I o_this 5 (0 : Int32)) 6 (0 : Int32)) ++ (ce_X10 kA q_this_tokens u_1)) H := hP
  refine lv_aload_n hx hb dX8_readAll_17 rfl (lv_at hl 0 rfl) ?_
  refine lv_iconst (v := 0) hx hb dX8_readAll_18 (by decide) ?_
  obtain ⟨u_3, he_4, hf⟩ := os_bd hf
  refine mx_callV ⟨hx, hb, hml, hown, hts⟩ (mm_X8_readCommands_v2 l hst zz D kA N q_this q_this_tokens (ss_I (ss_I o_this 5 (0 : Int32)) 6 (0 : Int32)) u_1 (0 : Int32) u_3 he_4) (cwV 1 hts gX8_readAll_X8_readCommands rfl rfl rfl (by decide +kernel) ⟨Nat.le_of_ble_eq_true rfl, Nat.le_of_ble_eq_true rfl⟩) (wc := (ce_X8 kA (zz 2) q_this q_this_tokens (ss_I (ss_I o_this 5 (0 : Int32)) 6 (0 : Int32)) ++ (ce_X10 kA q_this_tokens u_1))) (ci := 5) (q0 := 0) rfl rfl rfl hl.1 (As := [.int (0 : Int32)]) (rest := []) rfl (Nat.le_of_ble_eq_true rfl) dX8_readAll_19 ⟨Nat.le_of_ble_eq_true rfl, Nat.le_of_ble_eq_true rfl⟩ hK hP hD hS hA hZ [0, 1, 2, 3, 4, 5, 6, 7, 8, 9] [] [0, 1, 2, 3, 4, 5, 6, 7, 8, 9] rfl (by decide) rfl (by decide) (by decide) rfl (by decide) (wr := []) (w2 := (ce_X8 kA (zz 2) q_this q_this_tokens u_3.2.2.1 ++ (ce_X10 kA q_this_tokens u_3.2.2.2))) (fun hx9 H locs q9 ce hP hD hS h91 h92 h93 => ?_) (fun hx9 H locs hP hD hS => ?_)
  · rw [if_neg hx9] at hf
    rw [← Option.some.inj hf]
    exact mx_out hx9 hx0 hlk hP hK hD hS h91 h92 h93 (Nat.le_of_ble_eq_true rfl) (Nat.le_of_ble_eq_true rfl)
  · rw [if_pos hx9] at hf
    refine W.widen (k := 0) (n := 0) (Nat.le_of_ble_eq_true rfl) (Nat.le_of_ble_eq_true rfl) ?_
    have hP : va_P D vwCl (ce_X8 kA (zz 2) q_this q_this_tokens u_3.2.2.1 ++ (ce_X10 kA q_this_tokens u_3.2.2.2)) H := hP
    refine lv_if_ne (tgt := 27) hx hb dX8_readAll_22 (by decide) (fun hc_5 => ?_) (fun hc_5 => ?_)
    · rw [if_neg hc_5] at hf
      refine lv_aload_n hx hb dX8_readAll_27 rfl (lv_at hl 0 rfl) ?_
      refine lv_iconst (v := 0) hx hb dX8_readAll_28 (by decide) ?_
      refine lv_aload_n hx hb dX8_readAll_29 rfl (lv_at hl 0 rfl) ?_
      refine va_get (D := D) (ci := 5) (v := .int (os_I u_3.2.2.1 5)) (C := RX8) (T := TX8) (N := 7) hx hb hUX8 (fun _ h9 => h9) hown hK hP 0 rfl rfl 5 (by decide) (hts (Cond.fieldLink RX8 35 "ReliefBuilder$Script" "count" "I") (List.mem_of_getElem? (i := 1) rfl)) (fun _ h9 => h9) rfl dX8_readAll_30 ?_
      refine lv_iconst (v := 0) hx hb dX8_readAll_33 (by decide) ?_
      obtain ⟨u_6, he_7, hf⟩ := os_bd hf
      refine mx_callV ⟨hx, hb, hml, hown, hts⟩ (mm_X8_planCommands_v2 l hst zz D kA N q_this q_this_tokens u_3.2.2.1 (0 : Int32) (os_I u_3.2.2.1 5) (0 : Int32) u_6 he_7) (cwV 3 hts gX8_readAll_X8_planCommands rfl rfl rfl (by decide +kernel) ⟨Nat.le_of_ble_eq_true rfl, Nat.le_of_ble_eq_true rfl⟩) (wc := (ce_X8 kA (zz 2) q_this q_this_tokens u_3.2.2.1)) (ci := 5) (q0 := 0) rfl rfl rfl hl.1 (As := [.int (0 : Int32), .int (os_I u_3.2.2.1 5), .int (0 : Int32)]) (rest := []) rfl (Nat.le_of_ble_eq_true rfl) dX8_readAll_34 ⟨Nat.le_of_ble_eq_true rfl, Nat.le_of_ble_eq_true rfl⟩ hK hP hD hS hA hZ [0, 1, 2, 3, 4] [5, 6, 7, 8, 9] [5, 6, 7, 8, 9, 0, 1, 2, 3, 4] rfl (by decide) rfl (by decide) (by decide) rfl (by decide) (wr := (ce_X10 kA q_this_tokens u_3.2.2.2)) (w2 := (ce_X8 kA (zz 2) q_this q_this_tokens u_6.2 ++ (ce_X10 kA q_this_tokens u_3.2.2.2))) (fun hx9 H locs q9 ce hP hD hS h91 h92 h93 => ?_) (fun hx9 H locs hP hD hS => ?_)
      · rw [if_neg hx9] at hf
        rw [← Option.some.inj hf]
        exact mx_out hx9 hx0 hlk hP hK hD hS h91 h92 h93 (Nat.le_of_ble_eq_true rfl) (Nat.le_of_ble_eq_true rfl)
      · rw [if_pos hx9] at hf
        refine W.widen (k := 0) (n := 0) (Nat.le_of_ble_eq_true rfl) (Nat.le_of_ble_eq_true rfl) ?_
        have hP : va_P D vwCl (ce_X8 kA (zz 2) q_this q_this_tokens u_6.2 ++ (ce_X10 kA q_this_tokens u_3.2.2.2)) H := hP
        refine lv_iconst (v := 1) hx hb dX8_readAll_37 (by decide) ?_
        rw [← Option.some.inj hf]
        exact mx_retz (v := 1) (Nat.le_of_ble_eq_true rfl) (Nat.le_of_ble_eq_true rfl) hx hb hr rfl hlk hP hK hD hS dX8_readAll_38
    · rw [if_pos hc_5] at hf
      refine lv_iconst (v := 0) hx hb dX8_readAll_25 (by decide) ?_
      rw [← Option.some.inj hf]
      exact mx_retz (v := 0) (Nat.le_of_ble_eq_true rfl) (Nat.le_of_ble_eq_true rfl) hx hb hr rfl hlk hP hK hD hS dX8_readAll_26
def ff_X8_plannedAt (N : Nat) (o_this : os_T) (a1 : Int32) : Option Int32 :=
  (if a1 < 0 then some (-1 : Int32) else (if (os_I o_this 6) ≤ a1 then some (-1 : Int32) else (if (60 : Int32) ≤ a1 then some (-1 : Int32) else (if os_in a1 60 then some ((os_A o_this 2) (Int32.toNatClampNeg a1)) else none))))
set_option maxHeartbeats 4000000 in
set_option maxRecDepth 100000 in
theorem mm_X8_plannedAt (l : Launch) (zz : Nat → Nat → Nat) (D : va_G) (kA : Nat → ClassId) (N : Nat) (q_this : Nat → Nat) (q_this_tokens : Nat → Nat) (o_this : os_T) (a1 : Int32) (out : Int32) (hf : ff_X8_plannedAt N o_this a1 = some out) : mc_C l D kA yX8_plannedAt wsX8_plannedAt ({ frames := 0, cells := 0, slots := 0, locals := 0 } : Room) [.ref (q_this 0), .int a1] (ce_X8 kA (zz 2) q_this q_this_tokens o_this) (some (.int out)) (ce_X8 kA (zz 2) q_this q_this_tokens o_this) := by
  refine mc_of (cc := cX8_plannedAt) (maxL := 2) (ret := (some .int)) (by decide) rfl (Nat.le_of_ble_eq_true rfl) ?_
  intro p e s m below meth c A B hD hP hS ls hl
  obtain ⟨hx, hb, hr, hlk, hml, hown, hts, hK, hA, hnm⟩ := B
  have hown : s.vm.findClass RX8 = some m.cls := hown
  have hl : lv_has ls 2 [(0, .ref (q_this 0)), (1, .int a1)] := hl
  have hUX8 : ∀ w ∈ u_ws RX8 TX8 7, w.before [.ref (q_this 0), .int a1].toArray s = true := fun w h => hts w (List.mem_cons_of_mem _ (List.mem_append_right _ h))
  unfold ff_X8_plannedAt at hf
  refine lv_iload_n hx hb dX8_plannedAt_0 rfl (lv_at hl 1 rfl) ?_
  refine lv_if_lt (tgt := 27) hx hb dX8_plannedAt_1 (by decide) (fun hc_1 => ?_) (fun hc_1 => ?_)
  · rw [if_pos hc_1] at hf
    refine lv_iconst (v := (-1)) hx hb dX8_plannedAt_27 (by decide) ?_
    rw [← Option.some.inj hf]
    exact mc_reti hx hb hr hlk hP hK hD hS dX8_plannedAt_28
  · rw [if_neg hc_1] at hf
    refine lv_iload_n hx hb dX8_plannedAt_4 rfl (lv_at hl 1 rfl) ?_
    refine lv_aload_n hx hb dX8_plannedAt_5 rfl (lv_at hl 0 rfl) ?_
    refine va_get (D := D) (ci := 5) (v := .int (os_I o_this 6)) (C := RX8) (T := TX8) (N := 7) hx hb hUX8 (fun _ h9 => h9) hown hK hP 0 rfl rfl 6 (by decide) (hts (Cond.fieldLink RX8 39 "ReliefBuilder$Script" "planned" "I") (List.mem_of_getElem? (i := 1) rfl)) (fun _ h9 => h9) rfl dX8_plannedAt_6 ?_
    refine lv_icmp_ge (tgt := 27) hx hb dX8_plannedAt_9 (by decide) (fun hc_2 => ?_) (fun hc_2 => ?_)
    · rw [if_pos hc_2] at hf
      refine lv_iconst (v := (-1)) hx hb dX8_plannedAt_27 (by decide) ?_
      rw [← Option.some.inj hf]
      exact mc_reti hx hb hr hlk hP hK hD hS dX8_plannedAt_28
    · rw [if_neg hc_2] at hf
      refine lv_iload_n hx hb dX8_plannedAt_12 rfl (lv_at hl 1 rfl) ?_
      refine lv_bipush (v := 60) hx hb dX8_plannedAt_13 (by decide) ?_
      refine lv_icmp_ge (tgt := 27) hx hb dX8_plannedAt_15 (by decide) (fun hc_3 => ?_) (fun hc_3 => ?_)
      · rw [if_pos hc_3] at hf
        refine lv_iconst (v := (-1)) hx hb dX8_plannedAt_27 (by decide) ?_
        rw [← Option.some.inj hf]
        exact mc_reti hx hb hr hlk hP hK hD hS dX8_plannedAt_28
      · rw [if_neg hc_3] at hf
        refine lv_aload_n hx hb dX8_plannedAt_18 rfl (lv_at hl 0 rfl) ?_
        refine va_get (D := D) (ci := 5) (v := .ref (q_this 4)) (C := RX8) (T := TX8) (N := 7) hx hb hUX8 (fun _ h9 => h9) hown hK hP 0 rfl rfl 4 (by decide) (hts (Cond.fieldLink RX8 24 "ReliefBuilder$Script" "plan" "[I") (List.mem_of_getElem? (i := 2) rfl)) (fun _ h9 => h9) rfl dX8_plannedAt_19 ?_
        refine lv_iload_n hx hb dX8_plannedAt_22 rfl (lv_at hl 1 rfl) ?_
        obtain ⟨hi_4, hf⟩ := os_if hf
        refine va_iald hx hb hK hP 4 0 rfl rfl hi_4 dX8_plannedAt_23 ?_
        refine lv_goto (tgt := 28) hx hb dX8_plannedAt_24 (by decide) ?_
        rw [← Option.some.inj hf]
        exact mc_reti hx hb hr hlk hP hK hD hS dX8_plannedAt_28
