def ff_X12_feed (N : Nat) (o_this : os_T) (o_this_tokens : os_T) (a1 : Int32) (a2 : Int32) (a3 : Int32) (a4 : Int32) (a5 : Int32) : Option (Nat × Int32 × os_T) :=
  ((ff_X10_hasRoomFor N o_this_tokens (20 : Int32)).bind fun u_1 => (if u_1 = 0 then some (1, (0 : Int32), o_this_tokens) else ((ff_X10_append N o_this_tokens a1).bind fun u_4 => ((ff_X10_append N u_4 a2).bind fun u_6 => ((ff_X10_append N u_6 a3).bind fun u_8 => ((ff_X10_append N u_8 a4).bind fun u_10 => ((ff_X10_append N u_10 a5).bind fun u_12 => some (0, os_I u_12 4, u_12))))))))
set_option maxHeartbeats 4000000 in
set_option maxRecDepth 100000 in
theorem mm_X12_feed (l : Launch) (hst : l.stackTraces = false) (zz : Nat → Nat → Nat) (D : va_G) (kA : Nat → ClassId) (N : Nat) (g : Nat → Nat → Nat) (o_this : os_T) (o_this_tokens : os_T) (a1 : Int32) (a2 : Int32) (a3 : Int32) (a4 : Int32) (a5 : Int32) (out : (Nat × Int32 × os_T)) (hf : ff_X12_feed N o_this o_this_tokens a1 a2 a3 a4 a5 = some out) : mx_C l zz D kA yX12_feed wsX12_feed ({ frames := 6, cells := 1, slots := 6, locals := 90 } : Room) [.ref ((g 0) 0), .int a1, .int a2, .int a3, .int a4, .int a5] (ce_X12 kA g o_this ++ (ce_X10 kA (g 16) o_this_tokens)) out.1 (some (.int out.2.1)) (ce_X12 kA g o_this ++ (ce_X10 kA (g 16) out.2.2)) := by
  refine mx_of (cc := cX12_feed) (maxL := 6) (ret := (some .int)) (by decide) rfl (Nat.le_of_ble_eq_true rfl) ?_
  intro p e s m below meth c A B hx0 hZ hD hP hS ls hl
  obtain ⟨hx, hb, hr, hlk, hml, hown, hts, hK, hA, hnm⟩ := B
  have hown : s.vm.findClass RX12 = some m.cls := hown
  have hl : lv_has ls 6 [(0, .ref ((g 0) 0)), (1, .int a1), (2, .int a2), (3, .int a3), (4, .int a4), (5, .int a5)] := hl
  have hUX10 : ∀ w ∈ u_ws RX10 TX10 11, w.before [.ref ((g 0) 0), .int a1, .int a2, .int a3, .int a4, .int a5].toArray s = true := fun w h => hts w (List.mem_cons_of_mem _ (List.mem_append_left _ (List.mem_append_right _ h)))
  have hUX12 : ∀ w ∈ u_ws RX12 TX12 15, w.before [.ref ((g 0) 0), .int a1, .int a2, .int a3, .int a4, .int a5].toArray s = true := fun w h => hts w (List.mem_cons_of_mem _ (List.mem_append_left _ (List.mem_append_left _ (List.mem_append_right _ h))))
  unfold ff_X12_feed at hf
  refine lv_aload_n hx hb dX12_feed_0 rfl (lv_at hl 0 rfl) ?_
  refine va_get (D := D) (ci := 8) (v := .ref ((g 16) 0)) (C := RX12) (T := TX12) (N := 15) hx hb hUX12 (fun _ h9 => h9) hown hK hP 0 rfl rfl 8 (by decide) (hts (Cond.fieldLink RX12 60 "ReliefBuilder" "tokens" "LReliefBuilder$Tokens;") (List.mem_of_getElem? (i := 3) rfl)) (fun _ h9 => h9) rfl dX12_feed_1 ?_
  refine lv_bipush (v := 20) hx hb dX12_feed_4 (by decide) ?_
  obtain ⟨u_1, he_2, hf⟩ := os_bd hf
  refine mc_callV ⟨hx, hb, hml, hown, hts⟩ (mm_X10_hasRoomFor l D kA N (g 16) o_this_tokens (20 : Int32) u_1 he_2) (cwV 1 hts gX12_feed_X10_hasRoomFor rfl rfl rfl (by decide +kernel) ⟨Nat.le_of_ble_eq_true rfl, Nat.le_of_ble_eq_true rfl⟩) (wc := (ce_X10 kA (g 16) o_this_tokens)) (ci := 6) (q0 := 0) rfl rfl rfl hl.1 (As := [.int (20 : Int32)]) (rest := []) rfl (Nat.le_of_ble_eq_true rfl) dX12_feed_6 ⟨Nat.le_of_ble_eq_true rfl, Nat.le_of_ble_eq_true rfl⟩ hK hP hD hS hA [4, 5, 6, 7, 8] [0, 1, 2, 3] [0, 1, 2, 3, 4, 5, 6, 7, 8] rfl (by decide) rfl (by decide) (by decide) rfl (by decide) (wr := (ce_X12 kA g o_this)) (w2 := (ce_X12 kA g o_this ++ (ce_X10 kA (g 16) o_this_tokens))) (fun H locs hP hD hS => ?_)
  have hP : va_P D vwCl (ce_X12 kA g o_this ++ (ce_X10 kA (g 16) o_this_tokens)) H := hP
  refine lv_if_ne (tgt := 20) hx hb dX12_feed_9 (by decide) (fun hc_3 => ?_) (fun hc_3 => ?_)
  · rw [if_neg hc_3] at hf
    refine lv_aload_n hx hb dX12_feed_20 rfl (lv_at hl 0 rfl) ?_
    refine va_get (D := D) (ci := 8) (v := .ref ((g 16) 0)) (C := RX12) (T := TX12) (N := 15) hx hb hUX12 (fun _ h9 => h9) hown hK hP 0 rfl rfl 8 (by decide) (hts (Cond.fieldLink RX12 60 "ReliefBuilder" "tokens" "LReliefBuilder$Tokens;") (List.mem_of_getElem? (i := 3) rfl)) (fun _ h9 => h9) rfl dX12_feed_21 ?_
    refine lv_iload_n hx hb dX12_feed_24 rfl (lv_at hl 1 rfl) ?_
    obtain ⟨u_4, he_5, hf⟩ := os_bd hf
    refine mc_callV ⟨hx, hb, hml, hown, hts⟩ (mm_X10_append l D kA N (g 16) o_this_tokens a1 u_4 he_5) (cwV 1 hts gX12_feed_X10_append rfl rfl rfl (by decide +kernel) ⟨Nat.le_of_ble_eq_true rfl, Nat.le_of_ble_eq_true rfl⟩) (wc := (ce_X10 kA (g 16) o_this_tokens)) (ci := 6) (q0 := 0) rfl rfl rfl hl.1 (As := [.int a1]) (rest := []) rfl (Nat.le_of_ble_eq_true rfl) dX12_feed_25 ⟨Nat.le_of_ble_eq_true rfl, Nat.le_of_ble_eq_true rfl⟩ hK hP hD hS hA [4, 5, 6, 7, 8] [0, 1, 2, 3] [0, 1, 2, 3, 4, 5, 6, 7, 8] rfl (by decide) rfl (by decide) (by decide) rfl (by decide) (wr := (ce_X12 kA g o_this)) (w2 := (ce_X12 kA g o_this ++ (ce_X10 kA (g 16) u_4))) (fun H locs hP hD hS => ?_)
    have hP : va_P D vwCl (ce_X12 kA g o_this ++ (ce_X10 kA (g 16) u_4)) H := hP
    refine lv_aload_n hx hb dX12_feed_28 rfl (lv_at hl 0 rfl) ?_
    refine va_get (D := D) (ci := 8) (v := .ref ((g 16) 0)) (C := RX12) (T := TX12) (N := 15) hx hb hUX12 (fun _ h9 => h9) hown hK hP 0 rfl rfl 8 (by decide) (hts (Cond.fieldLink RX12 60 "ReliefBuilder" "tokens" "LReliefBuilder$Tokens;") (List.mem_of_getElem? (i := 3) rfl)) (fun _ h9 => h9) rfl dX12_feed_29 ?_
    refine lv_iload_n hx hb dX12_feed_32 rfl (lv_at hl 2 rfl) ?_
    obtain ⟨u_6, he_7, hf⟩ := os_bd hf
    refine mc_callV ⟨hx, hb, hml, hown, hts⟩ (mm_X10_append l D kA N (g 16) u_4 a2 u_6 he_7) (cwV 1 hts gX12_feed_X10_append rfl rfl rfl (by decide +kernel) ⟨Nat.le_of_ble_eq_true rfl, Nat.le_of_ble_eq_true rfl⟩) (wc := (ce_X10 kA (g 16) u_4)) (ci := 6) (q0 := 0) rfl rfl rfl hl.1 (As := [.int a2]) (rest := []) rfl (Nat.le_of_ble_eq_true rfl) dX12_feed_33 ⟨Nat.le_of_ble_eq_true rfl, Nat.le_of_ble_eq_true rfl⟩ hK hP hD hS hA [4, 5, 6, 7, 8] [0, 1, 2, 3] [0, 1, 2, 3, 4, 5, 6, 7, 8] rfl (by decide) rfl (by decide) (by decide) rfl (by decide) (wr := (ce_X12 kA g o_this)) (w2 := (ce_X12 kA g o_this ++ (ce_X10 kA (g 16) u_6))) (fun H locs hP hD hS => ?_)
    have hP : va_P D vwCl (ce_X12 kA g o_this ++ (ce_X10 kA (g 16) u_6)) H := hP
    refine lv_aload_n hx hb dX12_feed_36 rfl (lv_at hl 0 rfl) ?_
    refine va_get (D := D) (ci := 8) (v := .ref ((g 16) 0)) (C := RX12) (T := TX12) (N := 15) hx hb hUX12 (fun _ h9 => h9) hown hK hP 0 rfl rfl 8 (by decide) (hts (Cond.fieldLink RX12 60 "ReliefBuilder" "tokens" "LReliefBuilder$Tokens;") (List.mem_of_getElem? (i := 3) rfl)) (fun _ h9 => h9) rfl dX12_feed_37 ?_
    refine lv_iload_n hx hb dX12_feed_40 rfl (lv_at hl 3 rfl) ?_
    obtain ⟨u_8, he_9, hf⟩ := os_bd hf
    refine mc_callV ⟨hx, hb, hml, hown, hts⟩ (mm_X10_append l D kA N (g 16) u_6 a3 u_8 he_9) (cwV 1 hts gX12_feed_X10_append rfl rfl rfl (by decide +kernel) ⟨Nat.le_of_ble_eq_true rfl, Nat.le_of_ble_eq_true rfl⟩) (wc := (ce_X10 kA (g 16) u_6)) (ci := 6) (q0 := 0) rfl rfl rfl hl.1 (As := [.int a3]) (rest := []) rfl (Nat.le_of_ble_eq_true rfl) dX12_feed_41 ⟨Nat.le_of_ble_eq_true rfl, Nat.le_of_ble_eq_true rfl⟩ hK hP hD hS hA [4, 5, 6, 7, 8] [0, 1, 2, 3] [0, 1, 2, 3, 4, 5, 6, 7, 8] rfl (by decide) rfl (by decide) (by decide) rfl (by decide) (wr := (ce_X12 kA g o_this)) (w2 := (ce_X12 kA g o_this ++ (ce_X10 kA (g 16) u_8))) (fun H locs hP hD hS => ?_)
    have hP : va_P D vwCl (ce_X12 kA g o_this ++ (ce_X10 kA (g 16) u_8)) H := hP
    refine lv_aload_n hx hb dX12_feed_44 rfl (lv_at hl 0 rfl) ?_
    refine va_get (D := D) (ci := 8) (v := .ref ((g 16) 0)) (C := RX12) (T := TX12) (N := 15) hx hb hUX12 (fun _ h9 => h9) hown hK hP 0 rfl rfl 8 (by decide) (hts (Cond.fieldLink RX12 60 "ReliefBuilder" "tokens" "LReliefBuilder$Tokens;") (List.mem_of_getElem? (i := 3) rfl)) (fun _ h9 => h9) rfl dX12_feed_45 ?_
    refine lv_iload hx hb dX12_feed_48 (lv_at hl 4 rfl) ?_
    obtain ⟨u_10, he_11, hf⟩ := os_bd hf
    refine mc_callV ⟨hx, hb, hml, hown, hts⟩ (mm_X10_append l D kA N (g 16) u_8 a4 u_10 he_11) (cwV 1 hts gX12_feed_X10_append rfl rfl rfl (by decide +kernel) ⟨Nat.le_of_ble_eq_true rfl, Nat.le_of_ble_eq_true rfl⟩) (wc := (ce_X10 kA (g 16) u_8)) (ci := 6) (q0 := 0) rfl rfl rfl hl.1 (As := [.int a4]) (rest := []) rfl (Nat.le_of_ble_eq_true rfl) dX12_feed_50 ⟨Nat.le_of_ble_eq_true rfl, Nat.le_of_ble_eq_true rfl⟩ hK hP hD hS hA [4, 5, 6, 7, 8] [0, 1, 2, 3] [0, 1, 2, 3, 4, 5, 6, 7, 8] rfl (by decide) rfl (by decide) (by decide) rfl (by decide) (wr := (ce_X12 kA g o_this)) (w2 := (ce_X12 kA g o_this ++ (ce_X10 kA (g 16) u_10))) (fun H locs hP hD hS => ?_)
    have hP : va_P D vwCl (ce_X12 kA g o_this ++ (ce_X10 kA (g 16) u_10)) H := hP
    refine lv_aload_n hx hb dX12_feed_53 rfl (lv_at hl 0 rfl) ?_
    refine va_get (D := D) (ci := 8) (v := .ref ((g 16) 0)) (C := RX12) (T := TX12) (N := 15) hx hb hUX12 (fun _ h9 => h9) hown hK hP 0 rfl rfl 8 (by decide) (hts (Cond.fieldLink RX12 60 "ReliefBuilder" "tokens" "LReliefBuilder$Tokens;") (List.mem_of_getElem? (i := 3) rfl)) (fun _ h9 => h9) rfl dX12_feed_54 ?_
    refine lv_iload hx hb dX12_feed_57 (lv_at hl 5 rfl) ?_
    obtain ⟨u_12, he_13, hf⟩ := os_bd hf
    refine mc_callV ⟨hx, hb, hml, hown, hts⟩ (mm_X10_append l D kA N (g 16) u_10 a5 u_12 he_13) (cwV 1 hts gX12_feed_X10_append rfl rfl rfl (by decide +kernel) ⟨Nat.le_of_ble_eq_true rfl, Nat.le_of_ble_eq_true rfl⟩) (wc := (ce_X10 kA (g 16) u_10)) (ci := 6) (q0 := 0) rfl rfl rfl hl.1 (As := [.int a5]) (rest := []) rfl (Nat.le_of_ble_eq_true rfl) dX12_feed_59 ⟨Nat.le_of_ble_eq_true rfl, Nat.le_of_ble_eq_true rfl⟩ hK hP hD hS hA [4, 5, 6, 7, 8] [0, 1, 2, 3] [0, 1, 2, 3, 4, 5, 6, 7, 8] rfl (by decide) rfl (by decide) (by decide) rfl (by decide) (wr := (ce_X12 kA g o_this)) (w2 := (ce_X12 kA g o_this ++ (ce_X10 kA (g 16) u_12))) (fun H locs hP hD hS => ?_)
    have hP : va_P D vwCl (ce_X12 kA g o_this ++ (ce_X10 kA (g 16) u_12)) H := hP
    refine lv_aload_n hx hb dX12_feed_62 rfl (lv_at hl 0 rfl) ?_
    refine va_get (D := D) (ci := 8) (v := .ref ((g 16) 0)) (C := RX12) (T := TX12) (N := 15) hx hb hUX12 (fun _ h9 => h9) hown hK hP 0 rfl rfl 8 (by decide) (hts (Cond.fieldLink RX12 60 "ReliefBuilder" "tokens" "LReliefBuilder$Tokens;") (List.mem_of_getElem? (i := 3) rfl)) (fun _ h9 => h9) rfl dX12_feed_63 ?_
    refine va_get (D := D) (ci := 6) (v := .int (os_I u_12 4)) (C := RX10) (T := TX10) (N := 11) hx hb hUX10 (fun _ h9 => h9) hown hK hP 4 rfl rfl 4 (by decide) (hts (Cond.fieldLink RX12 101 "ReliefBuilder$Tokens" "length" "I") (List.mem_of_getElem? (i := 4) rfl)) (fun _ h9 => h9) rfl dX12_feed_66 ?_
    rw [← Option.some.inj hf]
    exact mx_reti (Nat.le_of_ble_eq_true rfl) (Nat.le_of_ble_eq_true rfl) hx hb hr hlk hP hK hD hS dX12_feed_69
  · rw [if_pos hc_3] at hf
    rw [← Option.some.inj hf]
    exact mx_throw (xc := 1) (own := RX12) (ik := 94) (ic := 96) (by decide) hx hb hst hown (by decide +kernel) (hts (Cond.classLink RX12 94 "java/lang/IllegalStateException") (List.mem_of_getElem? (i := 1) rfl)) (hts (Cond.initialized "java/lang/IllegalStateException") (List.mem_of_getElem? (i := 2) rfl)) (vx_hat (L := vx_at0 RX12 96 "java/lang/IllegalStateException" ["java/lang/RuntimeException", "java/lang/Exception"]) (B := [.declares ⟨"java/lang/RuntimeException", "<init>", "()V"⟩, .declares ⟨"java/lang/Exception", "<init>", "()V"⟩, .declares ⟨"java/lang/Throwable", "<init>", "()V"⟩, .castable "java/lang/IllegalStateException" "java/lang/IllegalStateException"]) (fun w h => hts w (List.mem_cons_of_mem _ (List.mem_append_right _ h))) (by decide +kernel) (st_bad (xc := 1) hZ.2.2.1.2.2)) (by decide +kernel) hZ hS (hl.1.trans hml.symm) hP hK hD dX12_feed_12 dX12_feed_15 dX12_feed_16 dX12_feed_19 hx0 (Nat.le_of_ble_eq_true rfl) (Nat.le_of_ble_eq_true rfl) (Nat.le_of_ble_eq_true rfl) (Nat.le_of_ble_eq_true rfl) hlk (Nat.le_of_ble_eq_true rfl) (Nat.le_of_ble_eq_true rfl)
def ff_X12_truncate_b15 (N : Nat) (o_this : os_T) (o_this_tokens : os_T) : Option (Nat × Int32 × os_T) :=
  some (2, (0 : Int32), o_this_tokens)
def ff_X12_truncate (N : Nat) (o_this : os_T) (o_this_tokens : os_T) (a1 : Int32) : Option (Nat × Int32 × os_T) :=
  (if a1 < 0 then ff_X12_truncate_b15 N o_this o_this_tokens else (if a1 ≤ (os_I o_this_tokens 4) then some (0, a1, ss_I o_this_tokens 4 a1) else ff_X12_truncate_b15 N o_this o_this_tokens))
set_option maxHeartbeats 4000000 in
set_option maxRecDepth 100000 in
theorem mm_X12_truncate (l : Launch) (hst : l.stackTraces = false) (zz : Nat → Nat → Nat) (D : va_G) (kA : Nat → ClassId) (N : Nat) (g : Nat → Nat → Nat) (o_this : os_T) (o_this_tokens : os_T) (a1 : Int32) (out : (Nat × Int32 × os_T)) (hf : ff_X12_truncate N o_this o_this_tokens a1 = some out) : mx_C l zz D kA yX12_truncate wsX12_truncate ({ frames := 6, cells := 1, slots := 6, locals := 90 } : Room) [.ref ((g 0) 0), .int a1] (ce_X12 kA g o_this ++ (ce_X10 kA (g 16) o_this_tokens)) out.1 (some (.int out.2.1)) (ce_X12 kA g o_this ++ (ce_X10 kA (g 16) out.2.2)) := by
  refine mx_of (cc := cX12_truncate) (maxL := 2) (ret := (some .int)) (by decide) rfl (Nat.le_of_ble_eq_true rfl) ?_
  intro p e s m below meth c A B hx0 hZ hD hP hS ls hl
  obtain ⟨hx, hb, hr, hlk, hml, hown, hts, hK, hA, hnm⟩ := B
  have hown : s.vm.findClass RX12 = some m.cls := hown
  have hl : lv_has ls 2 [(0, .ref ((g 0) 0)), (1, .int a1)] := hl
  have hUX10 : ∀ w ∈ u_ws RX10 TX10 11, w.before [.ref ((g 0) 0), .int a1].toArray s = true := fun w h => hts w (List.mem_cons_of_mem _ (List.mem_append_left _ (List.mem_append_right _ h)))
  have hUX12 : ∀ w ∈ u_ws RX12 TX12 15, w.before [.ref ((g 0) 0), .int a1].toArray s = true := fun w h => hts w (List.mem_cons_of_mem _ (List.mem_append_left _ (List.mem_append_left _ (List.mem_append_right _ h))))
  have hB15 : ∀ (o_this_tokens : os_T) (H : Heap) (locs : List Loc) (ls : Array Slot), va_P D vwCl (ce_X12 kA g o_this ++ (ce_X10 kA (g 16) o_this_tokens)) H → va_D A (ce_X12 kA g o_this ++ (ce_X10 kA (g 16) o_this_tokens)) → va_S A s.heap H locs → lv_has ls 2 [] → ff_X12_truncate_b15 N o_this o_this_tokens = some out → W p l e ({ frames := 6, cells := 1, slots := 6, locals := 90 } : Room) s m [.ref ((g 0) 0), .int a1].toArray below meth c H locs 0 0 (vx_MQ below (mx_Q D kA A out.1 (some (.int out.2.1)) (ce_X12 kA g o_this ++ (ce_X10 kA (g 16) out.2.2))) (mx_X D kA A out.1 (ce_X12 kA g o_this ++ (ce_X10 kA (g 16) out.2.2))) [.ref ((g 0) 0), .int a1].toArray s 1 6 A) (F0 m 15 ls []) := by
    intro o_this_tokens H locs ls hP hD hS hl hf
    unfold ff_X12_truncate_b15 at hf
    rw [← Option.some.inj hf]
    exact mx_throw (xc := 2) (own := RX12) (ik := 104) (ic := 106) (by decide) hx hb hst hown (by decide +kernel) (hts (Cond.classLink RX12 104 "java/lang/IllegalArgumentException") (List.mem_of_getElem? (i := 1) rfl)) (hts (Cond.initialized "java/lang/IllegalArgumentException") (List.mem_of_getElem? (i := 2) rfl)) (vx_hat (L := vx_at0 RX12 106 "java/lang/IllegalArgumentException" ["java/lang/RuntimeException", "java/lang/Exception"]) (B := [.declares ⟨"java/lang/RuntimeException", "<init>", "()V"⟩, .declares ⟨"java/lang/Exception", "<init>", "()V"⟩, .declares ⟨"java/lang/Throwable", "<init>", "()V"⟩, .castable "java/lang/IllegalArgumentException" "java/lang/IllegalArgumentException"]) (fun w h => hts w (List.mem_cons_of_mem _ (List.mem_append_right _ h))) (by decide +kernel) (st_bad (xc := 2) hZ.2.2.1.2.2)) (by decide +kernel) hZ hS (hl.1.trans hml.symm) hP hK hD dX12_truncate_15 dX12_truncate_18 dX12_truncate_19 dX12_truncate_22 hx0 (Nat.le_of_ble_eq_true rfl) (Nat.le_of_ble_eq_true rfl) (Nat.le_of_ble_eq_true rfl) (Nat.le_of_ble_eq_true rfl) hlk (Nat.le_of_ble_eq_true rfl) (Nat.le_of_ble_eq_true rfl)
  unfold ff_X12_truncate at hf
  refine lv_iload_n hx hb dX12_truncate_0 rfl (lv_at hl 1 rfl) ?_
  refine lv_if_lt (tgt := 15) hx hb dX12_truncate_1 (by decide) (fun hc_1 => ?_) (fun hc_1 => ?_)
  · rw [if_pos hc_1] at hf
    exact hB15 o_this_tokens _ _ _ hP hD hS (lv_sub hl [] rfl) hf
  · rw [if_neg hc_1] at hf
    refine lv_iload_n hx hb dX12_truncate_4 rfl (lv_at hl 1 rfl) ?_
    refine lv_aload_n hx hb dX12_truncate_5 rfl (lv_at hl 0 rfl) ?_
    refine va_get (D := D) (ci := 8) (v := .ref ((g 16) 0)) (C := RX12) (T := TX12) (N := 15) hx hb hUX12 (fun _ h9 => h9) hown hK hP 0 rfl rfl 8 (by decide) (hts (Cond.fieldLink RX12 60 "ReliefBuilder" "tokens" "LReliefBuilder$Tokens;") (List.mem_of_getElem? (i := 3) rfl)) (fun _ h9 => h9) rfl dX12_truncate_6 ?_
    refine va_get (D := D) (ci := 6) (v := .int (os_I o_this_tokens 4)) (C := RX10) (T := TX10) (N := 11) hx hb hUX10 (fun _ h9 => h9) hown hK hP 4 rfl rfl 4 (by decide) (hts (Cond.fieldLink RX12 101 "ReliefBuilder$Tokens" "length" "I") (List.mem_of_getElem? (i := 4) rfl)) (fun _ h9 => h9) rfl dX12_truncate_9 ?_
    refine lv_icmp_le (tgt := 23) hx hb dX12_truncate_12 (by decide) (fun hc_2 => ?_) (fun hc_2 => ?_)
    · rw [if_pos hc_2] at hf
      refine lv_aload_n hx hb dX12_truncate_23 rfl (lv_at hl 0 rfl) ?_
      refine va_get (D := D) (ci := 8) (v := .ref ((g 16) 0)) (C := RX12) (T := TX12) (N := 15) hx hb hUX12 (fun _ h9 => h9) hown hK hP 0 rfl rfl 8 (by decide) (hts (Cond.fieldLink RX12 60 "ReliefBuilder" "tokens" "LReliefBuilder$Tokens;") (List.mem_of_getElem? (i := 3) rfl)) (fun _ h9 => h9) rfl dX12_truncate_24 ?_
      refine lv_iload_n hx hb dX12_truncate_27 rfl (lv_at hl 1 rfl) ?_
      refine va_put (D := D) (ci := 6) (v := .int a1) (ty := .int) (C := RX10) (T := TX10) (N := 11) hx hb hUX10 (fun _ h9 => h9) tyX10 tyX10_ok nmX10 hown hK hP hD hS 4 rfl rfl 4 (by decide) (hts (Cond.fieldLink RX12 101 "ReliefBuilder$Tokens" "length" "I") (List.mem_of_getElem? (i := 4) rfl)) (fun _ h9 => h9) rfl (tyX10_ok 4 (by decide)) rfl rfl (Nat.le_of_ble_eq_true rfl) dX12_truncate_28 (fun H locs hP hD hS => ?_)
      have hP : va_P D vwCl (ce_X12 kA g o_this ++ (ce_X10 kA (g 16) (ss_I o_this_tokens 4 a1))) H := hP
      have hD : va_D A (ce_X12 kA g o_this ++ (ce_X10 kA (g 16) (ss_I o_this_tokens 4 a1))) := hD
      refine lv_iload_n hx hb dX12_truncate_31 rfl (lv_at hl 1 rfl) ?_
      rw [← Option.some.inj hf]
      exact mx_reti (Nat.le_of_ble_eq_true rfl) (Nat.le_of_ble_eq_true rfl) hx hb hr hlk hP hK hD hS dX12_truncate_32
    · rw [if_neg hc_2] at hf
      exact hB15 o_this_tokens _ _ _ hP hD hS (lv_sub hl [] rfl) hf
def ff_X12_endText_b33 (N : Nat) (o_this : os_T) (o_this_tokens : os_T) (t0 : Int32) : Option (os_T × os_T) :=
  some (ss_I o_this 14 t0, ss_I o_this_tokens 4 (0 : Int32))
def ff_X12_endText (N : Nat) (o_this : os_T) (o_this_tokens : os_T) : Option (os_T × os_T) :=
  (if (os_I o_this_tokens 10) = 0 then ff_X12_endText_b33 N (ss_I o_this 13 (os_I o_this_tokens 10)) o_this_tokens (-1 : Int32) else ff_X12_endText_b33 N (ss_I o_this 13 (os_I o_this_tokens 10)) o_this_tokens (os_I o_this_tokens 8))
set_option maxHeartbeats 4000000 in
set_option maxRecDepth 100000 in
theorem mm_X12_endText (l : Launch) (D : va_G) (kA : Nat → ClassId) (N : Nat) (g : Nat → Nat → Nat) (o_this : os_T) (o_this_tokens : os_T) (out : (os_T × os_T)) (hf : ff_X12_endText N o_this o_this_tokens = some out) : mc_C l D kA yX12_endText wsX12_endText ({ frames := 0, cells := 0, slots := 0, locals := 0 } : Room) [.ref ((g 0) 0)] (ce_X12 kA g o_this ++ (ce_X10 kA (g 16) o_this_tokens)) none (ce_X12 kA g out.1 ++ (ce_X10 kA (g 16) out.2)) := by
  refine mc_of (cc := cX12_endText) (maxL := 1) (ret := none) (by decide) rfl (Nat.le_of_ble_eq_true rfl) ?_
  intro p e s m below meth c A B hD hP hS ls hl
  obtain ⟨hx, hb, hr, hlk, hml, hown, hts, hK, hA, hnm⟩ := B
  have hown : s.vm.findClass RX12 = some m.cls := hown
  have hl : lv_has ls 1 [(0, .ref ((g 0) 0))] := hl
  have hUX10 : ∀ w ∈ u_ws RX10 TX10 11, w.before [.ref ((g 0) 0)].toArray s = true := fun w h => hts w (List.mem_cons_of_mem _ (List.mem_append_right _ h))
  have hUX12 : ∀ w ∈ u_ws RX12 TX12 15, w.before [.ref ((g 0) 0)].toArray s = true := fun w h => hts w (List.mem_cons_of_mem _ (List.mem_append_left _ (List.mem_append_right _ h)))
  have hB33 : ∀ (o_this : os_T) (o_this_tokens : os_T) (t0 : Int32) (H : Heap) (locs : List Loc) (ls : Array Slot), va_P D vwCl (ce_X12 kA g o_this ++ (ce_X10 kA (g 16) o_this_tokens)) H → va_D A (ce_X12 kA g o_this ++ (ce_X10 kA (g 16) o_this_tokens)) → va_S A s.heap H locs → lv_has ls 1 [(0, .ref ((g 0) 0))] → ff_X12_endText_b33 N o_this o_this_tokens t0 = some out → W p l e ({ frames := 0, cells := 0, slots := 0, locals := 0 } : Room) s m [.ref ((g 0) 0)].toArray below meth c H locs 0 0 (MQ below (mc_Q D kA A none (ce_X12 kA g out.1 ++ (ce_X10 kA (g 16) out.2))) [.ref ((g 0) 0)].toArray s 0 0 A) (F0 m 33 ls [.int t0, .ref ((g 0) 0)]) := by
    intro o_this o_this_tokens t0 H locs ls hP hD hS hl hf
    unfold ff_X12_endText_b33 at hf
    refine va_put (D := D) (ci := 8) (v := .int t0) (ty := .int) (C := RX12) (T := TX12) (N := 15) hx hb hUX12 (fun _ h9 => h9) tyX12 tyX12_ok nmX12 hown hK hP hD hS 0 rfl rfl 14 (by decide) (hts (Cond.fieldLink RX12 86 "ReliefBuilder" "latestPosition" "I") (List.mem_of_getElem? (i := 5) rfl)) (fun _ h9 => h9) rfl (tyX12_ok 14 (by decide)) rfl rfl (Nat.le_of_ble_eq_true rfl) dX12_endText_33 (fun H locs hP hD hS => ?_)
    have hP : va_P D vwCl (ce_X12 kA g (ss_I o_this 14 t0) ++ (ce_X10 kA (g 16) o_this_tokens)) H := hP
    have hD : va_D A (ce_X12 kA g (ss_I o_this 14 t0) ++ (ce_X10 kA (g 16) o_this_tokens)) := hD
    refine lv_aload_n hx hb dX12_endText_36 rfl (lv_at hl 0 rfl) ?_
    refine va_get (D := D) (ci := 8) (v := .ref ((g 16) 0)) (C := RX12) (T := TX12) (N := 15) hx hb hUX12 (fun _ h9 => h9) hown hK hP 0 rfl rfl 8 (by decide) (hts (Cond.fieldLink RX12 60 "ReliefBuilder" "tokens" "LReliefBuilder$Tokens;") (List.mem_of_getElem? (i := 1) rfl)) (fun _ h9 => h9) rfl dX12_endText_37 ?_
    refine lv_iconst (v := 0) hx hb dX12_endText_40 (by decide) ?_
    refine va_put (D := D) (ci := 6) (v := .int (0 : Int32)) (ty := .int) (C := RX10) (T := TX10) (N := 11) hx hb hUX10 (fun _ h9 => h9) tyX10 tyX10_ok nmX10 hown hK hP hD hS 4 rfl rfl 4 (by decide) (hts (Cond.fieldLink RX12 101 "ReliefBuilder$Tokens" "length" "I") (List.mem_of_getElem? (i := 6) rfl)) (fun _ h9 => h9) rfl (tyX10_ok 4 (by decide)) rfl rfl (Nat.le_of_ble_eq_true rfl) dX12_endText_41 (fun H locs hP hD hS => ?_)
    have hP : va_P D vwCl (ce_X12 kA g (ss_I o_this 14 t0) ++ (ce_X10 kA (g 16) (ss_I o_this_tokens 4 (0 : Int32)))) H := hP
    have hD : va_D A (ce_X12 kA g (ss_I o_this 14 t0) ++ (ce_X10 kA (g 16) (ss_I o_this_tokens 4 (0 : Int32)))) := hD
    rw [← Option.some.inj hf]
    exact mc_retv hx hb hr hlk hP hK hD hS dX12_endText_44
  unfold ff_X12_endText at hf
  refine lv_aload_n hx hb dX12_endText_0 rfl (lv_at hl 0 rfl) ?_
  refine lv_aload_n hx hb dX12_endText_1 rfl (lv_at hl 0 rfl) ?_
  refine va_get (D := D) (ci := 8) (v := .ref ((g 16) 0)) (C := RX12) (T := TX12) (N := 15) hx hb hUX12 (fun _ h9 => h9) hown hK hP 0 rfl rfl 8 (by decide) (hts (Cond.fieldLink RX12 60 "ReliefBuilder" "tokens" "LReliefBuilder$Tokens;") (List.mem_of_getElem? (i := 1) rfl)) (fun _ h9 => h9) rfl dX12_endText_2 ?_
  refine va_get (D := D) (ci := 6) (v := .int (os_I o_this_tokens 10)) (C := RX10) (T := TX10) (N := 11) hx hb hUX10 (fun _ h9 => h9) hown hK hP 4 rfl rfl 10 (by decide) (hts (Cond.fieldLink RX12 142 "ReliefBuilder$Tokens" "code" "I") (List.mem_of_getElem? (i := 2) rfl)) (fun _ h9 => h9) rfl dX12_endText_5 ?_
  refine va_put (D := D) (ci := 8) (v := .int (os_I o_this_tokens 10)) (ty := .int) (C := RX12) (T := TX12) (N := 15) hx hb hUX12 (fun _ h9 => h9) tyX12 tyX12_ok nmX12 hown hK hP hD hS 0 rfl rfl 13 (by decide) (hts (Cond.fieldLink RX12 145 "ReliefBuilder" "latestCode" "I") (List.mem_of_getElem? (i := 3) rfl)) (fun _ h9 => h9) rfl (tyX12_ok 13 (by decide)) rfl rfl (Nat.le_of_ble_eq_true rfl) dX12_endText_8 (fun H locs hP hD hS => ?_)
  have hP : va_P D vwCl (ce_X12 kA g (ss_I o_this 13 (os_I o_this_tokens 10)) ++ (ce_X10 kA (g 16) o_this_tokens)) H := hP
  have hD : va_D A (ce_X12 kA g (ss_I o_this 13 (os_I o_this_tokens 10)) ++ (ce_X10 kA (g 16) o_this_tokens)) := hD
  refine lv_aload_n hx hb dX12_endText_11 rfl (lv_at hl 0 rfl) ?_
  refine lv_aload_n hx hb dX12_endText_12 rfl (lv_at hl 0 rfl) ?_
  refine va_get (D := D) (ci := 8) (v := .ref ((g 16) 0)) (C := RX12) (T := TX12) (N := 15) hx hb hUX12 (fun _ h9 => h9) hown hK hP 0 rfl rfl 8 (by decide) (hts (Cond.fieldLink RX12 60 "ReliefBuilder" "tokens" "LReliefBuilder$Tokens;") (List.mem_of_getElem? (i := 1) rfl)) (fun _ h9 => h9) rfl dX12_endText_13 ?_
  refine va_get (D := D) (ci := 6) (v := .int (os_I o_this_tokens 10)) (C := RX10) (T := TX10) (N := 11) hx hb hUX10 (fun _ h9 => h9) hown hK hP 4 rfl rfl 10 (by decide) (hts (Cond.fieldLink RX12 142 "ReliefBuilder$Tokens" "code" "I") (List.mem_of_getElem? (i := 2) rfl)) (fun _ h9 => h9) rfl dX12_endText_16 ?_
  refine lv_if_ne (tgt := 26) hx hb dX12_endText_19 (by decide) (fun hc_1 => ?_) (fun hc_1 => ?_)
  · rw [if_neg hc_1] at hf
    refine lv_aload_n hx hb dX12_endText_26 rfl (lv_at hl 0 rfl) ?_
    refine va_get (D := D) (ci := 8) (v := .ref ((g 16) 0)) (C := RX12) (T := TX12) (N := 15) hx hb hUX12 (fun _ h9 => h9) hown hK hP 0 rfl rfl 8 (by decide) (hts (Cond.fieldLink RX12 60 "ReliefBuilder" "tokens" "LReliefBuilder$Tokens;") (List.mem_of_getElem? (i := 1) rfl)) (fun _ h9 => h9) rfl dX12_endText_27 ?_
    refine va_get (D := D) (ci := 6) (v := .int (os_I o_this_tokens 8)) (C := RX10) (T := TX10) (N := 11) hx hb hUX10 (fun _ h9 => h9) hown hK hP 4 rfl rfl 8 (by decide) (hts (Cond.fieldLink RX12 148 "ReliefBuilder$Tokens" "start" "I") (List.mem_of_getElem? (i := 4) rfl)) (fun _ h9 => h9) rfl dX12_endText_30 ?_
    exact hB33 (ss_I o_this 13 (os_I o_this_tokens 10)) o_this_tokens (os_I o_this_tokens 8) _ _ _ hP hD hS (lv_sub hl [0] rfl) hf
  · rw [if_pos hc_1] at hf
    refine lv_iconst (v := (-1)) hx hb dX12_endText_22 (by decide) ?_
    refine lv_goto (tgt := 33) hx hb dX12_endText_23 (by decide) ?_
    exact hB33 (ss_I o_this 13 (os_I o_this_tokens 10)) o_this_tokens (-1 : Int32) _ _ _ hP hD hS (lv_sub hl [0] rfl) hf
def ff_X12_readText (N : Nat) (o_this : os_T) (o_this_panel : os_T) (o_this_spare : os_T) (o_this_history : os_T) (o_this_tokens : os_T) (o_this_reliefText : os_T) : Option (Nat × Int32 × os_T × os_T × os_T × os_T × os_T × os_T) :=
  ((ff_X7_readDraft N o_this_reliefText o_this_tokens o_this_spare).bind fun u_1 => (if u_1.1 = 0 then ((ff_X12_endText N o_this u_1.2.2.2.1).bind fun u_3 => (if u_1.2.1 = 0 then some (2, (0 : Int32), u_3.1, o_this_panel, u_1.2.2.2.2, o_this_history, u_3.2, u_1.2.2.1) else ((ff_X5_copyFrom N o_this_panel u_1.2.2.2.2).bind fun u_6 => ((ff_X3_forget N o_this_history).bind fun u_8 => some (0, os_I u_1.2.2.1 7, u_3.1, u_6, u_1.2.2.2.2, u_8, u_3.2, u_1.2.2.1))))) else some (u_1.1, (0 : Int32), o_this, o_this_panel, u_1.2.2.2.2, o_this_history, u_1.2.2.2.1, u_1.2.2.1)))
set_option maxHeartbeats 4000000 in
set_option maxRecDepth 100000 in
theorem mm_X12_readText (l : Launch) (hst : l.stackTraces = false) (zz : Nat → Nat → Nat) (D : va_G) (kA : Nat → ClassId) (N : Nat) (g : Nat → Nat → Nat) (o_this : os_T) (o_this_panel : os_T) (o_this_spare : os_T) (o_this_history : os_T) (o_this_tokens : os_T) (o_this_reliefText : os_T) (out : (Nat × Int32 × os_T × os_T × os_T × os_T × os_T × os_T)) (hf : ff_X12_readText N o_this o_this_panel o_this_spare o_this_history o_this_tokens o_this_reliefText = some out) : mx_C l zz D kA yX12_readText wsX12_readText ({ frames := 9, cells := 1, slots := 6, locals := 189 } : Room) [.ref ((g 0) 0)] (ce_X12 kA g o_this ++ (ce_X5 kA (g 1) o_this_panel ++ (ce_X5 kA (g 2) o_this_spare ++ (ce_X3 kA (g 5) (fun k => g (6 + k)) o_this_history ++ (ce_X10 kA (g 16) o_this_tokens ++ (ce_X7 kA (g 17) (g 16) (g 2) o_this_reliefText)))))) out.1 (some (.int out.2.1)) (ce_X12 kA g out.2.2.1 ++ (ce_X5 kA (g 1) out.2.2.2.1 ++ (ce_X5 kA (g 2) out.2.2.2.2.1 ++ (ce_X3 kA (g 5) (fun k => g (6 + k)) out.2.2.2.2.2.1 ++ (ce_X10 kA (g 16) out.2.2.2.2.2.2.1 ++ (ce_X7 kA (g 17) (g 16) (g 2) out.2.2.2.2.2.2.2)))))) := by
  refine mx_of (cc := cX12_readText) (maxL := 2) (ret := (some .int)) (by decide) rfl (Nat.le_of_ble_eq_true rfl) ?_
  intro p e s m below meth c A B hx0 hZ hD hP hS ls hl
  obtain ⟨hx, hb, hr, hlk, hml, hown, hts, hK, hA, hnm⟩ := B
  have hown : s.vm.findClass RX12 = some m.cls := hown
  have hl : lv_has ls 2 [(0, .ref ((g 0) 0))] := hl
  have hUX12 : ∀ w ∈ u_ws RX12 TX12 15, w.before [.ref ((g 0) 0)].toArray s = true := fun w h => hts w (List.mem_cons_of_mem _ (List.mem_append_left _ (List.mem_append_left _ (List.mem_append_left _ (List.mem_append_left _ (List.mem_append_left _ (List.mem_append_right _ h)))))))
  have hUX7 : ∀ w ∈ u_ws RX7 TX7 8, w.before [.ref ((g 0) 0)].toArray s = true := fun w h => hts w (List.mem_cons_of_mem _ (List.mem_append_left _ (List.mem_append_left _ (List.mem_append_left _ (List.mem_append_left _ (List.mem_append_right _ h))))))
  unfold ff_X12_readText at hf
  refine lv_aload_n hx hb dX12_readText_0 rfl (lv_at hl 0 rfl) ?_
  refine va_get (D := D) (ci := 8) (v := .ref ((g 17) 0)) (C := RX12) (T := TX12) (N := 15) hx hb hUX12 (fun _ h9 => h9) hown hK hP 0 rfl rfl 9 (by decide) (hts (Cond.fieldLink RX12 69 "ReliefBuilder" "reliefText" "LReliefBuilder$ReliefText;") (List.mem_of_getElem? (i := 3) rfl)) (fun _ h9 => h9) rfl dX12_readText_1 ?_
  obtain ⟨u_1, he_2, hf⟩ := os_bd hf
  refine mx_callV ⟨hx, hb, hml, hown, hts⟩ (mm_X7_readDraft l hst zz D kA N (g 17) (g 16) (g 2) o_this_reliefText o_this_tokens o_this_spare u_1 he_2) (cwV 0 hts gX12_readText_X7_readDraft rfl rfl rfl (by decide +kernel) ⟨Nat.le_of_ble_eq_true rfl, Nat.le_of_ble_eq_true rfl⟩) (wc := (ce_X7 kA (g 17) (g 16) (g 2) o_this_reliefText ++ (ce_X10 kA (g 16) o_this_tokens ++ (ce_X5 kA (g 2) o_this_spare)))) (ci := 4) (q0 := 0) rfl rfl rfl hl.1 (As := []) (rest := []) rfl (Nat.le_of_ble_eq_true rfl) dX12_readText_4 ⟨Nat.le_of_ble_eq_true rfl, Nat.le_of_ble_eq_true rfl⟩ hK hP hD hS hA hZ [19, 14, 15, 16, 17, 18, 8, 9, 10, 11] [0, 1, 2, 3, 4, 5, 6, 7, 12, 13] [0, 1, 2, 3, 4, 5, 6, 7, 16, 17, 18, 19, 8, 9, 11, 12, 13, 14, 15, 10] rfl (by decide) rfl (by decide) (by decide) rfl (by decide) (wr := (ce_X12 kA g o_this ++ (ce_X5 kA (g 1) o_this_panel ++ (ce_X3 kA (g 5) (fun k => g (6 + k)) o_this_history)))) (w2 := (ce_X12 kA g o_this ++ (ce_X5 kA (g 1) o_this_panel ++ (ce_X5 kA (g 2) u_1.2.2.2.2 ++ (ce_X3 kA (g 5) (fun k => g (6 + k)) o_this_history ++ (ce_X10 kA (g 16) u_1.2.2.2.1 ++ (ce_X7 kA (g 17) (g 16) (g 2) u_1.2.2.1))))))) (fun hx9 H locs q9 ce hP hD hS h91 h92 h93 => ?_) (fun hx9 H locs hP hD hS => ?_)
  · rw [if_neg hx9] at hf
    rw [← Option.some.inj hf]
    exact mx_out hx9 hx0 hlk hP hK hD hS h91 h92 h93 (Nat.le_of_ble_eq_true rfl) (Nat.le_of_ble_eq_true rfl)
  · rw [if_pos hx9] at hf
    refine W.widen (k := 0) (n := 0) (Nat.le_of_ble_eq_true rfl) (Nat.le_of_ble_eq_true rfl) ?_
    have hP : va_P D vwCl (ce_X12 kA g o_this ++ (ce_X5 kA (g 1) o_this_panel ++ (ce_X5 kA (g 2) u_1.2.2.2.2 ++ (ce_X3 kA (g 5) (fun k => g (6 + k)) o_this_history ++ (ce_X10 kA (g 16) u_1.2.2.2.1 ++ (ce_X7 kA (g 17) (g 16) (g 2) u_1.2.2.1)))))) H := hP
    refine lv_istore_n (lv' := [(1, .int u_1.2.1), (0, .ref ((g 0) 0))]) hx hb dX12_readText_7 rfl hl (by decide) rfl (fun ls hl => ?_)
    refine lv_aload_n hx hb dX12_readText_8 rfl (lv_at hl 1 rfl) ?_
    obtain ⟨u_3, he_4, hf⟩ := os_bd hf
    refine mc_callV ⟨hx, hb, hml, hown, hts⟩ (mm_X12_endText l D kA N g o_this u_1.2.2.2.1 u_3 he_4) (cwV 0 hts gX12_readText_X12_endText rfl rfl rfl (by decide +kernel) ⟨Nat.le_of_ble_eq_true rfl, Nat.le_of_ble_eq_true rfl⟩) (wc := (ce_X12 kA g o_this ++ (ce_X10 kA (g 16) u_1.2.2.2.1))) (ci := 8) (q0 := 0) rfl rfl rfl hl.1 (As := []) (rest := []) rfl (Nat.le_of_ble_eq_true rfl) dX12_readText_9 ⟨Nat.le_of_ble_eq_true rfl, Nat.le_of_ble_eq_true rfl⟩ hK hP hD hS hA [0, 1, 2, 3, 14, 15, 16, 17, 18] [4, 5, 6, 7, 8, 9, 10, 11, 12, 13, 19] [11, 12, 13, 14, 0, 1, 2, 3, 4, 5, 6, 7, 8, 9, 15, 16, 17, 18, 19, 10] rfl (by decide) rfl (by decide) (by decide) rfl (by decide) (wr := (ce_X5 kA (g 1) o_this_panel ++ (ce_X5 kA (g 2) u_1.2.2.2.2 ++ (ce_X3 kA (g 5) (fun k => g (6 + k)) o_this_history ++ (ce_X7 kA (g 17) (g 16) (g 2) u_1.2.2.1))))) (w2 := (ce_X12 kA g u_3.1 ++ (ce_X5 kA (g 1) o_this_panel ++ (ce_X5 kA (g 2) u_1.2.2.2.2 ++ (ce_X3 kA (g 5) (fun k => g (6 + k)) o_this_history ++ (ce_X10 kA (g 16) u_3.2 ++ (ce_X7 kA (g 17) (g 16) (g 2) u_1.2.2.1))))))) (fun H locs hP hD hS => ?_)
    have hP : va_P D vwCl (ce_X12 kA g u_3.1 ++ (ce_X5 kA (g 1) o_this_panel ++ (ce_X5 kA (g 2) u_1.2.2.2.2 ++ (ce_X3 kA (g 5) (fun k => g (6 + k)) o_this_history ++ (ce_X10 kA (g 16) u_3.2 ++ (ce_X7 kA (g 17) (g 16) (g 2) u_1.2.2.1)))))) H := hP
    refine lv_iload_n hx hb dX12_readText_12 rfl (lv_at hl 0 rfl) ?_
    refine lv_if_ne (tgt := 24) hx hb dX12_readText_13 (by decide) (fun hc_5 => ?_) (fun hc_5 => ?_)
    · rw [if_neg hc_5] at hf
      refine lv_aload_n hx hb dX12_readText_24 rfl (lv_at hl 1 rfl) ?_
      refine va_get (D := D) (ci := 8) (v := .ref ((g 1) 0)) (C := RX12) (T := TX12) (N := 15) hx hb hUX12 (fun _ h9 => h9) hown hK hP 0 rfl rfl 0 (by decide) (hts (Cond.fieldLink RX12 12 "ReliefBuilder" "panel" "LReliefBuilder$Panel;") (List.mem_of_getElem? (i := 4) rfl)) (fun _ h9 => h9) rfl dX12_readText_25 ?_
      refine lv_aload_n hx hb dX12_readText_28 rfl (lv_at hl 1 rfl) ?_
      refine va_get (D := D) (ci := 8) (v := .ref ((g 2) 0)) (C := RX12) (T := TX12) (N := 15) hx hb hUX12 (fun _ h9 => h9) hown hK hP 0 rfl rfl 1 (by decide) (hts (Cond.fieldLink RX12 16 "ReliefBuilder" "spare" "LReliefBuilder$Panel;") (List.mem_of_getElem? (i := 5) rfl)) (fun _ h9 => h9) rfl dX12_readText_29 ?_
      obtain ⟨u_6, he_7, hf⟩ := os_bd hf
      refine mc_callV ⟨hx, hb, hml, hown, hts⟩ (mm_X5_copyFrom l D kA N (g 1) (g 2) o_this_panel u_1.2.2.2.2 u_6 he_7) (cwV 1 hts gX12_readText_X5_copyFrom rfl rfl rfl (by decide +kernel) ⟨Nat.le_of_ble_eq_true rfl, Nat.le_of_ble_eq_true rfl⟩) (wc := (ce_X5 kA (g 1) o_this_panel ++ (ce_X5 kA (g 2) u_1.2.2.2.2))) (ci := 2) (q0 := 0) rfl rfl rfl hl.1 (As := [.ref ((g 2) 0)]) (rest := []) rfl (Nat.le_of_ble_eq_true rfl) dX12_readText_32 ⟨Nat.le_of_ble_eq_true rfl, Nat.le_of_ble_eq_true rfl⟩ hK hP hD hS hA [4, 5, 6, 7, 8, 9, 10, 11] [0, 1, 2, 3, 12, 13, 14, 15, 16, 17, 18, 19] [0, 1, 2, 3, 12, 13, 14, 15, 16, 17, 18, 19, 4, 5, 6, 7, 8, 9, 10, 11] rfl (by decide) rfl (by decide) (by decide) rfl (by decide) (wr := (ce_X12 kA g u_3.1 ++ (ce_X3 kA (g 5) (fun k => g (6 + k)) o_this_history ++ (ce_X10 kA (g 16) u_3.2 ++ (ce_X7 kA (g 17) (g 16) (g 2) u_1.2.2.1))))) (w2 := (ce_X12 kA g u_3.1 ++ (ce_X5 kA (g 1) u_6 ++ (ce_X5 kA (g 2) u_1.2.2.2.2 ++ (ce_X3 kA (g 5) (fun k => g (6 + k)) o_this_history ++ (ce_X10 kA (g 16) u_3.2 ++ (ce_X7 kA (g 17) (g 16) (g 2) u_1.2.2.1))))))) (fun H locs hP hD hS => ?_)
      have hP : va_P D vwCl (ce_X12 kA g u_3.1 ++ (ce_X5 kA (g 1) u_6 ++ (ce_X5 kA (g 2) u_1.2.2.2.2 ++ (ce_X3 kA (g 5) (fun k => g (6 + k)) o_this_history ++ (ce_X10 kA (g 16) u_3.2 ++ (ce_X7 kA (g 17) (g 16) (g 2) u_1.2.2.1)))))) H := hP
      refine lv_aload_n hx hb dX12_readText_35 rfl (lv_at hl 1 rfl) ?_
      refine va_get (D := D) (ci := 8) (v := .ref ((g 5) 0)) (C := RX12) (T := TX12) (N := 15) hx hb hUX12 (fun _ h9 => h9) hown hK hP 0 rfl rfl 4 (by decide) (hts (Cond.fieldLink RX12 30 "ReliefBuilder" "history" "LReliefBuilder$History;") (List.mem_of_getElem? (i := 6) rfl)) (fun _ h9 => h9) rfl dX12_readText_36 ?_
      obtain ⟨u_8, he_9, hf⟩ := os_bd hf
      refine mc_callV ⟨hx, hb, hml, hown, hts⟩ (mm_X3_forget l D kA N (g 5) (fun k => g (6 + k)) o_this_history u_8 he_9) (cwV 0 hts gX12_readText_X3_forget rfl rfl rfl (by decide +kernel) ⟨Nat.le_of_ble_eq_true rfl, Nat.le_of_ble_eq_true rfl⟩) (wc := (ce_X3 kA (g 5) (fun k => g (6 + k)) o_this_history)) (ci := 0) (q0 := 0) rfl rfl rfl hl.1 (As := []) (rest := []) rfl (Nat.le_of_ble_eq_true rfl) dX12_readText_39 ⟨Nat.le_of_ble_eq_true rfl, Nat.le_of_ble_eq_true rfl⟩ hK hP hD hS hA [12, 13] [0, 1, 2, 3, 4, 5, 6, 7, 8, 9, 10, 11, 14, 15, 16, 17, 18, 19] [0, 1, 2, 3, 4, 5, 6, 7, 8, 9, 10, 11, 18, 19, 12, 13, 14, 15, 16, 17] rfl (by decide) rfl (by decide) (by decide) rfl (by decide) (wr := (ce_X12 kA g u_3.1 ++ (ce_X5 kA (g 1) u_6 ++ (ce_X5 kA (g 2) u_1.2.2.2.2 ++ (ce_X10 kA (g 16) u_3.2 ++ (ce_X7 kA (g 17) (g 16) (g 2) u_1.2.2.1)))))) (w2 := (ce_X12 kA g u_3.1 ++ (ce_X5 kA (g 1) u_6 ++ (ce_X5 kA (g 2) u_1.2.2.2.2 ++ (ce_X3 kA (g 5) (fun k => g (6 + k)) u_8 ++ (ce_X10 kA (g 16) u_3.2 ++ (ce_X7 kA (g 17) (g 16) (g 2) u_1.2.2.1))))))) (fun H locs hP hD hS => ?_)
      have hP : va_P D vwCl (ce_X12 kA g u_3.1 ++ (ce_X5 kA (g 1) u_6 ++ (ce_X5 kA (g 2) u_1.2.2.2.2 ++ (ce_X3 kA (g 5) (fun k => g (6 + k)) u_8 ++ (ce_X10 kA (g 16) u_3.2 ++ (ce_X7 kA (g 17) (g 16) (g 2) u_1.2.2.1)))))) H := hP
      refine lv_aload_n hx hb dX12_readText_42 rfl (lv_at hl 1 rfl) ?_
      refine va_get (D := D) (ci := 8) (v := .ref ((g 17) 0)) (C := RX12) (T := TX12) (N := 15) hx hb hUX12 (fun _ h9 => h9) hown hK hP 0 rfl rfl 9 (by decide) (hts (Cond.fieldLink RX12 69 "ReliefBuilder" "reliefText" "LReliefBuilder$ReliefText;") (List.mem_of_getElem? (i := 3) rfl)) (fun _ h9 => h9) rfl dX12_readText_43 ?_
      refine va_get (D := D) (ci := 4) (v := .int (os_I u_1.2.2.1 7)) (C := RX7) (T := TX7) (N := 8) hx hb hUX7 (fun _ h9 => h9) hown hK hP 19 rfl rfl 7 (by decide) (hts (Cond.fieldLink RX12 120 "ReliefBuilder$ReliefText" "statements" "I") (List.mem_of_getElem? (i := 7) rfl)) (fun _ h9 => h9) rfl dX12_readText_46 ?_
      rw [← Option.some.inj hf]
      exact mx_reti (Nat.le_of_ble_eq_true rfl) (Nat.le_of_ble_eq_true rfl) hx hb hr hlk hP hK hD hS dX12_readText_49
    · rw [if_pos hc_5] at hf
      rw [← Option.some.inj hf]
      exact mx_throw (xc := 2) (own := RX12) (ik := 104) (ic := 106) (by decide) hx hb hst hown (by decide +kernel) (hts (Cond.classLink RX12 104 "java/lang/IllegalArgumentException") (List.mem_of_getElem? (i := 1) rfl)) (hts (Cond.initialized "java/lang/IllegalArgumentException") (List.mem_of_getElem? (i := 2) rfl)) (vx_hat (L := vx_at0 RX12 106 "java/lang/IllegalArgumentException" ["java/lang/RuntimeException", "java/lang/Exception"]) (B := [.declares ⟨"java/lang/RuntimeException", "<init>", "()V"⟩, .declares ⟨"java/lang/Exception", "<init>", "()V"⟩, .declares ⟨"java/lang/Throwable", "<init>", "()V"⟩, .castable "java/lang/IllegalArgumentException" "java/lang/IllegalArgumentException"]) (fun w h => hts w (List.mem_cons_of_mem _ (List.mem_append_right _ h))) (by decide +kernel) (st_bad (xc := 2) hZ.2.2.1.2.2)) (by decide +kernel) hZ hS (hl.1.trans hml.symm) hP hK hD dX12_readText_16 dX12_readText_19 dX12_readText_20 dX12_readText_23 hx0 (Nat.le_of_ble_eq_true rfl) (Nat.le_of_ble_eq_true rfl) (Nat.le_of_ble_eq_true rfl) (Nat.le_of_ble_eq_true rfl) hlk (Nat.le_of_ble_eq_true rfl) (Nat.le_of_ble_eq_true rfl)
def ff_X12_tryFill (N : Nat) (o_this : os_T) (o_this_panel : os_T) (a1 : Int32) (a2 : Int32) (a3 : Int32) (a4 : Int32) (a5 : Int32) : Option (Int32 × os_T) :=
  ((ff_X5_has N o_this_panel a1 a2).bind fun u_1 => (if u_1 = 0 then some ((0 : Int32), o_this_panel) else ((ff_X5_fits N o_this_panel a1 a2 a3 a4).bind fun u_4 => (if u_4 = 0 then some ((0 : Int32), o_this_panel) else ((ff_X5_allows N o_this_panel a5).bind fun u_7 => (if u_7 = 0 then some ((0 : Int32), o_this_panel) else ((ff_X5_cover N o_this_panel a1 a2 a3 a4 a5).bind fun u_10 => some ((1 : Int32), u_10.2))))))))
set_option maxHeartbeats 4000000 in
set_option maxRecDepth 100000 in
theorem mm_X12_tryFill (l : Launch) (D : va_G) (kA : Nat → ClassId) (N : Nat) (g : Nat → Nat → Nat) (o_this : os_T) (o_this_panel : os_T) (a1 : Int32) (a2 : Int32) (a3 : Int32) (a4 : Int32) (a5 : Int32) (out : (Int32 × os_T)) (hf : ff_X12_tryFill N o_this o_this_panel a1 a2 a3 a4 a5 = some out) : mc_C l D kA yX12_tryFill wsX12_tryFill ({ frames := 3, cells := 0, slots := 0, locals := 73 } : Room) [.ref ((g 0) 0), .int a1, .int a2, .int a3, .int a4, .int a5] (ce_X12 kA g o_this ++ (ce_X5 kA (g 1) o_this_panel)) (some (.int out.1)) (ce_X12 kA g o_this ++ (ce_X5 kA (g 1) out.2)) := by
  refine mc_of (cc := cX12_tryFill) (maxL := 6) (ret := (some .boolean)) (by decide) rfl (Nat.le_of_ble_eq_true rfl) ?_
  intro p e s m below meth c A B hD hP hS ls hl
  obtain ⟨hx, hb, hr, hlk, hml, hown, hts, hK, hA, hnm⟩ := B
  have hown : s.vm.findClass RX12 = some m.cls := hown
  have hl : lv_has ls 6 [(0, .ref ((g 0) 0)), (1, .int a1), (2, .int a2), (3, .int a3), (4, .int a4), (5, .int a5)] := hl
  have hUX12 : ∀ w ∈ u_ws RX12 TX12 15, w.before [.ref ((g 0) 0), .int a1, .int a2, .int a3, .int a4, .int a5].toArray s = true := fun w h => hts w (List.mem_cons_of_mem _ (List.mem_append_left _ (List.mem_append_right _ h)))
  unfold ff_X12_tryFill at hf
  refine lv_aload_n hx hb dX12_tryFill_0 rfl (lv_at hl 0 rfl) ?_
  refine va_get (D := D) (ci := 8) (v := .ref ((g 1) 0)) (C := RX12) (T := TX12) (N := 15) hx hb hUX12 (fun _ h9 => h9) hown hK hP 0 rfl rfl 0 (by decide) (hts (Cond.fieldLink RX12 12 "ReliefBuilder" "panel" "LReliefBuilder$Panel;") (List.mem_of_getElem? (i := 1) rfl)) (fun _ h9 => h9) rfl dX12_tryFill_1 ?_
  refine lv_iload_n hx hb dX12_tryFill_4 rfl (lv_at hl 1 rfl) ?_
  refine lv_iload_n hx hb dX12_tryFill_5 rfl (lv_at hl 2 rfl) ?_
  obtain ⟨u_1, he_2, hf⟩ := os_bd hf
  refine mc_callV ⟨hx, hb, hml, hown, hts⟩ (mm_X5_has l D kA N (g 1) o_this_panel a1 a2 u_1 he_2) (cwV 2 hts gX12_tryFill_X5_has rfl rfl rfl (by decide +kernel) ⟨Nat.le_of_ble_eq_true rfl, Nat.le_of_ble_eq_true rfl⟩) (wc := (ce_X5 kA (g 1) o_this_panel)) (ci := 2) (q0 := 0) rfl rfl rfl hl.1 (As := [.int a1, .int a2]) (rest := []) rfl (Nat.le_of_ble_eq_true rfl) dX12_tryFill_6 ⟨Nat.le_of_ble_eq_true rfl, Nat.le_of_ble_eq_true rfl⟩ hK hP hD hS hA [4, 5, 6, 7] [0, 1, 2, 3] [0, 1, 2, 3, 4, 5, 6, 7] rfl (by decide) rfl (by decide) (by decide) rfl (by decide) (wr := (ce_X12 kA g o_this)) (w2 := (ce_X12 kA g o_this ++ (ce_X5 kA (g 1) o_this_panel))) (fun H locs hP hD hS => ?_)
  have hP : va_P D vwCl (ce_X12 kA g o_this ++ (ce_X5 kA (g 1) o_this_panel)) H := hP
  refine lv_if_eq (tgt := 39) hx hb dX12_tryFill_9 (by decide) (fun hc_3 => ?_) (fun hc_3 => ?_)
  · rw [if_pos hc_3] at hf
    refine lv_iconst (v := 0) hx hb dX12_tryFill_39 (by decide) ?_
    rw [← Option.some.inj hf]
    exact mc_retz (v := 0) hx hb hr rfl hlk hP hK hD hS dX12_tryFill_40
  · rw [if_neg hc_3] at hf
    refine lv_aload_n hx hb dX12_tryFill_12 rfl (lv_at hl 0 rfl) ?_
    refine va_get (D := D) (ci := 8) (v := .ref ((g 1) 0)) (C := RX12) (T := TX12) (N := 15) hx hb hUX12 (fun _ h9 => h9) hown hK hP 0 rfl rfl 0 (by decide) (hts (Cond.fieldLink RX12 12 "ReliefBuilder" "panel" "LReliefBuilder$Panel;") (List.mem_of_getElem? (i := 1) rfl)) (fun _ h9 => h9) rfl dX12_tryFill_13 ?_
    refine lv_iload_n hx hb dX12_tryFill_16 rfl (lv_at hl 1 rfl) ?_
    refine lv_iload_n hx hb dX12_tryFill_17 rfl (lv_at hl 2 rfl) ?_
    refine lv_iload_n hx hb dX12_tryFill_18 rfl (lv_at hl 3 rfl) ?_
    refine lv_iload hx hb dX12_tryFill_19 (lv_at hl 4 rfl) ?_
    obtain ⟨u_4, he_5, hf⟩ := os_bd hf
    refine mc_callV ⟨hx, hb, hml, hown, hts⟩ (mm_X5_fits l D kA N (g 1) o_this_panel a1 a2 a3 a4 u_4 he_5) (cwV 4 hts gX12_tryFill_X5_fits rfl rfl rfl (by decide +kernel) ⟨Nat.le_of_ble_eq_true rfl, Nat.le_of_ble_eq_true rfl⟩) (wc := (ce_X5 kA (g 1) o_this_panel)) (ci := 2) (q0 := 0) rfl rfl rfl hl.1 (As := [.int a1, .int a2, .int a3, .int a4]) (rest := []) rfl (Nat.le_of_ble_eq_true rfl) dX12_tryFill_21 ⟨Nat.le_of_ble_eq_true rfl, Nat.le_of_ble_eq_true rfl⟩ hK hP hD hS hA [4, 5, 6, 7] [0, 1, 2, 3] [0, 1, 2, 3, 4, 5, 6, 7] rfl (by decide) rfl (by decide) (by decide) rfl (by decide) (wr := (ce_X12 kA g o_this)) (w2 := (ce_X12 kA g o_this ++ (ce_X5 kA (g 1) o_this_panel))) (fun H locs hP hD hS => ?_)
    have hP : va_P D vwCl (ce_X12 kA g o_this ++ (ce_X5 kA (g 1) o_this_panel)) H := hP
    refine lv_if_eq (tgt := 39) hx hb dX12_tryFill_24 (by decide) (fun hc_6 => ?_) (fun hc_6 => ?_)
    · rw [if_pos hc_6] at hf
      refine lv_iconst (v := 0) hx hb dX12_tryFill_39 (by decide) ?_
      rw [← Option.some.inj hf]
      exact mc_retz (v := 0) hx hb hr rfl hlk hP hK hD hS dX12_tryFill_40
    · rw [if_neg hc_6] at hf
      refine lv_aload_n hx hb dX12_tryFill_27 rfl (lv_at hl 0 rfl) ?_
      refine va_get (D := D) (ci := 8) (v := .ref ((g 1) 0)) (C := RX12) (T := TX12) (N := 15) hx hb hUX12 (fun _ h9 => h9) hown hK hP 0 rfl rfl 0 (by decide) (hts (Cond.fieldLink RX12 12 "ReliefBuilder" "panel" "LReliefBuilder$Panel;") (List.mem_of_getElem? (i := 1) rfl)) (fun _ h9 => h9) rfl dX12_tryFill_28 ?_
      refine lv_iload hx hb dX12_tryFill_31 (lv_at hl 5 rfl) ?_
      obtain ⟨u_7, he_8, hf⟩ := os_bd hf
      refine mc_callV ⟨hx, hb, hml, hown, hts⟩ (mm_X5_allows l D kA N (g 1) o_this_panel a5 u_7 he_8) (cwV 1 hts gX12_tryFill_X5_allows rfl rfl rfl (by decide +kernel) ⟨Nat.le_of_ble_eq_true rfl, Nat.le_of_ble_eq_true rfl⟩) (wc := (ce_X5 kA (g 1) o_this_panel)) (ci := 2) (q0 := 0) rfl rfl rfl hl.1 (As := [.int a5]) (rest := []) rfl (Nat.le_of_ble_eq_true rfl) dX12_tryFill_33 ⟨Nat.le_of_ble_eq_true rfl, Nat.le_of_ble_eq_true rfl⟩ hK hP hD hS hA [4, 5, 6, 7] [0, 1, 2, 3] [0, 1, 2, 3, 4, 5, 6, 7] rfl (by decide) rfl (by decide) (by decide) rfl (by decide) (wr := (ce_X12 kA g o_this)) (w2 := (ce_X12 kA g o_this ++ (ce_X5 kA (g 1) o_this_panel))) (fun H locs hP hD hS => ?_)
      have hP : va_P D vwCl (ce_X12 kA g o_this ++ (ce_X5 kA (g 1) o_this_panel)) H := hP
      refine lv_if_ne (tgt := 41) hx hb dX12_tryFill_36 (by decide) (fun hc_9 => ?_) (fun hc_9 => ?_)
      · rw [if_neg hc_9] at hf
        refine lv_aload_n hx hb dX12_tryFill_41 rfl (lv_at hl 0 rfl) ?_
        refine va_get (D := D) (ci := 8) (v := .ref ((g 1) 0)) (C := RX12) (T := TX12) (N := 15) hx hb hUX12 (fun _ h9 => h9) hown hK hP 0 rfl rfl 0 (by decide) (hts (Cond.fieldLink RX12 12 "ReliefBuilder" "panel" "LReliefBuilder$Panel;") (List.mem_of_getElem? (i := 1) rfl)) (fun _ h9 => h9) rfl dX12_tryFill_42 ?_
        refine lv_iload_n hx hb dX12_tryFill_45 rfl (lv_at hl 1 rfl) ?_
        refine lv_iload_n hx hb dX12_tryFill_46 rfl (lv_at hl 2 rfl) ?_
        refine lv_iload_n hx hb dX12_tryFill_47 rfl (lv_at hl 3 rfl) ?_
        refine lv_iload hx hb dX12_tryFill_48 (lv_at hl 4 rfl) ?_
        refine lv_iload hx hb dX12_tryFill_50 (lv_at hl 5 rfl) ?_
        obtain ⟨u_10, he_11, hf⟩ := os_bd hf
        refine mc_callV ⟨hx, hb, hml, hown, hts⟩ (mm_X5_cover l D kA N (g 1) o_this_panel a1 a2 a3 a4 a5 u_10 he_11) (cwV 5 hts gX12_tryFill_X5_cover rfl rfl rfl (by decide +kernel) ⟨Nat.le_of_ble_eq_true rfl, Nat.le_of_ble_eq_true rfl⟩) (wc := (ce_X5 kA (g 1) o_this_panel)) (ci := 2) (q0 := 0) rfl rfl rfl hl.1 (As := [.int a1, .int a2, .int a3, .int a4, .int a5]) (rest := []) rfl (Nat.le_of_ble_eq_true rfl) dX12_tryFill_52 ⟨Nat.le_of_ble_eq_true rfl, Nat.le_of_ble_eq_true rfl⟩ hK hP hD hS hA [4, 5, 6, 7] [0, 1, 2, 3] [0, 1, 2, 3, 4, 5, 6, 7] rfl (by decide) rfl (by decide) (by decide) rfl (by decide) (wr := (ce_X12 kA g o_this)) (w2 := (ce_X12 kA g o_this ++ (ce_X5 kA (g 1) u_10.2))) (fun H locs hP hD hS => ?_)
        have hP : va_P D vwCl (ce_X12 kA g o_this ++ (ce_X5 kA (g 1) u_10.2)) H := hP
        refine lv_pop hx hb dX12_tryFill_55 rfl ?_
        refine lv_iconst (v := 1) hx hb dX12_tryFill_56 (by decide) ?_
        rw [← Option.some.inj hf]
        exact mc_retz (v := 1) hx hb hr rfl hlk hP hK hD hS dX12_tryFill_57
      · rw [if_pos hc_9] at hf
        refine lv_iconst (v := 0) hx hb dX12_tryFill_39 (by decide) ?_
        rw [← Option.some.inj hf]
        exact mc_retz (v := 0) hx hb hr rfl hlk hP hK hD hS dX12_tryFill_40
def ff_X12_trySmooth (N : Nat) (o_this : os_T) (o_this_panel : os_T) (o_this_spare : os_T) (a1 : Int32) : Option (Int32 × os_T × os_T) :=
  ((ff_X11_isLimit N a1).bind fun u_1 => (if u_1 = 0 then some ((0 : Int32), o_this_panel, o_this_spare) else ((ff_X11_flatten N o_this_panel o_this_spare a1).bind fun u_4 => some ((1 : Int32), u_4.2.1, u_4.2.2))))
set_option maxHeartbeats 4000000 in
set_option maxRecDepth 100000 in
theorem mm_X12_trySmooth (l : Launch) (D : va_G) (kA : Nat → ClassId) (N : Nat) (g : Nat → Nat → Nat) (o_this : os_T) (o_this_panel : os_T) (o_this_spare : os_T) (a1 : Int32) (out : (Int32 × os_T × os_T)) (hf : ff_X12_trySmooth N o_this o_this_panel o_this_spare a1 = some out) : mc_C l D kA yX12_trySmooth wsX12_trySmooth ({ frames := 4, cells := 0, slots := 0, locals := 126 } : Room) [.ref ((g 0) 0), .int a1] (ce_X12 kA g o_this ++ (ce_X5 kA (g 1) o_this_panel ++ (ce_X5 kA (g 2) o_this_spare))) (some (.int out.1)) (ce_X12 kA g o_this ++ (ce_X5 kA (g 1) out.2.1 ++ (ce_X5 kA (g 2) out.2.2))) := by
  refine mc_of (cc := cX12_trySmooth) (maxL := 2) (ret := (some .boolean)) (by decide) rfl (Nat.le_of_ble_eq_true rfl) ?_
  intro p e s m below meth c A B hD hP hS ls hl
  obtain ⟨hx, hb, hr, hlk, hml, hown, hts, hK, hA, hnm⟩ := B
  have hown : s.vm.findClass RX12 = some m.cls := hown
  have hl : lv_has ls 2 [(0, .ref ((g 0) 0)), (1, .int a1)] := hl
  have hUX12 : ∀ w ∈ u_ws RX12 TX12 15, w.before [.ref ((g 0) 0), .int a1].toArray s = true := fun w h => hts w (List.mem_cons_of_mem _ (List.mem_append_left _ (List.mem_append_right _ h)))
  unfold ff_X12_trySmooth at hf
  refine lv_iload_n hx hb dX12_trySmooth_0 rfl (lv_at hl 1 rfl) ?_
  obtain ⟨u_1, he_2, hf⟩ := os_bd hf
  refine mc_callS ⟨hx, hb, hml, hown, hts⟩ (mm_X11_isLimit l D kA N a1 u_1 he_2) (va_cwS 1 hts gX12_trySmooth_X11_isLimit rfl rfl rfl (by decide +kernel) ⟨Nat.le_of_ble_eq_true rfl, Nat.le_of_ble_eq_true rfl⟩) (wc := []) rfl hl.1 (As := [.int a1]) (rest := []) rfl (Nat.le_of_ble_eq_true rfl) dX12_trySmooth_1 ⟨Nat.le_of_ble_eq_true rfl, Nat.le_of_ble_eq_true rfl⟩ hK hP hD hS hA [] [0, 1, 2, 3, 4, 5, 6, 7, 8, 9, 10, 11] [0, 1, 2, 3, 4, 5, 6, 7, 8, 9, 10, 11] rfl (by decide) rfl (by decide) (by decide) rfl (by decide) (wr := (ce_X12 kA g o_this ++ (ce_X5 kA (g 1) o_this_panel ++ (ce_X5 kA (g 2) o_this_spare)))) (w2 := (ce_X12 kA g o_this ++ (ce_X5 kA (g 1) o_this_panel ++ (ce_X5 kA (g 2) o_this_spare)))) (fun H locs hP hD hS => ?_)
  have hP : va_P D vwCl (ce_X12 kA g o_this ++ (ce_X5 kA (g 1) o_this_panel ++ (ce_X5 kA (g 2) o_this_spare))) H := hP
  refine lv_if_ne (tgt := 9) hx hb dX12_trySmooth_4 (by decide) (fun hc_3 => ?_) (fun hc_3 => ?_)
  · rw [if_neg hc_3] at hf
    refine lv_aload_n hx hb dX12_trySmooth_9 rfl (lv_at hl 0 rfl) ?_
    refine va_get (D := D) (ci := 8) (v := .ref ((g 1) 0)) (C := RX12) (T := TX12) (N := 15) hx hb hUX12 (fun _ h9 => h9) hown hK hP 0 rfl rfl 0 (by decide) (hts (Cond.fieldLink RX12 12 "ReliefBuilder" "panel" "LReliefBuilder$Panel;") (List.mem_of_getElem? (i := 1) rfl)) (fun _ h9 => h9) rfl dX12_trySmooth_10 ?_
    refine lv_aload_n hx hb dX12_trySmooth_13 rfl (lv_at hl 0 rfl) ?_
    refine va_get (D := D) (ci := 8) (v := .ref ((g 2) 0)) (C := RX12) (T := TX12) (N := 15) hx hb hUX12 (fun _ h9 => h9) hown hK hP 0 rfl rfl 1 (by decide) (hts (Cond.fieldLink RX12 16 "ReliefBuilder" "spare" "LReliefBuilder$Panel;") (List.mem_of_getElem? (i := 2) rfl)) (fun _ h9 => h9) rfl dX12_trySmooth_14 ?_
    refine lv_iload_n hx hb dX12_trySmooth_17 rfl (lv_at hl 1 rfl) ?_
    obtain ⟨u_4, he_5, hf⟩ := os_bd hf
    refine mc_callS ⟨hx, hb, hml, hown, hts⟩ (mm_X11_flatten l D kA N (g 1) (g 2) o_this_panel o_this_spare a1 u_4 he_5) (va_cwS 3 hts gX12_trySmooth_X11_flatten rfl rfl rfl (by decide +kernel) ⟨Nat.le_of_ble_eq_true rfl, Nat.le_of_ble_eq_true rfl⟩) (wc := (ce_X5 kA (g 1) o_this_panel ++ (ce_X5 kA (g 2) o_this_spare))) rfl hl.1 (As := [.ref ((g 1) 0), .ref ((g 2) 0), .int a1]) (rest := []) rfl (Nat.le_of_ble_eq_true rfl) dX12_trySmooth_18 ⟨Nat.le_of_ble_eq_true rfl, Nat.le_of_ble_eq_true rfl⟩ hK hP hD hS hA [4, 5, 6, 7, 8, 9, 10, 11] [0, 1, 2, 3] [0, 1, 2, 3, 4, 5, 6, 7, 8, 9, 10, 11] rfl (by decide) rfl (by decide) (by decide) rfl (by decide) (wr := (ce_X12 kA g o_this)) (w2 := (ce_X12 kA g o_this ++ (ce_X5 kA (g 1) u_4.2.1 ++ (ce_X5 kA (g 2) u_4.2.2)))) (fun H locs hP hD hS => ?_)
    have hP : va_P D vwCl (ce_X12 kA g o_this ++ (ce_X5 kA (g 1) u_4.2.1 ++ (ce_X5 kA (g 2) u_4.2.2))) H := hP
    refine lv_pop hx hb dX12_trySmooth_21 rfl ?_
    refine lv_iconst (v := 1) hx hb dX12_trySmooth_22 (by decide) ?_
    rw [← Option.some.inj hf]
    exact mc_retz (v := 1) hx hb hr rfl hlk hP hK hD hS dX12_trySmooth_23
  · rw [if_pos hc_3] at hf
    refine lv_iconst (v := 0) hx hb dX12_trySmooth_7 (by decide) ?_
    rw [← Option.some.inj hf]
    exact mc_retz (v := 0) hx hb hr rfl hlk hP hK hD hS dX12_trySmooth_8
def ff_X12_tryStamp (N : Nat) (o_this : os_T) (o_this_panel : os_T) (o_this_racks : os_T) (a1 : Int32) (a2 : Int32) (a3 : Int32) (a4 : Int32) : Option (Int32 × os_T) :=
  ((ff_X6_hasPlace N a1 a2).bind fun u_1 => (if u_1 = 0 then some ((0 : Int32), o_this_panel) else ((ff_X5_has N o_this_panel a3 a4).bind fun u_4 => (if u_4 = 0 then some ((0 : Int32), o_this_panel) else ((ff_X6_at N o_this_racks a1 a2).bind fun u_7 => (if u_7 = (-1 : Int32) then some ((0 : Int32), o_this_panel) else ((ff_X6_at N o_this_racks a1 a2).bind fun u_10 => ((ff_X6_press N o_this_panel u_10 a3 a4).bind fun u_12 => some ((1 : Int32), u_12.2)))))))))
set_option maxHeartbeats 4000000 in
set_option maxRecDepth 100000 in
theorem mm_X12_tryStamp (l : Launch) (D : va_G) (kA : Nat → ClassId) (N : Nat) (g : Nat → Nat → Nat) (o_this : os_T) (o_this_panel : os_T) (o_this_racks : os_T) (a1 : Int32) (a2 : Int32) (a3 : Int32) (a4 : Int32) (out : (Int32 × os_T)) (hf : ff_X12_tryStamp N o_this o_this_panel o_this_racks a1 a2 a3 a4 = some out) : mc_C l D kA yX12_tryStamp wsX12_tryStamp ({ frames := 3, cells := 0, slots := 0, locals := 75 } : Room) [.ref ((g 0) 0), .int a1, .int a2, .int a3, .int a4] (ce_X12 kA g o_this ++ (ce_X5 kA (g 1) o_this_panel ++ (ce_X6 kA (g 15) o_this_racks))) (some (.int out.1)) (ce_X12 kA g o_this ++ (ce_X5 kA (g 1) out.2 ++ (ce_X6 kA (g 15) o_this_racks))) := by
  refine mc_of (cc := cX12_tryStamp) (maxL := 5) (ret := (some .boolean)) (by decide) rfl (Nat.le_of_ble_eq_true rfl) ?_
  intro p e s m below meth c A B hD hP hS ls hl
  obtain ⟨hx, hb, hr, hlk, hml, hown, hts, hK, hA, hnm⟩ := B
  have hown : s.vm.findClass RX12 = some m.cls := hown
  have hl : lv_has ls 5 [(0, .ref ((g 0) 0)), (1, .int a1), (2, .int a2), (3, .int a3), (4, .int a4)] := hl
  have hUX12 : ∀ w ∈ u_ws RX12 TX12 15, w.before [.ref ((g 0) 0), .int a1, .int a2, .int a3, .int a4].toArray s = true := fun w h => hts w (List.mem_cons_of_mem _ (List.mem_append_left _ (List.mem_append_left _ (List.mem_append_right _ h))))
  unfold ff_X12_tryStamp at hf
  refine lv_iload_n hx hb dX12_tryStamp_0 rfl (lv_at hl 1 rfl) ?_
  refine lv_iload_n hx hb dX12_tryStamp_1 rfl (lv_at hl 2 rfl) ?_
  obtain ⟨u_1, he_2, hf⟩ := os_bd hf
  refine mc_callS ⟨hx, hb, hml, hown, hts⟩ (mm_X6_hasPlace l D kA N a1 a2 u_1 he_2) (va_cwS 2 hts gX12_tryStamp_X6_hasPlace rfl rfl rfl (by decide +kernel) ⟨Nat.le_of_ble_eq_true rfl, Nat.le_of_ble_eq_true rfl⟩) (wc := []) rfl hl.1 (As := [.int a1, .int a2]) (rest := []) rfl (Nat.le_of_ble_eq_true rfl) dX12_tryStamp_2 ⟨Nat.le_of_ble_eq_true rfl, Nat.le_of_ble_eq_true rfl⟩ hK hP hD hS hA [] [0, 1, 2, 3, 4, 5, 6, 7, 8, 9] [0, 1, 2, 3, 4, 5, 6, 7, 8, 9] rfl (by decide) rfl (by decide) (by decide) rfl (by decide) (wr := (ce_X12 kA g o_this ++ (ce_X5 kA (g 1) o_this_panel ++ (ce_X6 kA (g 15) o_this_racks)))) (w2 := (ce_X12 kA g o_this ++ (ce_X5 kA (g 1) o_this_panel ++ (ce_X6 kA (g 15) o_this_racks)))) (fun H locs hP hD hS => ?_)
  have hP : va_P D vwCl (ce_X12 kA g o_this ++ (ce_X5 kA (g 1) o_this_panel ++ (ce_X6 kA (g 15) o_this_racks))) H := hP
  refine lv_if_eq (tgt := 34) hx hb dX12_tryStamp_5 (by decide) (fun hc_3 => ?_) (fun hc_3 => ?_)
  · rw [if_pos hc_3] at hf
    refine lv_iconst (v := 0) hx hb dX12_tryStamp_34 (by decide) ?_
    rw [← Option.some.inj hf]
    exact mc_retz (v := 0) hx hb hr rfl hlk hP hK hD hS dX12_tryStamp_35
  · rw [if_neg hc_3] at hf
    refine lv_aload_n hx hb dX12_tryStamp_8 rfl (lv_at hl 0 rfl) ?_
    refine va_get (D := D) (ci := 8) (v := .ref ((g 1) 0)) (C := RX12) (T := TX12) (N := 15) hx hb hUX12 (fun _ h9 => h9) hown hK hP 0 rfl rfl 0 (by decide) (hts (Cond.fieldLink RX12 12 "ReliefBuilder" "panel" "LReliefBuilder$Panel;") (List.mem_of_getElem? (i := 1) rfl)) (fun _ h9 => h9) rfl dX12_tryStamp_9 ?_
    refine lv_iload_n hx hb dX12_tryStamp_12 rfl (lv_at hl 3 rfl) ?_
    refine lv_iload hx hb dX12_tryStamp_13 (lv_at hl 4 rfl) ?_
    obtain ⟨u_4, he_5, hf⟩ := os_bd hf
    refine mc_callV ⟨hx, hb, hml, hown, hts⟩ (mm_X5_has l D kA N (g 1) o_this_panel a3 a4 u_4 he_5) (cwV 2 hts gX12_tryStamp_X5_has rfl rfl rfl (by decide +kernel) ⟨Nat.le_of_ble_eq_true rfl, Nat.le_of_ble_eq_true rfl⟩) (wc := (ce_X5 kA (g 1) o_this_panel)) (ci := 2) (q0 := 0) rfl rfl rfl hl.1 (As := [.int a3, .int a4]) (rest := []) rfl (Nat.le_of_ble_eq_true rfl) dX12_tryStamp_15 ⟨Nat.le_of_ble_eq_true rfl, Nat.le_of_ble_eq_true rfl⟩ hK hP hD hS hA [4, 5, 6, 7] [0, 1, 2, 3, 8, 9] [0, 1, 2, 3, 6, 7, 8, 9, 4, 5] rfl (by decide) rfl (by decide) (by decide) rfl (by decide) (wr := (ce_X12 kA g o_this ++ (ce_X6 kA (g 15) o_this_racks))) (w2 := (ce_X12 kA g o_this ++ (ce_X5 kA (g 1) o_this_panel ++ (ce_X6 kA (g 15) o_this_racks)))) (fun H locs hP hD hS => ?_)
    have hP : va_P D vwCl (ce_X12 kA g o_this ++ (ce_X5 kA (g 1) o_this_panel ++ (ce_X6 kA (g 15) o_this_racks))) H := hP
    refine lv_if_eq (tgt := 34) hx hb dX12_tryStamp_18 (by decide) (fun hc_6 => ?_) (fun hc_6 => ?_)
    · rw [if_pos hc_6] at hf
      refine lv_iconst (v := 0) hx hb dX12_tryStamp_34 (by decide) ?_
      rw [← Option.some.inj hf]
      exact mc_retz (v := 0) hx hb hr rfl hlk hP hK hD hS dX12_tryStamp_35
    · rw [if_neg hc_6] at hf
      refine lv_aload_n hx hb dX12_tryStamp_21 rfl (lv_at hl 0 rfl) ?_
      refine va_get (D := D) (ci := 8) (v := .ref ((g 15) 0)) (C := RX12) (T := TX12) (N := 15) hx hb hUX12 (fun _ h9 => h9) hown hK hP 0 rfl rfl 7 (by decide) (hts (Cond.fieldLink RX12 53 "ReliefBuilder" "racks" "LReliefBuilder$Racks;") (List.mem_of_getElem? (i := 2) rfl)) (fun _ h9 => h9) rfl dX12_tryStamp_22 ?_
      refine lv_iload_n hx hb dX12_tryStamp_25 rfl (lv_at hl 1 rfl) ?_
      refine lv_iload_n hx hb dX12_tryStamp_26 rfl (lv_at hl 2 rfl) ?_
      obtain ⟨u_7, he_8, hf⟩ := os_bd hf
      refine mc_callV ⟨hx, hb, hml, hown, hts⟩ (mm_X6_at l D kA N (g 15) o_this_racks a1 a2 u_7 he_8) (cwV 2 hts gX12_tryStamp_X6_at rfl rfl rfl (by decide +kernel) ⟨Nat.le_of_ble_eq_true rfl, Nat.le_of_ble_eq_true rfl⟩) (wc := (ce_X6 kA (g 15) o_this_racks)) (ci := 3) (q0 := 0) rfl rfl rfl hl.1 (As := [.int a1, .int a2]) (rest := []) rfl (Nat.le_of_ble_eq_true rfl) dX12_tryStamp_27 ⟨Nat.le_of_ble_eq_true rfl, Nat.le_of_ble_eq_true rfl⟩ hK hP hD hS hA [8, 9] [0, 1, 2, 3, 4, 5, 6, 7] [0, 1, 2, 3, 4, 5, 6, 7, 8, 9] rfl (by decide) rfl (by decide) (by decide) rfl (by decide) (wr := (ce_X12 kA g o_this ++ (ce_X5 kA (g 1) o_this_panel))) (w2 := (ce_X12 kA g o_this ++ (ce_X5 kA (g 1) o_this_panel ++ (ce_X6 kA (g 15) o_this_racks)))) (fun H locs hP hD hS => ?_)
      have hP : va_P D vwCl (ce_X12 kA g o_this ++ (ce_X5 kA (g 1) o_this_panel ++ (ce_X6 kA (g 15) o_this_racks))) H := hP
      refine lv_iconst (v := (-1)) hx hb dX12_tryStamp_30 (by decide) ?_
      refine lv_icmp_ne (tgt := 36) hx hb dX12_tryStamp_31 (by decide) (fun hc_9 => ?_) (fun hc_9 => ?_)
      · rw [if_neg hc_9] at hf
        refine lv_aload_n hx hb dX12_tryStamp_36 rfl (lv_at hl 0 rfl) ?_
        refine va_get (D := D) (ci := 8) (v := .ref ((g 1) 0)) (C := RX12) (T := TX12) (N := 15) hx hb hUX12 (fun _ h9 => h9) hown hK hP 0 rfl rfl 0 (by decide) (hts (Cond.fieldLink RX12 12 "ReliefBuilder" "panel" "LReliefBuilder$Panel;") (List.mem_of_getElem? (i := 1) rfl)) (fun _ h9 => h9) rfl dX12_tryStamp_37 ?_
        refine lv_aload_n hx hb dX12_tryStamp_40 rfl (lv_at hl 0 rfl) ?_
        refine va_get (D := D) (ci := 8) (v := .ref ((g 15) 0)) (C := RX12) (T := TX12) (N := 15) hx hb hUX12 (fun _ h9 => h9) hown hK hP 0 rfl rfl 7 (by decide) (hts (Cond.fieldLink RX12 53 "ReliefBuilder" "racks" "LReliefBuilder$Racks;") (List.mem_of_getElem? (i := 2) rfl)) (fun _ h9 => h9) rfl dX12_tryStamp_41 ?_
        refine lv_iload_n hx hb dX12_tryStamp_44 rfl (lv_at hl 1 rfl) ?_
        refine lv_iload_n hx hb dX12_tryStamp_45 rfl (lv_at hl 2 rfl) ?_
        obtain ⟨u_10, he_11, hf⟩ := os_bd hf
        refine mc_callV ⟨hx, hb, hml, hown, hts⟩ (mm_X6_at l D kA N (g 15) o_this_racks a1 a2 u_10 he_11) (cwV 2 hts gX12_tryStamp_X6_at rfl rfl rfl (by decide +kernel) ⟨Nat.le_of_ble_eq_true rfl, Nat.le_of_ble_eq_true rfl⟩) (wc := (ce_X6 kA (g 15) o_this_racks)) (ci := 3) (q0 := 0) rfl rfl rfl hl.1 (As := [.int a1, .int a2]) (rest := [.ref ((g 1) 0)]) rfl (Nat.le_of_ble_eq_true rfl) dX12_tryStamp_46 ⟨Nat.le_of_ble_eq_true rfl, Nat.le_of_ble_eq_true rfl⟩ hK hP hD hS hA [8, 9] [0, 1, 2, 3, 4, 5, 6, 7] [0, 1, 2, 3, 4, 5, 6, 7, 8, 9] rfl (by decide) rfl (by decide) (by decide) rfl (by decide) (wr := (ce_X12 kA g o_this ++ (ce_X5 kA (g 1) o_this_panel))) (w2 := (ce_X12 kA g o_this ++ (ce_X5 kA (g 1) o_this_panel ++ (ce_X6 kA (g 15) o_this_racks)))) (fun H locs hP hD hS => ?_)
        have hP : va_P D vwCl (ce_X12 kA g o_this ++ (ce_X5 kA (g 1) o_this_panel ++ (ce_X6 kA (g 15) o_this_racks))) H := hP
        refine lv_iload_n hx hb dX12_tryStamp_49 rfl (lv_at hl 3 rfl) ?_
        refine lv_iload hx hb dX12_tryStamp_50 (lv_at hl 4 rfl) ?_
        obtain ⟨u_12, he_13, hf⟩ := os_bd hf
        refine mc_callS ⟨hx, hb, hml, hown, hts⟩ (mm_X6_press l D kA N (g 1) o_this_panel u_10 a3 a4 u_12 he_13) (va_cwS 4 hts gX12_tryStamp_X6_press rfl rfl rfl (by decide +kernel) ⟨Nat.le_of_ble_eq_true rfl, Nat.le_of_ble_eq_true rfl⟩) (wc := (ce_X5 kA (g 1) o_this_panel)) rfl hl.1 (As := [.ref ((g 1) 0), .int u_10, .int a3, .int a4]) (rest := []) rfl (Nat.le_of_ble_eq_true rfl) dX12_tryStamp_52 ⟨Nat.le_of_ble_eq_true rfl, Nat.le_of_ble_eq_true rfl⟩ hK hP hD hS hA [4, 5, 6, 7] [0, 1, 2, 3, 8, 9] [0, 1, 2, 3, 6, 7, 8, 9, 4, 5] rfl (by decide) rfl (by decide) (by decide) rfl (by decide) (wr := (ce_X12 kA g o_this ++ (ce_X6 kA (g 15) o_this_racks))) (w2 := (ce_X12 kA g o_this ++ (ce_X5 kA (g 1) u_12.2 ++ (ce_X6 kA (g 15) o_this_racks)))) (fun H locs hP hD hS => ?_)
        have hP : va_P D vwCl (ce_X12 kA g o_this ++ (ce_X5 kA (g 1) u_12.2 ++ (ce_X6 kA (g 15) o_this_racks))) H := hP
        refine lv_pop hx hb dX12_tryStamp_55 rfl ?_
        refine lv_iconst (v := 1) hx hb dX12_tryStamp_56 (by decide) ?_
        rw [← Option.some.inj hf]
        exact mc_retz (v := 1) hx hb hr rfl hlk hP hK hD hS dX12_tryStamp_57
      · rw [if_pos hc_9] at hf
        refine lv_iconst (v := 0) hx hb dX12_tryStamp_34 (by decide) ?_
        rw [← Option.some.inj hf]
        exact mc_retz (v := 0) hx hb hr rfl hlk hP hK hD hS dX12_tryStamp_35
def ff_X12_tryTone (N : Nat) (o_this : os_T) (o_this_panel : os_T) (a1 : Int32) (a2 : Int32) (a3 : Int32) : Option (Int32 × os_T) :=
  ((ff_X5_has N o_this_panel a1 a2).bind fun u_1 => (if u_1 = 0 then some ((0 : Int32), o_this_panel) else ((ff_X5_isTone N a3).bind fun u_4 => (if u_4 = 0 then some ((0 : Int32), o_this_panel) else ((ff_X5_paint N o_this_panel a1 a2 a3).bind fun u_7 => some ((1 : Int32), u_7))))))
set_option maxHeartbeats 4000000 in
set_option maxRecDepth 100000 in
theorem mm_X12_tryTone (l : Launch) (D : va_G) (kA : Nat → ClassId) (N : Nat) (g : Nat → Nat → Nat) (o_this : os_T) (o_this_panel : os_T) (a1 : Int32) (a2 : Int32) (a3 : Int32) (out : (Int32 × os_T)) (hf : ff_X12_tryTone N o_this o_this_panel a1 a2 a3 = some out) : mc_C l D kA yX12_tryTone wsX12_tryTone ({ frames := 3, cells := 0, slots := 0, locals := 69 } : Room) [.ref ((g 0) 0), .int a1, .int a2, .int a3] (ce_X12 kA g o_this ++ (ce_X5 kA (g 1) o_this_panel)) (some (.int out.1)) (ce_X12 kA g o_this ++ (ce_X5 kA (g 1) out.2)) := by
  refine mc_of (cc := cX12_tryTone) (maxL := 4) (ret := (some .boolean)) (by decide) rfl (Nat.le_of_ble_eq_true rfl) ?_
  intro p e s m below meth c A B hD hP hS ls hl
  obtain ⟨hx, hb, hr, hlk, hml, hown, hts, hK, hA, hnm⟩ := B
  have hown : s.vm.findClass RX12 = some m.cls := hown
  have hl : lv_has ls 4 [(0, .ref ((g 0) 0)), (1, .int a1), (2, .int a2), (3, .int a3)] := hl
  have hUX12 : ∀ w ∈ u_ws RX12 TX12 15, w.before [.ref ((g 0) 0), .int a1, .int a2, .int a3].toArray s = true := fun w h => hts w (List.mem_cons_of_mem _ (List.mem_append_left _ (List.mem_append_right _ h)))
  unfold ff_X12_tryTone at hf
  refine lv_aload_n hx hb dX12_tryTone_0 rfl (lv_at hl 0 rfl) ?_
  refine va_get (D := D) (ci := 8) (v := .ref ((g 1) 0)) (C := RX12) (T := TX12) (N := 15) hx hb hUX12 (fun _ h9 => h9) hown hK hP 0 rfl rfl 0 (by decide) (hts (Cond.fieldLink RX12 12 "ReliefBuilder" "panel" "LReliefBuilder$Panel;") (List.mem_of_getElem? (i := 1) rfl)) (fun _ h9 => h9) rfl dX12_tryTone_1 ?_
  refine lv_iload_n hx hb dX12_tryTone_4 rfl (lv_at hl 1 rfl) ?_
  refine lv_iload_n hx hb dX12_tryTone_5 rfl (lv_at hl 2 rfl) ?_
  obtain ⟨u_1, he_2, hf⟩ := os_bd hf
  refine mc_callV ⟨hx, hb, hml, hown, hts⟩ (mm_X5_has l D kA N (g 1) o_this_panel a1 a2 u_1 he_2) (cwV 2 hts gX12_tryTone_X5_has rfl rfl rfl (by decide +kernel) ⟨Nat.le_of_ble_eq_true rfl, Nat.le_of_ble_eq_true rfl⟩) (wc := (ce_X5 kA (g 1) o_this_panel)) (ci := 2) (q0 := 0) rfl rfl rfl hl.1 (As := [.int a1, .int a2]) (rest := []) rfl (Nat.le_of_ble_eq_true rfl) dX12_tryTone_6 ⟨Nat.le_of_ble_eq_true rfl, Nat.le_of_ble_eq_true rfl⟩ hK hP hD hS hA [4, 5, 6, 7] [0, 1, 2, 3] [0, 1, 2, 3, 4, 5, 6, 7] rfl (by decide) rfl (by decide) (by decide) rfl (by decide) (wr := (ce_X12 kA g o_this)) (w2 := (ce_X12 kA g o_this ++ (ce_X5 kA (g 1) o_this_panel))) (fun H locs hP hD hS => ?_)
  have hP : va_P D vwCl (ce_X12 kA g o_this ++ (ce_X5 kA (g 1) o_this_panel)) H := hP
  refine lv_if_eq (tgt := 19) hx hb dX12_tryTone_9 (by decide) (fun hc_3 => ?_) (fun hc_3 => ?_)
  · rw [if_pos hc_3] at hf
    refine lv_iconst (v := 0) hx hb dX12_tryTone_19 (by decide) ?_
    rw [← Option.some.inj hf]
    exact mc_retz (v := 0) hx hb hr rfl hlk hP hK hD hS dX12_tryTone_20
  · rw [if_neg hc_3] at hf
    refine lv_iload_n hx hb dX12_tryTone_12 rfl (lv_at hl 3 rfl) ?_
    obtain ⟨u_4, he_5, hf⟩ := os_bd hf
    refine mc_callS ⟨hx, hb, hml, hown, hts⟩ (mm_X5_isTone l D kA N a3 u_4 he_5) (va_cwS 1 hts gX12_tryTone_X5_isTone rfl rfl rfl (by decide +kernel) ⟨Nat.le_of_ble_eq_true rfl, Nat.le_of_ble_eq_true rfl⟩) (wc := []) rfl hl.1 (As := [.int a3]) (rest := []) rfl (Nat.le_of_ble_eq_true rfl) dX12_tryTone_13 ⟨Nat.le_of_ble_eq_true rfl, Nat.le_of_ble_eq_true rfl⟩ hK hP hD hS hA [] [0, 1, 2, 3, 4, 5, 6, 7] [0, 1, 2, 3, 4, 5, 6, 7] rfl (by decide) rfl (by decide) (by decide) rfl (by decide) (wr := (ce_X12 kA g o_this ++ (ce_X5 kA (g 1) o_this_panel))) (w2 := (ce_X12 kA g o_this ++ (ce_X5 kA (g 1) o_this_panel))) (fun H locs hP hD hS => ?_)
    have hP : va_P D vwCl (ce_X12 kA g o_this ++ (ce_X5 kA (g 1) o_this_panel)) H := hP
    refine lv_if_ne (tgt := 21) hx hb dX12_tryTone_16 (by decide) (fun hc_6 => ?_) (fun hc_6 => ?_)
    · rw [if_neg hc_6] at hf
      refine lv_aload_n hx hb dX12_tryTone_21 rfl (lv_at hl 0 rfl) ?_
      refine va_get (D := D) (ci := 8) (v := .ref ((g 1) 0)) (C := RX12) (T := TX12) (N := 15) hx hb hUX12 (fun _ h9 => h9) hown hK hP 0 rfl rfl 0 (by decide) (hts (Cond.fieldLink RX12 12 "ReliefBuilder" "panel" "LReliefBuilder$Panel;") (List.mem_of_getElem? (i := 1) rfl)) (fun _ h9 => h9) rfl dX12_tryTone_22 ?_
      refine lv_iload_n hx hb dX12_tryTone_25 rfl (lv_at hl 1 rfl) ?_
      refine lv_iload_n hx hb dX12_tryTone_26 rfl (lv_at hl 2 rfl) ?_
      refine lv_iload_n hx hb dX12_tryTone_27 rfl (lv_at hl 3 rfl) ?_
      obtain ⟨u_7, he_8, hf⟩ := os_bd hf
      refine mc_callV ⟨hx, hb, hml, hown, hts⟩ (mm_X5_paint l D kA N (g 1) o_this_panel a1 a2 a3 u_7 he_8) (cwV 3 hts gX12_tryTone_X5_paint rfl rfl rfl (by decide +kernel) ⟨Nat.le_of_ble_eq_true rfl, Nat.le_of_ble_eq_true rfl⟩) (wc := (ce_X5 kA (g 1) o_this_panel)) (ci := 2) (q0 := 0) rfl rfl rfl hl.1 (As := [.int a1, .int a2, .int a3]) (rest := []) rfl (Nat.le_of_ble_eq_true rfl) dX12_tryTone_28 ⟨Nat.le_of_ble_eq_true rfl, Nat.le_of_ble_eq_true rfl⟩ hK hP hD hS hA [4, 5, 6, 7] [0, 1, 2, 3] [0, 1, 2, 3, 4, 5, 6, 7] rfl (by decide) rfl (by decide) (by decide) rfl (by decide) (wr := (ce_X12 kA g o_this)) (w2 := (ce_X12 kA g o_this ++ (ce_X5 kA (g 1) u_7))) (fun H locs hP hD hS => ?_)
      have hP : va_P D vwCl (ce_X12 kA g o_this ++ (ce_X5 kA (g 1) u_7)) H := hP
      refine lv_iconst (v := 1) hx hb dX12_tryTone_31 (by decide) ?_
      rw [← Option.some.inj hf]
      exact mc_retz (v := 1) hx hb hr rfl hlk hP hK hD hS dX12_tryTone_32
    · rw [if_pos hc_6] at hf
      refine lv_iconst (v := 0) hx hb dX12_tryTone_19 (by decide) ?_
      rw [← Option.some.inj hf]
      exact mc_retz (v := 0) hx hb hr rfl hlk hP hK hD hS dX12_tryTone_20
def ff_X12_tryCommand (N : Nat) (o_this : os_T) (o_this_panel : os_T) (o_this_spare : os_T) (o_this_walls : os_T) (o_this_racks : os_T) (o_this_script : os_T) (a1 : Int32) : Option (Nat × Int32 × os_T × os_T × os_T) :=
  ((ff_X8_commandAt N o_this_script a1).bind fun u_1 => (if u_1.1 = 0 then (os_opt u_1.2 (some (0, (0 : Int32), o_this_panel, o_this_spare, o_this_walls)) (fun c_4 => ((ff_X8_numberOf N o_this_script a1 (0 : Int32)).bind fun u_5 => ((ff_X8_numberOf N o_this_script a1 (1 : Int32)).bind fun u_7 => ((ff_X8_numberOf N o_this_script a1 (2 : Int32)).bind fun u_9 => ((ff_X8_numberOf N o_this_script a1 (3 : Int32)).bind fun u_11 => (if c_4 < 12 then (if os_in (Int32.ofNat c_4) 12 then (if (st_sm.getD (Int32.toNatClampNeg (Int32.ofNat c_4)) 0) = 1 then ((ff_X12_tryTone N o_this o_this_panel u_5 u_7 u_9).bind fun u_16 => (if os_z u_16.1 then some (0, u_16.1, u_16.2, o_this_spare, o_this_walls) else none)) else (if (st_sm.getD (Int32.toNatClampNeg (Int32.ofNat c_4)) 0) = 2 then ((ff_X12_tryFill N o_this o_this_panel u_5 u_7 (1 : Int32) (1 : Int32) u_9).bind fun u_20 => (if os_z u_20.1 then some (0, u_20.1, u_20.2, o_this_spare, o_this_walls) else none)) else (if (st_sm.getD (Int32.toNatClampNeg (Int32.ofNat c_4)) 0) = 3 then ((ff_X8_numberOf N o_this_script a1 (4 : Int32)).bind fun u_24 => ((ff_X12_tryFill N o_this o_this_panel u_5 u_7 u_9 u_11 u_24).bind fun u_26 => (if os_z u_26.1 then some (0, u_26.1, u_26.2, o_this_spare, o_this_walls) else none))) else (if (st_sm.getD (Int32.toNatClampNeg (Int32.ofNat c_4)) 0) = 4 then ((ff_X12_tryStamp N o_this o_this_panel o_this_racks u_5 u_7 u_9 u_11).bind fun u_30 => (if os_z u_30.1 then some (0, u_30.1, u_30.2, o_this_spare, o_this_walls) else none)) else (if (st_sm.getD (Int32.toNatClampNeg (Int32.ofNat c_4)) 0) = 5 then ((ff_X12_trySmooth N o_this o_this_panel o_this_spare u_5).bind fun u_34 => (if os_z u_34.1 then some (0, u_34.1, u_34.2.1, u_34.2.2, o_this_walls) else none)) else (if (st_sm.getD (Int32.toNatClampNeg (Int32.ofNat c_4)) 0) = 6 then ((ff_X11_takeDown N o_this_walls o_this_panel).bind fun u_38 => some (0, (1 : Int32), u_38.2.2, o_this_spare, u_38.2.1)) else (if (st_sm.getD (Int32.toNatClampNeg (Int32.ofNat c_4)) 0) = 7 then ((ff_X9_settle N o_this_panel).bind fun u_41 => some (0, (1 : Int32), u_41.2, o_this_spare, o_this_walls)) else (if (st_sm.getD (Int32.toNatClampNeg (Int32.ofNat c_4)) 0) = 8 then ((ff_X2_spread N o_this_panel).bind fun u_44 => some (0, (1 : Int32), u_44.2, o_this_spare, o_this_walls)) else (if (st_sm.getD (Int32.toNatClampNeg (Int32.ofNat c_4)) 0) = 9 then ((ff_X2_refine N o_this_panel).bind fun u_47 => some (0, (1 : Int32), u_47.2, o_this_spare, o_this_walls)) else (if (st_sm.getD (Int32.toNatClampNeg (Int32.ofNat c_4)) 0) = 10 then ((ff_X5_negate N o_this_panel).bind fun u_50 => some (0, (1 : Int32), u_50.2, o_this_spare, o_this_walls)) else (if (st_sm.getD (Int32.toNatClampNeg (Int32.ofNat c_4)) 0) = 11 then ((ff_X5_turn N o_this_panel).bind fun u_53 => some (0, (1 : Int32), u_53.2, o_this_spare, o_this_walls)) else some (0, (0 : Int32), o_this_panel, o_this_spare, o_this_walls)))))))))))) else none) else none))))))) else some (u_1.1, (0 : Int32), o_this_panel, o_this_spare, o_this_walls)))
set_option maxHeartbeats 4000000 in
set_option maxRecDepth 100000 in
theorem mm_X12_tryCommand (l : Launch) (hst : l.stackTraces = false) (zz : Nat → Nat → Nat) (D : va_G) (kA : Nat → ClassId) (N : Nat) (g : Nat → Nat → Nat) (o_this : os_T) (o_this_panel : os_T) (o_this_spare : os_T) (o_this_walls : os_T) (o_this_racks : os_T) (o_this_script : os_T) (a1 : Int32) (out : (Nat × Int32 × os_T × os_T × os_T)) (hf : ff_X12_tryCommand N o_this o_this_panel o_this_spare o_this_walls o_this_racks o_this_script a1 = some out) : mx_C l zz D kA yX12_tryCommand wsX12_tryCommand ({ frames := 5, cells := 0, slots := 0, locals := 147 } : Room) [.ref ((g 0) 0), .int a1] (ce_X12 kA g o_this ++ (ce_X5 kA (g 1) o_this_panel ++ (ce_X5 kA (g 2) o_this_spare ++ (ce_X11 kA (g 13) o_this_walls ++ (ce_X6 kA (g 15) o_this_racks ++ (ce_X8 kA (zz 2) (g 18) (g 16) o_this_script)))))) out.1 (some (.int out.2.1)) (ce_X12 kA g o_this ++ (ce_X5 kA (g 1) out.2.2.1 ++ (ce_X5 kA (g 2) out.2.2.2.1 ++ (ce_X11 kA (g 13) out.2.2.2.2 ++ (ce_X6 kA (g 15) o_this_racks ++ (ce_X8 kA (zz 2) (g 18) (g 16) o_this_script)))))) := by
  refine mx_of (cc := cX12_tryCommand) (maxL := 7) (ret := (some .boolean)) (by decide) rfl (Nat.le_of_ble_eq_true rfl) ?_
  intro p e s m below meth c A B hx0 hZ hD hP hS ls hl
  obtain ⟨hx, hb, hr, hlk, hml, hown, hts, hK, hA, hnm⟩ := B
  have hown : s.vm.findClass RX12 = some m.cls := hown
  have hl : lv_has ls 7 [(0, .ref ((g 0) 0)), (1, .int a1)] := hl
  have hUX12 : ∀ w ∈ u_ws RX12 TX12 15, w.before [.ref ((g 0) 0), .int a1].toArray s = true := fun w h => hts w (List.mem_cons_of_mem _ (List.mem_append_left _ (List.mem_append_left _ (List.mem_append_left _ (List.mem_append_left _ (List.mem_append_right _ h))))))
  unfold ff_X12_tryCommand at hf
  refine lv_aload_n hx hb dX12_tryCommand_0 rfl (lv_at hl 0 rfl) ?_
  refine va_get (D := D) (ci := 8) (v := .ref ((g 18) 0)) (C := RX12) (T := TX12) (N := 15) hx hb hUX12 (fun _ h9 => h9) hown hK hP 0 rfl rfl 10 (by decide) (hts (Cond.fieldLink RX12 78 "ReliefBuilder" "script" "LReliefBuilder$Script;") (List.mem_of_getElem? (i := 1) rfl)) (fun _ h9 => h9) rfl dX12_tryCommand_1 ?_
  refine lv_iload_n hx hb dX12_tryCommand_4 rfl (lv_at hl 1 rfl) ?_
  obtain ⟨u_1, he_2, hf⟩ := os_bd hf
  refine mx_callV ⟨hx, hb, hml, hown, hts⟩ (mm_X8_commandAt l hst zz D kA N (g 18) (g 16) o_this_script a1 u_1 he_2) (cwV 1 hts gX12_tryCommand_X8_commandAt rfl rfl rfl (by decide +kernel) ⟨Nat.le_of_ble_eq_true rfl, Nat.le_of_ble_eq_true rfl⟩) (wc := (ce_X8 kA (zz 2) (g 18) (g 16) o_this_script)) (ci := 5) (q0 := 0) rfl rfl rfl hl.1 (As := [.int a1]) (rest := []) rfl (Nat.le_of_ble_eq_true rfl) dX12_tryCommand_5 ⟨Nat.le_of_ble_eq_true rfl, Nat.le_of_ble_eq_true rfl⟩ hK hP hD hS hA hZ [16, 17, 18, 19, 20] [0, 1, 2, 3, 4, 5, 6, 7, 8, 9, 10, 11, 12, 13, 14, 15] [0, 1, 2, 3, 4, 5, 6, 7, 8, 9, 10, 11, 12, 13, 14, 15, 16, 17, 18, 19, 20] rfl (by decide) rfl (by decide) (by decide) rfl (by decide) (wr := (ce_X12 kA g o_this ++ (ce_X5 kA (g 1) o_this_panel ++ (ce_X5 kA (g 2) o_this_spare ++ (ce_X11 kA (g 13) o_this_walls ++ (ce_X6 kA (g 15) o_this_racks)))))) (w2 := (ce_X12 kA g o_this ++ (ce_X5 kA (g 1) o_this_panel ++ (ce_X5 kA (g 2) o_this_spare ++ (ce_X11 kA (g 13) o_this_walls ++ (ce_X6 kA (g 15) o_this_racks ++ (ce_X8 kA (zz 2) (g 18) (g 16) o_this_script))))))) (fun hx9 H locs q9 ce hP hD hS h91 h92 h93 => ?_) (fun hx9 H locs hP hD hS => ?_)
  · rw [if_neg hx9] at hf
    rw [← Option.some.inj hf]
    exact mx_out hx9 hx0 hlk hP hK hD hS h91 h92 h93 (Nat.le_of_ble_eq_true rfl) (Nat.le_of_ble_eq_true rfl)
  · rw [if_pos hx9] at hf
    refine W.widen (k := 0) (n := 0) (Nat.le_of_ble_eq_true rfl) (Nat.le_of_ble_eq_true rfl) ?_
    have hP : va_P D vwCl (ce_X12 kA g o_this ++ (ce_X5 kA (g 1) o_this_panel ++ (ce_X5 kA (g 2) o_this_spare ++ (ce_X11 kA (g 13) o_this_walls ++ (ce_X6 kA (g 15) o_this_racks ++ (ce_X8 kA (zz 2) (g 18) (g 16) o_this_script)))))) H := hP
    rcases os_op hf with ⟨he_3, hf⟩ | ⟨c_4, he_3, hf⟩
    · rw [he_3]
      refine W.eq (g2 := F0 m 8 ls [.null]) rfl ?_
      refine lv_astore_nN (lv' := [(2, .null), (0, .ref ((g 0) 0)), (1, .int a1)]) hx hb dX12_tryCommand_8 rfl hl (by decide) rfl (fun ls hl => ?_)
      refine lv_aload_nN hx hb dX12_tryCommand_9 rfl (lv_at hl 0 rfl) ?_
      refine lv_ifnonnullN hx hb dX12_tryCommand_10 ?_
      refine lv_iconst (v := 0) hx hb dX12_tryCommand_13 (by decide) ?_
      rw [← Option.some.inj hf]
      exact mx_retz (v := 0) (Nat.le_of_ble_eq_true rfl) (Nat.le_of_ble_eq_true rfl) hx hb hr rfl hlk hP hK hD hS dX12_tryCommand_14
    · rw [he_3]
      refine W.eq (g2 := F0 m 8 ls [.ref (zz 2 c_4)]) rfl ?_
      refine lv_astore_n (lv' := [(2, .ref (zz 2 c_4)), (0, .ref ((g 0) 0)), (1, .int a1)]) hx hb dX12_tryCommand_8 rfl hl (by decide) rfl (fun ls hl => ?_)
      refine lv_aload_n hx hb dX12_tryCommand_9 rfl (lv_at hl 0 rfl) ?_
      refine lv_ifnonnull (tgt := 15) hx hb dX12_tryCommand_10 (by decide) ?_
      refine lv_aload_n hx hb dX12_tryCommand_15 rfl (lv_at hl 1 rfl) ?_
      refine va_get (D := D) (ci := 8) (v := .ref ((g 18) 0)) (C := RX12) (T := TX12) (N := 15) hx hb hUX12 (fun _ h9 => h9) hown hK hP 0 rfl rfl 10 (by decide) (hts (Cond.fieldLink RX12 78 "ReliefBuilder" "script" "LReliefBuilder$Script;") (List.mem_of_getElem? (i := 1) rfl)) (fun _ h9 => h9) rfl dX12_tryCommand_16 ?_
      refine lv_iload_n hx hb dX12_tryCommand_19 rfl (lv_at hl 2 rfl) ?_
      refine lv_iconst (v := 0) hx hb dX12_tryCommand_20 (by decide) ?_
      obtain ⟨u_5, he_6, hf⟩ := os_bd hf
      refine mc_callV ⟨hx, hb, hml, hown, hts⟩ (mm_X8_numberOf l zz D kA N (g 18) (g 16) o_this_script a1 (0 : Int32) u_5 he_6) (cwV 2 hts gX12_tryCommand_X8_numberOf rfl rfl rfl (by decide +kernel) ⟨Nat.le_of_ble_eq_true rfl, Nat.le_of_ble_eq_true rfl⟩) (wc := (ce_X8 kA (zz 2) (g 18) (g 16) o_this_script)) (ci := 5) (q0 := 0) rfl rfl rfl hl.1 (As := [.int a1, .int (0 : Int32)]) (rest := []) rfl (Nat.le_of_ble_eq_true rfl) dX12_tryCommand_21 ⟨Nat.le_of_ble_eq_true rfl, Nat.le_of_ble_eq_true rfl⟩ hK hP hD hS hA [16, 17, 18, 19, 20] [0, 1, 2, 3, 4, 5, 6, 7, 8, 9, 10, 11, 12, 13, 14, 15] [0, 1, 2, 3, 4, 5, 6, 7, 8, 9, 10, 11, 12, 13, 14, 15, 16, 17, 18, 19, 20] rfl (by decide) rfl (by decide) (by decide) rfl (by decide) (wr := (ce_X12 kA g o_this ++ (ce_X5 kA (g 1) o_this_panel ++ (ce_X5 kA (g 2) o_this_spare ++ (ce_X11 kA (g 13) o_this_walls ++ (ce_X6 kA (g 15) o_this_racks)))))) (w2 := (ce_X12 kA g o_this ++ (ce_X5 kA (g 1) o_this_panel ++ (ce_X5 kA (g 2) o_this_spare ++ (ce_X11 kA (g 13) o_this_walls ++ (ce_X6 kA (g 15) o_this_racks ++ (ce_X8 kA (zz 2) (g 18) (g 16) o_this_script))))))) (fun H locs hP hD hS => ?_)
      have hP : va_P D vwCl (ce_X12 kA g o_this ++ (ce_X5 kA (g 1) o_this_panel ++ (ce_X5 kA (g 2) o_this_spare ++ (ce_X11 kA (g 13) o_this_walls ++ (ce_X6 kA (g 15) o_this_racks ++ (ce_X8 kA (zz 2) (g 18) (g 16) o_this_script)))))) H := hP
      refine lv_istore_n (lv' := [(3, .int u_5), (2, .ref (zz 2 c_4)), (0, .ref ((g 0) 0)), (1, .int a1)]) hx hb dX12_tryCommand_24 rfl hl (by decide) rfl (fun ls hl => ?_)
      refine lv_aload_n hx hb dX12_tryCommand_25 rfl (lv_at hl 2 rfl) ?_
      refine va_get (D := D) (ci := 8) (v := .ref ((g 18) 0)) (C := RX12) (T := TX12) (N := 15) hx hb hUX12 (fun _ h9 => h9) hown hK hP 0 rfl rfl 10 (by decide) (hts (Cond.fieldLink RX12 78 "ReliefBuilder" "script" "LReliefBuilder$Script;") (List.mem_of_getElem? (i := 1) rfl)) (fun _ h9 => h9) rfl dX12_tryCommand_26 ?_
      refine lv_iload_n hx hb dX12_tryCommand_29 rfl (lv_at hl 3 rfl) ?_
      refine lv_iconst (v := 1) hx hb dX12_tryCommand_30 (by decide) ?_
      obtain ⟨u_7, he_8, hf⟩ := os_bd hf
      refine mc_callV ⟨hx, hb, hml, hown, hts⟩ (mm_X8_numberOf l zz D kA N (g 18) (g 16) o_this_script a1 (1 : Int32) u_7 he_8) (cwV 2 hts gX12_tryCommand_X8_numberOf rfl rfl rfl (by decide +kernel) ⟨Nat.le_of_ble_eq_true rfl, Nat.le_of_ble_eq_true rfl⟩) (wc := (ce_X8 kA (zz 2) (g 18) (g 16) o_this_script)) (ci := 5) (q0 := 0) rfl rfl rfl hl.1 (As := [.int a1, .int (1 : Int32)]) (rest := []) rfl (Nat.le_of_ble_eq_true rfl) dX12_tryCommand_31 ⟨Nat.le_of_ble_eq_true rfl, Nat.le_of_ble_eq_true rfl⟩ hK hP hD hS hA [16, 17, 18, 19, 20] [0, 1, 2, 3, 4, 5, 6, 7, 8, 9, 10, 11, 12, 13, 14, 15] [0, 1, 2, 3, 4, 5, 6, 7, 8, 9, 10, 11, 12, 13, 14, 15, 16, 17, 18, 19, 20] rfl (by decide) rfl (by decide) (by decide) rfl (by decide) (wr := (ce_X12 kA g o_this ++ (ce_X5 kA (g 1) o_this_panel ++ (ce_X5 kA (g 2) o_this_spare ++ (ce_X11 kA (g 13) o_this_walls ++ (ce_X6 kA (g 15) o_this_racks)))))) (w2 := (ce_X12 kA g o_this ++ (ce_X5 kA (g 1) o_this_panel ++ (ce_X5 kA (g 2) o_this_spare ++ (ce_X11 kA (g 13) o_this_walls ++ (ce_X6 kA (g 15) o_this_racks ++ (ce_X8 kA (zz 2) (g 18) (g 16) o_this_script))))))) (fun H locs hP hD hS => ?_)
      have hP : va_P D vwCl (ce_X12 kA g o_this ++ (ce_X5 kA (g 1) o_this_panel ++ (ce_X5 kA (g 2) o_this_spare ++ (ce_X11 kA (g 13) o_this_walls ++ (ce_X6 kA (g 15) o_this_racks ++ (ce_X8 kA (zz 2) (g 18) (g 16) o_this_script)))))) H := hP
      refine lv_istore (lv' := [(4, .int u_7), (3, .int u_5), (2, .ref (zz 2 c_4)), (0, .ref ((g 0) 0)), (1, .int a1)]) hx hb dX12_tryCommand_34 hl (by decide) rfl (fun ls hl => ?_)
      refine lv_aload_n hx hb dX12_tryCommand_36 rfl (lv_at hl 3 rfl) ?_
      refine va_get (D := D) (ci := 8) (v := .ref ((g 18) 0)) (C := RX12) (T := TX12) (N := 15) hx hb hUX12 (fun _ h9 => h9) hown hK hP 0 rfl rfl 10 (by decide) (hts (Cond.fieldLink RX12 78 "ReliefBuilder" "script" "LReliefBuilder$Script;") (List.mem_of_getElem? (i := 1) rfl)) (fun _ h9 => h9) rfl dX12_tryCommand_37 ?_
      refine lv_iload_n hx hb dX12_tryCommand_40 rfl (lv_at hl 4 rfl) ?_
      refine lv_iconst (v := 2) hx hb dX12_tryCommand_41 (by decide) ?_
      obtain ⟨u_9, he_10, hf⟩ := os_bd hf
      refine mc_callV ⟨hx, hb, hml, hown, hts⟩ (mm_X8_numberOf l zz D kA N (g 18) (g 16) o_this_script a1 (2 : Int32) u_9 he_10) (cwV 2 hts gX12_tryCommand_X8_numberOf rfl rfl rfl (by decide +kernel) ⟨Nat.le_of_ble_eq_true rfl, Nat.le_of_ble_eq_true rfl⟩) (wc := (ce_X8 kA (zz 2) (g 18) (g 16) o_this_script)) (ci := 5) (q0 := 0) rfl rfl rfl hl.1 (As := [.int a1, .int (2 : Int32)]) (rest := []) rfl (Nat.le_of_ble_eq_true rfl) dX12_tryCommand_42 ⟨Nat.le_of_ble_eq_true rfl, Nat.le_of_ble_eq_true rfl⟩ hK hP hD hS hA [16, 17, 18, 19, 20] [0, 1, 2, 3, 4, 5, 6, 7, 8, 9, 10, 11, 12, 13, 14, 15] [0, 1, 2, 3, 4, 5, 6, 7, 8, 9, 10, 11, 12, 13, 14, 15, 16, 17, 18, 19, 20] rfl (by decide) rfl (by decide) (by decide) rfl (by decide) (wr := (ce_X12 kA g o_this ++ (ce_X5 kA (g 1) o_this_panel ++ (ce_X5 kA (g 2) o_this_spare ++ (ce_X11 kA (g 13) o_this_walls ++ (ce_X6 kA (g 15) o_this_racks)))))) (w2 := (ce_X12 kA g o_this ++ (ce_X5 kA (g 1) o_this_panel ++ (ce_X5 kA (g 2) o_this_spare ++ (ce_X11 kA (g 13) o_this_walls ++ (ce_X6 kA (g 15) o_this_racks ++ (ce_X8 kA (zz 2) (g 18) (g 16) o_this_script))))))) (fun H locs hP hD hS => ?_)
      have hP : va_P D vwCl (ce_X12 kA g o_this ++ (ce_X5 kA (g 1) o_this_panel ++ (ce_X5 kA (g 2) o_this_spare ++ (ce_X11 kA (g 13) o_this_walls ++ (ce_X6 kA (g 15) o_this_racks ++ (ce_X8 kA (zz 2) (g 18) (g 16) o_this_script)))))) H := hP
      refine lv_istore (lv' := [(5, .int u_9), (4, .int u_7), (3, .int u_5), (2, .ref (zz 2 c_4)), (0, .ref ((g 0) 0)), (1, .int a1)]) hx hb dX12_tryCommand_45 hl (by decide) rfl (fun ls hl => ?_)
      refine lv_aload_n hx hb dX12_tryCommand_47 rfl (lv_at hl 4 rfl) ?_
      refine va_get (D := D) (ci := 8) (v := .ref ((g 18) 0)) (C := RX12) (T := TX12) (N := 15) hx hb hUX12 (fun _ h9 => h9) hown hK hP 0 rfl rfl 10 (by decide) (hts (Cond.fieldLink RX12 78 "ReliefBuilder" "script" "LReliefBuilder$Script;") (List.mem_of_getElem? (i := 1) rfl)) (fun _ h9 => h9) rfl dX12_tryCommand_48 ?_
      refine lv_iload_n hx hb dX12_tryCommand_51 rfl (lv_at hl 5 rfl) ?_
      refine lv_iconst (v := 3) hx hb dX12_tryCommand_52 (by decide) ?_
      obtain ⟨u_11, he_12, hf⟩ := os_bd hf
      refine mc_callV ⟨hx, hb, hml, hown, hts⟩ (mm_X8_numberOf l zz D kA N (g 18) (g 16) o_this_script a1 (3 : Int32) u_11 he_12) (cwV 2 hts gX12_tryCommand_X8_numberOf rfl rfl rfl (by decide +kernel) ⟨Nat.le_of_ble_eq_true rfl, Nat.le_of_ble_eq_true rfl⟩) (wc := (ce_X8 kA (zz 2) (g 18) (g 16) o_this_script)) (ci := 5) (q0 := 0) rfl rfl rfl hl.1 (As := [.int a1, .int (3 : Int32)]) (rest := []) rfl (Nat.le_of_ble_eq_true rfl) dX12_tryCommand_53 ⟨Nat.le_of_ble_eq_true rfl, Nat.le_of_ble_eq_true rfl⟩ hK hP hD hS hA [16, 17, 18, 19, 20] [0, 1, 2, 3, 4, 5, 6, 7, 8, 9, 10, 11, 12, 13, 14, 15] [0, 1, 2, 3, 4, 5, 6, 7, 8, 9, 10, 11, 12, 13, 14, 15, 16, 17, 18, 19, 20] rfl (by decide) rfl (by decide) (by decide) rfl (by decide) (wr := (ce_X12 kA g o_this ++ (ce_X5 kA (g 1) o_this_panel ++ (ce_X5 kA (g 2) o_this_spare ++ (ce_X11 kA (g 13) o_this_walls ++ (ce_X6 kA (g 15) o_this_racks)))))) (w2 := (ce_X12 kA g o_this ++ (ce_X5 kA (g 1) o_this_panel ++ (ce_X5 kA (g 2) o_this_spare ++ (ce_X11 kA (g 13) o_this_walls ++ (ce_X6 kA (g 15) o_this_racks ++ (ce_X8 kA (zz 2) (g 18) (g 16) o_this_script))))))) (fun H locs hP hD hS => ?_)
      have hP : va_P D vwCl (ce_X12 kA g o_this ++ (ce_X5 kA (g 1) o_this_panel ++ (ce_X5 kA (g 2) o_this_spare ++ (ce_X11 kA (g 13) o_this_walls ++ (ce_X6 kA (g 15) o_this_racks ++ (ce_X8 kA (zz 2) (g 18) (g 16) o_this_script)))))) H := hP
      refine lv_istore (lv' := [(6, .int u_11), (5, .int u_9), (4, .int u_7), (3, .int u_5), (2, .ref (zz 2 c_4)), (0, .ref ((g 0) 0)), (1, .int a1)]) hx hb dX12_tryCommand_56 hl (by decide) rfl (fun ls hl => ?_)
      refine va_gets hx hb hZ.2.2.2.2.2.2.2.1.1 hS hown (hts (Cond.fieldLink RX12 159 "ReliefBuilder$1" "$SwitchMap$ReliefBuilder$Command" "[I") (List.mem_of_getElem? (i := 2) rfl)) (fun _ h9 => h9) dX12_tryCommand_58 ?_
      refine lv_aload_n hx hb dX12_tryCommand_61 rfl (lv_at hl 4 rfl) ?_
      obtain ⟨hk_13, hf⟩ := os_if hf
      refine mx_callU ⟨hx, hb, hml, hown, hts⟩ (mm_ordinal l hst zz D kA c_4 hk_13) (va_cwU 0 hts gX12_tryCommand_Jx29ce0_ordinal_8abf5_u165X1 rfl rfl rfl rfl (by decide +kernel) ⟨Nat.le_of_ble_eq_true rfl, Nat.le_of_ble_eq_true rfl⟩) (va_Orecv (hZ.2.2.2.2.1 _ hk_13).2.1 hS) rfl hl.1 (As := []) (rest := [.ref (zz 3 1)]) rfl (Nat.le_of_ble_eq_true rfl) dX12_tryCommand_62 ⟨Nat.le_of_ble_eq_true rfl, Nat.le_of_ble_eq_true rfl⟩ hK hP hD hS hA hZ [] (List.range 21) (List.range 21) rfl (by decide) rfl (by decide) (by decide) rfl (by decide) (wr := (ce_X12 kA g o_this ++ (ce_X5 kA (g 1) o_this_panel ++ (ce_X5 kA (g 2) o_this_spare ++ (ce_X11 kA (g 13) o_this_walls ++ (ce_X6 kA (g 15) o_this_racks ++ (ce_X8 kA (zz 2) (g 18) (g 16) o_this_script))))))) (w2 := (ce_X12 kA g o_this ++ (ce_X5 kA (g 1) o_this_panel ++ (ce_X5 kA (g 2) o_this_spare ++ (ce_X11 kA (g 13) o_this_walls ++ (ce_X6 kA (g 15) o_this_racks ++ (ce_X8 kA (zz 2) (g 18) (g 16) o_this_script))))))) (fun h9 => (h9 rfl).elim) (fun _ H locs hP hD hS => ?_)
      have hP : va_P D vwCl (ce_X12 kA g o_this ++ (ce_X5 kA (g 1) o_this_panel ++ (ce_X5 kA (g 2) o_this_spare ++ (ce_X11 kA (g 13) o_this_walls ++ (ce_X6 kA (g 15) o_this_racks ++ (ce_X8 kA (zz 2) (g 18) (g 16) o_this_script)))))) H := hP
      obtain ⟨hi_14, hf⟩ := os_if hf
      refine va_ti hx hb hZ.2.2.2.2.2.2.2.1.2 hS hi_14 rfl dX12_tryCommand_65 ?_
      by_cases hc_15 : (st_sm.getD (Int32.toNatClampNeg (Int32.ofNat c_4)) 0) = 1
      · rw [if_pos hc_15] at hf
        refine lv_tableIn (tgt := 124) hx hb dX12_tryCommand_66 (by rw [hc_15]; decide) (by rw [hc_15]; decide) (by rw [hc_15]; rfl) (by decide) ?_
        refine lv_aload_n hx hb dX12_tryCommand_124 rfl (lv_at hl 5 rfl) ?_
        refine lv_iload_n hx hb dX12_tryCommand_125 rfl (lv_at hl 3 rfl) ?_
        refine lv_iload hx hb dX12_tryCommand_126 (lv_at hl 2 rfl) ?_
        refine lv_iload hx hb dX12_tryCommand_128 (lv_at hl 1 rfl) ?_
        obtain ⟨u_16, he_17, hf⟩ := os_bd hf
        refine mc_callV ⟨hx, hb, hml, hown, hts⟩ (mm_X12_tryTone l D kA N g o_this o_this_panel u_5 u_7 u_9 u_16 he_17) (cwV 3 hts gX12_tryCommand_X12_tryTone rfl rfl rfl (by decide +kernel) ⟨Nat.le_of_ble_eq_true rfl, Nat.le_of_ble_eq_true rfl⟩) (wc := (ce_X12 kA g o_this ++ (ce_X5 kA (g 1) o_this_panel))) (ci := 8) (q0 := 0) rfl rfl rfl hl.1 (As := [.int u_5, .int u_7, .int u_9]) (rest := []) rfl (Nat.le_of_ble_eq_true rfl) dX12_tryCommand_130 ⟨Nat.le_of_ble_eq_true rfl, Nat.le_of_ble_eq_true rfl⟩ hK hP hD hS hA [0, 1, 2, 3, 4, 5, 6, 7] [8, 9, 10, 11, 12, 13, 14, 15, 16, 17, 18, 19, 20] [13, 14, 15, 16, 17, 18, 19, 20, 0, 1, 2, 3, 4, 5, 6, 7, 8, 9, 10, 11, 12] rfl (by decide) rfl (by decide) (by decide) rfl (by decide) (wr := (ce_X5 kA (g 2) o_this_spare ++ (ce_X11 kA (g 13) o_this_walls ++ (ce_X6 kA (g 15) o_this_racks ++ (ce_X8 kA (zz 2) (g 18) (g 16) o_this_script))))) (w2 := (ce_X12 kA g o_this ++ (ce_X5 kA (g 1) u_16.2 ++ (ce_X5 kA (g 2) o_this_spare ++ (ce_X11 kA (g 13) o_this_walls ++ (ce_X6 kA (g 15) o_this_racks ++ (ce_X8 kA (zz 2) (g 18) (g 16) o_this_script))))))) (fun H locs hP hD hS => ?_)
        have hP : va_P D vwCl (ce_X12 kA g o_this ++ (ce_X5 kA (g 1) u_16.2 ++ (ce_X5 kA (g 2) o_this_spare ++ (ce_X11 kA (g 13) o_this_walls ++ (ce_X6 kA (g 15) o_this_racks ++ (ce_X8 kA (zz 2) (g 18) (g 16) o_this_script)))))) H := hP
        obtain ⟨hz_18, hf⟩ := os_if hf
        rw [← Option.some.inj hf]
        exact mx_retz (Nat.le_of_ble_eq_true rfl) (Nat.le_of_ble_eq_true rfl) hx hb hr (os_z_n hz_18) hlk hP hK hD hS dX12_tryCommand_133
      rw [if_neg hc_15] at hf
      by_cases hc_19 : (st_sm.getD (Int32.toNatClampNeg (Int32.ofNat c_4)) 0) = 2
      · rw [if_pos hc_19] at hf
        refine lv_tableIn (tgt := 134) hx hb dX12_tryCommand_66 (by rw [hc_19]; decide) (by rw [hc_19]; decide) (by rw [hc_19]; rfl) (by decide) ?_
        refine lv_aload_n hx hb dX12_tryCommand_134 rfl (lv_at hl 5 rfl) ?_
        refine lv_iload_n hx hb dX12_tryCommand_135 rfl (lv_at hl 3 rfl) ?_
        refine lv_iload hx hb dX12_tryCommand_136 (lv_at hl 2 rfl) ?_
        refine lv_iconst (v := 1) hx hb dX12_tryCommand_138 (by decide) ?_
        refine lv_iconst (v := 1) hx hb dX12_tryCommand_139 (by decide) ?_
        refine lv_iload hx hb dX12_tryCommand_140 (lv_at hl 1 rfl) ?_
        obtain ⟨u_20, he_21, hf⟩ := os_bd hf
        refine mc_callV ⟨hx, hb, hml, hown, hts⟩ (mm_X12_tryFill l D kA N g o_this o_this_panel u_5 u_7 (1 : Int32) (1 : Int32) u_9 u_20 he_21) (cwV 5 hts gX12_tryCommand_X12_tryFill rfl rfl rfl (by decide +kernel) ⟨Nat.le_of_ble_eq_true rfl, Nat.le_of_ble_eq_true rfl⟩) (wc := (ce_X12 kA g o_this ++ (ce_X5 kA (g 1) o_this_panel))) (ci := 8) (q0 := 0) rfl rfl rfl hl.1 (As := [.int u_5, .int u_7, .int (1 : Int32), .int (1 : Int32), .int u_9]) (rest := []) rfl (Nat.le_of_ble_eq_true rfl) dX12_tryCommand_142 ⟨Nat.le_of_ble_eq_true rfl, Nat.le_of_ble_eq_true rfl⟩ hK hP hD hS hA [0, 1, 2, 3, 4, 5, 6, 7] [8, 9, 10, 11, 12, 13, 14, 15, 16, 17, 18, 19, 20] [13, 14, 15, 16, 17, 18, 19, 20, 0, 1, 2, 3, 4, 5, 6, 7, 8, 9, 10, 11, 12] rfl (by decide) rfl (by decide) (by decide) rfl (by decide) (wr := (ce_X5 kA (g 2) o_this_spare ++ (ce_X11 kA (g 13) o_this_walls ++ (ce_X6 kA (g 15) o_this_racks ++ (ce_X8 kA (zz 2) (g 18) (g 16) o_this_script))))) (w2 := (ce_X12 kA g o_this ++ (ce_X5 kA (g 1) u_20.2 ++ (ce_X5 kA (g 2) o_this_spare ++ (ce_X11 kA (g 13) o_this_walls ++ (ce_X6 kA (g 15) o_this_racks ++ (ce_X8 kA (zz 2) (g 18) (g 16) o_this_script))))))) (fun H locs hP hD hS => ?_)
        have hP : va_P D vwCl (ce_X12 kA g o_this ++ (ce_X5 kA (g 1) u_20.2 ++ (ce_X5 kA (g 2) o_this_spare ++ (ce_X11 kA (g 13) o_this_walls ++ (ce_X6 kA (g 15) o_this_racks ++ (ce_X8 kA (zz 2) (g 18) (g 16) o_this_script)))))) H := hP
        obtain ⟨hz_22, hf⟩ := os_if hf
        rw [← Option.some.inj hf]
        exact mx_retz (Nat.le_of_ble_eq_true rfl) (Nat.le_of_ble_eq_true rfl) hx hb hr (os_z_n hz_22) hlk hP hK hD hS dX12_tryCommand_145
      rw [if_neg hc_19] at hf
      by_cases hc_23 : (st_sm.getD (Int32.toNatClampNeg (Int32.ofNat c_4)) 0) = 3
      · rw [if_pos hc_23] at hf
        refine lv_tableIn (tgt := 146) hx hb dX12_tryCommand_66 (by rw [hc_23]; decide) (by rw [hc_23]; decide) (by rw [hc_23]; rfl) (by decide) ?_
        refine lv_aload_n hx hb dX12_tryCommand_146 rfl (lv_at hl 5 rfl) ?_
        refine lv_iload_n hx hb dX12_tryCommand_147 rfl (lv_at hl 3 rfl) ?_
        refine lv_iload hx hb dX12_tryCommand_148 (lv_at hl 2 rfl) ?_
        refine lv_iload hx hb dX12_tryCommand_150 (lv_at hl 1 rfl) ?_
        refine lv_iload hx hb dX12_tryCommand_152 (lv_at hl 0 rfl) ?_
        refine lv_aload_n hx hb dX12_tryCommand_154 rfl (lv_at hl 5 rfl) ?_
        refine va_get (D := D) (ci := 8) (v := .ref ((g 18) 0)) (C := RX12) (T := TX12) (N := 15) hx hb hUX12 (fun _ h9 => h9) hown hK hP 0 rfl rfl 10 (by decide) (hts (Cond.fieldLink RX12 78 "ReliefBuilder" "script" "LReliefBuilder$Script;") (List.mem_of_getElem? (i := 1) rfl)) (fun _ h9 => h9) rfl dX12_tryCommand_155 ?_
        refine lv_iload_n hx hb dX12_tryCommand_158 rfl (lv_at hl 6 rfl) ?_
        refine lv_iconst (v := 4) hx hb dX12_tryCommand_159 (by decide) ?_
        obtain ⟨u_24, he_25, hf⟩ := os_bd hf
        refine mc_callV ⟨hx, hb, hml, hown, hts⟩ (mm_X8_numberOf l zz D kA N (g 18) (g 16) o_this_script a1 (4 : Int32) u_24 he_25) (cwV 2 hts gX12_tryCommand_X8_numberOf rfl rfl rfl (by decide +kernel) ⟨Nat.le_of_ble_eq_true rfl, Nat.le_of_ble_eq_true rfl⟩) (wc := (ce_X8 kA (zz 2) (g 18) (g 16) o_this_script)) (ci := 5) (q0 := 0) rfl rfl rfl hl.1 (As := [.int a1, .int (4 : Int32)]) (rest := [.int u_11, .int u_9, .int u_7, .int u_5, .ref ((g 0) 0)]) rfl (Nat.le_of_ble_eq_true rfl) dX12_tryCommand_160 ⟨Nat.le_of_ble_eq_true rfl, Nat.le_of_ble_eq_true rfl⟩ hK hP hD hS hA [16, 17, 18, 19, 20] [0, 1, 2, 3, 4, 5, 6, 7, 8, 9, 10, 11, 12, 13, 14, 15] [0, 1, 2, 3, 4, 5, 6, 7, 8, 9, 10, 11, 12, 13, 14, 15, 16, 17, 18, 19, 20] rfl (by decide) rfl (by decide) (by decide) rfl (by decide) (wr := (ce_X12 kA g o_this ++ (ce_X5 kA (g 1) o_this_panel ++ (ce_X5 kA (g 2) o_this_spare ++ (ce_X11 kA (g 13) o_this_walls ++ (ce_X6 kA (g 15) o_this_racks)))))) (w2 := (ce_X12 kA g o_this ++ (ce_X5 kA (g 1) o_this_panel ++ (ce_X5 kA (g 2) o_this_spare ++ (ce_X11 kA (g 13) o_this_walls ++ (ce_X6 kA (g 15) o_this_racks ++ (ce_X8 kA (zz 2) (g 18) (g 16) o_this_script))))))) (fun H locs hP hD hS => ?_)
        have hP : va_P D vwCl (ce_X12 kA g o_this ++ (ce_X5 kA (g 1) o_this_panel ++ (ce_X5 kA (g 2) o_this_spare ++ (ce_X11 kA (g 13) o_this_walls ++ (ce_X6 kA (g 15) o_this_racks ++ (ce_X8 kA (zz 2) (g 18) (g 16) o_this_script)))))) H := hP
        obtain ⟨u_26, he_27, hf⟩ := os_bd hf
        refine mc_callV ⟨hx, hb, hml, hown, hts⟩ (mm_X12_tryFill l D kA N g o_this o_this_panel u_5 u_7 u_9 u_11 u_24 u_26 he_27) (cwV 5 hts gX12_tryCommand_X12_tryFill rfl rfl rfl (by decide +kernel) ⟨Nat.le_of_ble_eq_true rfl, Nat.le_of_ble_eq_true rfl⟩) (wc := (ce_X12 kA g o_this ++ (ce_X5 kA (g 1) o_this_panel))) (ci := 8) (q0 := 0) rfl rfl rfl hl.1 (As := [.int u_5, .int u_7, .int u_9, .int u_11, .int u_24]) (rest := []) rfl (Nat.le_of_ble_eq_true rfl) dX12_tryCommand_163 ⟨Nat.le_of_ble_eq_true rfl, Nat.le_of_ble_eq_true rfl⟩ hK hP hD hS hA [0, 1, 2, 3, 4, 5, 6, 7] [8, 9, 10, 11, 12, 13, 14, 15, 16, 17, 18, 19, 20] [13, 14, 15, 16, 17, 18, 19, 20, 0, 1, 2, 3, 4, 5, 6, 7, 8, 9, 10, 11, 12] rfl (by decide) rfl (by decide) (by decide) rfl (by decide) (wr := (ce_X5 kA (g 2) o_this_spare ++ (ce_X11 kA (g 13) o_this_walls ++ (ce_X6 kA (g 15) o_this_racks ++ (ce_X8 kA (zz 2) (g 18) (g 16) o_this_script))))) (w2 := (ce_X12 kA g o_this ++ (ce_X5 kA (g 1) u_26.2 ++ (ce_X5 kA (g 2) o_this_spare ++ (ce_X11 kA (g 13) o_this_walls ++ (ce_X6 kA (g 15) o_this_racks ++ (ce_X8 kA (zz 2) (g 18) (g 16) o_this_script))))))) (fun H locs hP hD hS => ?_)
        have hP : va_P D vwCl (ce_X12 kA g o_this ++ (ce_X5 kA (g 1) u_26.2 ++ (ce_X5 kA (g 2) o_this_spare ++ (ce_X11 kA (g 13) o_this_walls ++ (ce_X6 kA (g 15) o_this_racks ++ (ce_X8 kA (zz 2) (g 18) (g 16) o_this_script)))))) H := hP
        obtain ⟨hz_28, hf⟩ := os_if hf
        rw [← Option.some.inj hf]
        exact mx_retz (Nat.le_of_ble_eq_true rfl) (Nat.le_of_ble_eq_true rfl) hx hb hr (os_z_n hz_28) hlk hP hK hD hS dX12_tryCommand_166
      rw [if_neg hc_23] at hf
      by_cases hc_29 : (st_sm.getD (Int32.toNatClampNeg (Int32.ofNat c_4)) 0) = 4
      · rw [if_pos hc_29] at hf
        refine lv_tableIn (tgt := 167) hx hb dX12_tryCommand_66 (by rw [hc_29]; decide) (by rw [hc_29]; decide) (by rw [hc_29]; rfl) (by decide) ?_
        refine lv_aload_n hx hb dX12_tryCommand_167 rfl (lv_at hl 5 rfl) ?_
        refine lv_iload_n hx hb dX12_tryCommand_168 rfl (lv_at hl 3 rfl) ?_
        refine lv_iload hx hb dX12_tryCommand_169 (lv_at hl 2 rfl) ?_
        refine lv_iload hx hb dX12_tryCommand_171 (lv_at hl 1 rfl) ?_
        refine lv_iload hx hb dX12_tryCommand_173 (lv_at hl 0 rfl) ?_
        obtain ⟨u_30, he_31, hf⟩ := os_bd hf
        refine mc_callV ⟨hx, hb, hml, hown, hts⟩ (mm_X12_tryStamp l D kA N g o_this o_this_panel o_this_racks u_5 u_7 u_9 u_11 u_30 he_31) (cwV 4 hts gX12_tryCommand_X12_tryStamp rfl rfl rfl (by decide +kernel) ⟨Nat.le_of_ble_eq_true rfl, Nat.le_of_ble_eq_true rfl⟩) (wc := (ce_X12 kA g o_this ++ (ce_X5 kA (g 1) o_this_panel ++ (ce_X6 kA (g 15) o_this_racks)))) (ci := 8) (q0 := 0) rfl rfl rfl hl.1 (As := [.int u_5, .int u_7, .int u_9, .int u_11]) (rest := []) rfl (Nat.le_of_ble_eq_true rfl) dX12_tryCommand_175 ⟨Nat.le_of_ble_eq_true rfl, Nat.le_of_ble_eq_true rfl⟩ hK hP hD hS hA [0, 1, 2, 3, 4, 5, 6, 7, 14, 15] [8, 9, 10, 11, 12, 13, 16, 17, 18, 19, 20] [11, 12, 13, 14, 15, 16, 17, 18, 0, 1, 2, 3, 4, 5, 19, 20, 6, 7, 8, 9, 10] rfl (by decide) rfl (by decide) (by decide) rfl (by decide) (wr := (ce_X5 kA (g 2) o_this_spare ++ (ce_X11 kA (g 13) o_this_walls ++ (ce_X8 kA (zz 2) (g 18) (g 16) o_this_script)))) (w2 := (ce_X12 kA g o_this ++ (ce_X5 kA (g 1) u_30.2 ++ (ce_X5 kA (g 2) o_this_spare ++ (ce_X11 kA (g 13) o_this_walls ++ (ce_X6 kA (g 15) o_this_racks ++ (ce_X8 kA (zz 2) (g 18) (g 16) o_this_script))))))) (fun H locs hP hD hS => ?_)
        have hP : va_P D vwCl (ce_X12 kA g o_this ++ (ce_X5 kA (g 1) u_30.2 ++ (ce_X5 kA (g 2) o_this_spare ++ (ce_X11 kA (g 13) o_this_walls ++ (ce_X6 kA (g 15) o_this_racks ++ (ce_X8 kA (zz 2) (g 18) (g 16) o_this_script)))))) H := hP
        obtain ⟨hz_32, hf⟩ := os_if hf
        rw [← Option.some.inj hf]
        exact mx_retz (Nat.le_of_ble_eq_true rfl) (Nat.le_of_ble_eq_true rfl) hx hb hr (os_z_n hz_32) hlk hP hK hD hS dX12_tryCommand_178
      rw [if_neg hc_29] at hf
      by_cases hc_33 : (st_sm.getD (Int32.toNatClampNeg (Int32.ofNat c_4)) 0) = 5
      · rw [if_pos hc_33] at hf
        refine lv_tableIn (tgt := 179) hx hb dX12_tryCommand_66 (by rw [hc_33]; decide) (by rw [hc_33]; decide) (by rw [hc_33]; rfl) (by decide) ?_
        refine lv_aload_n hx hb dX12_tryCommand_179 rfl (lv_at hl 5 rfl) ?_
        refine lv_iload_n hx hb dX12_tryCommand_180 rfl (lv_at hl 3 rfl) ?_
        obtain ⟨u_34, he_35, hf⟩ := os_bd hf
        refine mc_callV ⟨hx, hb, hml, hown, hts⟩ (mm_X12_trySmooth l D kA N g o_this o_this_panel o_this_spare u_5 u_34 he_35) (cwV 1 hts gX12_tryCommand_X12_trySmooth rfl rfl rfl (by decide +kernel) ⟨Nat.le_of_ble_eq_true rfl, Nat.le_of_ble_eq_true rfl⟩) (wc := (ce_X12 kA g o_this ++ (ce_X5 kA (g 1) o_this_panel ++ (ce_X5 kA (g 2) o_this_spare)))) (ci := 8) (q0 := 0) rfl rfl rfl hl.1 (As := [.int u_5]) (rest := []) rfl (Nat.le_of_ble_eq_true rfl) dX12_tryCommand_181 ⟨Nat.le_of_ble_eq_true rfl, Nat.le_of_ble_eq_true rfl⟩ hK hP hD hS hA [0, 1, 2, 3, 4, 5, 6, 7, 8, 9, 10, 11] [12, 13, 14, 15, 16, 17, 18, 19, 20] [9, 10, 11, 12, 13, 14, 15, 16, 17, 18, 19, 20, 0, 1, 2, 3, 4, 5, 6, 7, 8] rfl (by decide) rfl (by decide) (by decide) rfl (by decide) (wr := (ce_X11 kA (g 13) o_this_walls ++ (ce_X6 kA (g 15) o_this_racks ++ (ce_X8 kA (zz 2) (g 18) (g 16) o_this_script)))) (w2 := (ce_X12 kA g o_this ++ (ce_X5 kA (g 1) u_34.2.1 ++ (ce_X5 kA (g 2) u_34.2.2 ++ (ce_X11 kA (g 13) o_this_walls ++ (ce_X6 kA (g 15) o_this_racks ++ (ce_X8 kA (zz 2) (g 18) (g 16) o_this_script))))))) (fun H locs hP hD hS => ?_)
        have hP : va_P D vwCl (ce_X12 kA g o_this ++ (ce_X5 kA (g 1) u_34.2.1 ++ (ce_X5 kA (g 2) u_34.2.2 ++ (ce_X11 kA (g 13) o_this_walls ++ (ce_X6 kA (g 15) o_this_racks ++ (ce_X8 kA (zz 2) (g 18) (g 16) o_this_script)))))) H := hP
        obtain ⟨hz_36, hf⟩ := os_if hf
        rw [← Option.some.inj hf]
        exact mx_retz (Nat.le_of_ble_eq_true rfl) (Nat.le_of_ble_eq_true rfl) hx hb hr (os_z_n hz_36) hlk hP hK hD hS dX12_tryCommand_184
      rw [if_neg hc_33] at hf
      by_cases hc_37 : (st_sm.getD (Int32.toNatClampNeg (Int32.ofNat c_4)) 0) = 6
      · rw [if_pos hc_37] at hf
        refine lv_tableIn (tgt := 185) hx hb dX12_tryCommand_66 (by rw [hc_37]; decide) (by rw [hc_37]; decide) (by rw [hc_37]; rfl) (by decide) ?_
        refine lv_aload_n hx hb dX12_tryCommand_185 rfl (lv_at hl 5 rfl) ?_
        refine va_get (D := D) (ci := 8) (v := .ref ((g 13) 0)) (C := RX12) (T := TX12) (N := 15) hx hb hUX12 (fun _ h9 => h9) hown hK hP 0 rfl rfl 5 (by decide) (hts (Cond.fieldLink RX12 37 "ReliefBuilder" "walls" "LReliefBuilder$Walls;") (List.mem_of_getElem? (i := 3) rfl)) (fun _ h9 => h9) rfl dX12_tryCommand_186 ?_
        refine lv_aload_n hx hb dX12_tryCommand_189 rfl (lv_at hl 5 rfl) ?_
        refine va_get (D := D) (ci := 8) (v := .ref ((g 1) 0)) (C := RX12) (T := TX12) (N := 15) hx hb hUX12 (fun _ h9 => h9) hown hK hP 0 rfl rfl 0 (by decide) (hts (Cond.fieldLink RX12 12 "ReliefBuilder" "panel" "LReliefBuilder$Panel;") (List.mem_of_getElem? (i := 4) rfl)) (fun _ h9 => h9) rfl dX12_tryCommand_190 ?_
        obtain ⟨u_38, he_39, hf⟩ := os_bd hf
        refine mc_callV ⟨hx, hb, hml, hown, hts⟩ (mm_X11_takeDown l D kA N (g 13) (g 1) o_this_walls o_this_panel u_38 he_39) (cwV 1 hts gX12_tryCommand_X11_takeDown rfl rfl rfl (by decide +kernel) ⟨Nat.le_of_ble_eq_true rfl, Nat.le_of_ble_eq_true rfl⟩) (wc := (ce_X11 kA (g 13) o_this_walls ++ (ce_X5 kA (g 1) o_this_panel))) (ci := 7) (q0 := 0) rfl rfl rfl hl.1 (As := [.ref ((g 1) 0)]) (rest := []) rfl (Nat.le_of_ble_eq_true rfl) dX12_tryCommand_193 ⟨Nat.le_of_ble_eq_true rfl, Nat.le_of_ble_eq_true rfl⟩ hK hP hD hS hA [12, 13, 4, 5, 6, 7] [0, 1, 2, 3, 8, 9, 10, 11, 14, 15, 16, 17, 18, 19, 20] [0, 1, 2, 3, 17, 18, 19, 20, 4, 5, 6, 7, 15, 16, 8, 9, 10, 11, 12, 13, 14] rfl (by decide) rfl (by decide) (by decide) rfl (by decide) (wr := (ce_X12 kA g o_this ++ (ce_X5 kA (g 2) o_this_spare ++ (ce_X6 kA (g 15) o_this_racks ++ (ce_X8 kA (zz 2) (g 18) (g 16) o_this_script))))) (w2 := (ce_X12 kA g o_this ++ (ce_X5 kA (g 1) u_38.2.2 ++ (ce_X5 kA (g 2) o_this_spare ++ (ce_X11 kA (g 13) u_38.2.1 ++ (ce_X6 kA (g 15) o_this_racks ++ (ce_X8 kA (zz 2) (g 18) (g 16) o_this_script))))))) (fun H locs hP hD hS => ?_)
        have hP : va_P D vwCl (ce_X12 kA g o_this ++ (ce_X5 kA (g 1) u_38.2.2 ++ (ce_X5 kA (g 2) o_this_spare ++ (ce_X11 kA (g 13) u_38.2.1 ++ (ce_X6 kA (g 15) o_this_racks ++ (ce_X8 kA (zz 2) (g 18) (g 16) o_this_script)))))) H := hP
        refine lv_pop hx hb dX12_tryCommand_196 rfl ?_
        refine lv_iconst (v := 1) hx hb dX12_tryCommand_197 (by decide) ?_
        rw [← Option.some.inj hf]
        exact mx_retz (v := 1) (Nat.le_of_ble_eq_true rfl) (Nat.le_of_ble_eq_true rfl) hx hb hr rfl hlk hP hK hD hS dX12_tryCommand_198
      rw [if_neg hc_37] at hf
      by_cases hc_40 : (st_sm.getD (Int32.toNatClampNeg (Int32.ofNat c_4)) 0) = 7
      · rw [if_pos hc_40] at hf
        refine lv_tableIn (tgt := 199) hx hb dX12_tryCommand_66 (by rw [hc_40]; decide) (by rw [hc_40]; decide) (by rw [hc_40]; rfl) (by decide) ?_
        refine lv_aload_n hx hb dX12_tryCommand_199 rfl (lv_at hl 5 rfl) ?_
        refine va_get (D := D) (ci := 8) (v := .ref ((g 1) 0)) (C := RX12) (T := TX12) (N := 15) hx hb hUX12 (fun _ h9 => h9) hown hK hP 0 rfl rfl 0 (by decide) (hts (Cond.fieldLink RX12 12 "ReliefBuilder" "panel" "LReliefBuilder$Panel;") (List.mem_of_getElem? (i := 4) rfl)) (fun _ h9 => h9) rfl dX12_tryCommand_200 ?_
        obtain ⟨u_41, he_42, hf⟩ := os_bd hf
        refine mc_callS ⟨hx, hb, hml, hown, hts⟩ (mm_X9_settle l D kA N (g 1) o_this_panel u_41 he_42) (va_cwS 1 hts gX12_tryCommand_X9_settle rfl rfl rfl (by decide +kernel) ⟨Nat.le_of_ble_eq_true rfl, Nat.le_of_ble_eq_true rfl⟩) (wc := (ce_X5 kA (g 1) o_this_panel)) rfl hl.1 (As := [.ref ((g 1) 0)]) (rest := []) rfl (Nat.le_of_ble_eq_true rfl) dX12_tryCommand_203 ⟨Nat.le_of_ble_eq_true rfl, Nat.le_of_ble_eq_true rfl⟩ hK hP hD hS hA [4, 5, 6, 7] [0, 1, 2, 3, 8, 9, 10, 11, 12, 13, 14, 15, 16, 17, 18, 19, 20] [0, 1, 2, 3, 17, 18, 19, 20, 4, 5, 6, 7, 8, 9, 10, 11, 12, 13, 14, 15, 16] rfl (by decide) rfl (by decide) (by decide) rfl (by decide) (wr := (ce_X12 kA g o_this ++ (ce_X5 kA (g 2) o_this_spare ++ (ce_X11 kA (g 13) o_this_walls ++ (ce_X6 kA (g 15) o_this_racks ++ (ce_X8 kA (zz 2) (g 18) (g 16) o_this_script)))))) (w2 := (ce_X12 kA g o_this ++ (ce_X5 kA (g 1) u_41.2 ++ (ce_X5 kA (g 2) o_this_spare ++ (ce_X11 kA (g 13) o_this_walls ++ (ce_X6 kA (g 15) o_this_racks ++ (ce_X8 kA (zz 2) (g 18) (g 16) o_this_script))))))) (fun H locs hP hD hS => ?_)
        have hP : va_P D vwCl (ce_X12 kA g o_this ++ (ce_X5 kA (g 1) u_41.2 ++ (ce_X5 kA (g 2) o_this_spare ++ (ce_X11 kA (g 13) o_this_walls ++ (ce_X6 kA (g 15) o_this_racks ++ (ce_X8 kA (zz 2) (g 18) (g 16) o_this_script)))))) H := hP
        refine lv_pop hx hb dX12_tryCommand_206 rfl ?_
        refine lv_iconst (v := 1) hx hb dX12_tryCommand_207 (by decide) ?_
        rw [← Option.some.inj hf]
        exact mx_retz (v := 1) (Nat.le_of_ble_eq_true rfl) (Nat.le_of_ble_eq_true rfl) hx hb hr rfl hlk hP hK hD hS dX12_tryCommand_208
      rw [if_neg hc_40] at hf
      by_cases hc_43 : (st_sm.getD (Int32.toNatClampNeg (Int32.ofNat c_4)) 0) = 8
      · rw [if_pos hc_43] at hf
        refine lv_tableIn (tgt := 209) hx hb dX12_tryCommand_66 (by rw [hc_43]; decide) (by rw [hc_43]; decide) (by rw [hc_43]; rfl) (by decide) ?_
        refine lv_aload_n hx hb dX12_tryCommand_209 rfl (lv_at hl 5 rfl) ?_
        refine va_get (D := D) (ci := 8) (v := .ref ((g 1) 0)) (C := RX12) (T := TX12) (N := 15) hx hb hUX12 (fun _ h9 => h9) hown hK hP 0 rfl rfl 0 (by decide) (hts (Cond.fieldLink RX12 12 "ReliefBuilder" "panel" "LReliefBuilder$Panel;") (List.mem_of_getElem? (i := 4) rfl)) (fun _ h9 => h9) rfl dX12_tryCommand_210 ?_
        obtain ⟨u_44, he_45, hf⟩ := os_bd hf
        refine mc_callS ⟨hx, hb, hml, hown, hts⟩ (mm_X2_spread l D kA N (g 1) o_this_panel u_44 he_45) (va_cwS 1 hts gX12_tryCommand_X2_spread rfl rfl rfl (by decide +kernel) ⟨Nat.le_of_ble_eq_true rfl, Nat.le_of_ble_eq_true rfl⟩) (wc := (ce_X5 kA (g 1) o_this_panel)) rfl hl.1 (As := [.ref ((g 1) 0)]) (rest := []) rfl (Nat.le_of_ble_eq_true rfl) dX12_tryCommand_213 ⟨Nat.le_of_ble_eq_true rfl, Nat.le_of_ble_eq_true rfl⟩ hK hP hD hS hA [4, 5, 6, 7] [0, 1, 2, 3, 8, 9, 10, 11, 12, 13, 14, 15, 16, 17, 18, 19, 20] [0, 1, 2, 3, 17, 18, 19, 20, 4, 5, 6, 7, 8, 9, 10, 11, 12, 13, 14, 15, 16] rfl (by decide) rfl (by decide) (by decide) rfl (by decide) (wr := (ce_X12 kA g o_this ++ (ce_X5 kA (g 2) o_this_spare ++ (ce_X11 kA (g 13) o_this_walls ++ (ce_X6 kA (g 15) o_this_racks ++ (ce_X8 kA (zz 2) (g 18) (g 16) o_this_script)))))) (w2 := (ce_X12 kA g o_this ++ (ce_X5 kA (g 1) u_44.2 ++ (ce_X5 kA (g 2) o_this_spare ++ (ce_X11 kA (g 13) o_this_walls ++ (ce_X6 kA (g 15) o_this_racks ++ (ce_X8 kA (zz 2) (g 18) (g 16) o_this_script))))))) (fun H locs hP hD hS => ?_)
        have hP : va_P D vwCl (ce_X12 kA g o_this ++ (ce_X5 kA (g 1) u_44.2 ++ (ce_X5 kA (g 2) o_this_spare ++ (ce_X11 kA (g 13) o_this_walls ++ (ce_X6 kA (g 15) o_this_racks ++ (ce_X8 kA (zz 2) (g 18) (g 16) o_this_script)))))) H := hP
        refine lv_pop hx hb dX12_tryCommand_216 rfl ?_
        refine lv_iconst (v := 1) hx hb dX12_tryCommand_217 (by decide) ?_
        rw [← Option.some.inj hf]
        exact mx_retz (v := 1) (Nat.le_of_ble_eq_true rfl) (Nat.le_of_ble_eq_true rfl) hx hb hr rfl hlk hP hK hD hS dX12_tryCommand_218
      rw [if_neg hc_43] at hf
      by_cases hc_46 : (st_sm.getD (Int32.toNatClampNeg (Int32.ofNat c_4)) 0) = 9
      · rw [if_pos hc_46] at hf
        refine lv_tableIn (tgt := 219) hx hb dX12_tryCommand_66 (by rw [hc_46]; decide) (by rw [hc_46]; decide) (by rw [hc_46]; rfl) (by decide) ?_
        refine lv_aload_n hx hb dX12_tryCommand_219 rfl (lv_at hl 5 rfl) ?_
        refine va_get (D := D) (ci := 8) (v := .ref ((g 1) 0)) (C := RX12) (T := TX12) (N := 15) hx hb hUX12 (fun _ h9 => h9) hown hK hP 0 rfl rfl 0 (by decide) (hts (Cond.fieldLink RX12 12 "ReliefBuilder" "panel" "LReliefBuilder$Panel;") (List.mem_of_getElem? (i := 4) rfl)) (fun _ h9 => h9) rfl dX12_tryCommand_220 ?_
        obtain ⟨u_47, he_48, hf⟩ := os_bd hf
        refine mc_callS ⟨hx, hb, hml, hown, hts⟩ (mm_X2_refine l D kA N (g 1) o_this_panel u_47 he_48) (va_cwS 1 hts gX12_tryCommand_X2_refine rfl rfl rfl (by decide +kernel) ⟨Nat.le_of_ble_eq_true rfl, Nat.le_of_ble_eq_true rfl⟩) (wc := (ce_X5 kA (g 1) o_this_panel)) rfl hl.1 (As := [.ref ((g 1) 0)]) (rest := []) rfl (Nat.le_of_ble_eq_true rfl) dX12_tryCommand_223 ⟨Nat.le_of_ble_eq_true rfl, Nat.le_of_ble_eq_true rfl⟩ hK hP hD hS hA [4, 5, 6, 7] [0, 1, 2, 3, 8, 9, 10, 11, 12, 13, 14, 15, 16, 17, 18, 19, 20] [0, 1, 2, 3, 17, 18, 19, 20, 4, 5, 6, 7, 8, 9, 10, 11, 12, 13, 14, 15, 16] rfl (by decide) rfl (by decide) (by decide) rfl (by decide) (wr := (ce_X12 kA g o_this ++ (ce_X5 kA (g 2) o_this_spare ++ (ce_X11 kA (g 13) o_this_walls ++ (ce_X6 kA (g 15) o_this_racks ++ (ce_X8 kA (zz 2) (g 18) (g 16) o_this_script)))))) (w2 := (ce_X12 kA g o_this ++ (ce_X5 kA (g 1) u_47.2 ++ (ce_X5 kA (g 2) o_this_spare ++ (ce_X11 kA (g 13) o_this_walls ++ (ce_X6 kA (g 15) o_this_racks ++ (ce_X8 kA (zz 2) (g 18) (g 16) o_this_script))))))) (fun H locs hP hD hS => ?_)
        have hP : va_P D vwCl (ce_X12 kA g o_this ++ (ce_X5 kA (g 1) u_47.2 ++ (ce_X5 kA (g 2) o_this_spare ++ (ce_X11 kA (g 13) o_this_walls ++ (ce_X6 kA (g 15) o_this_racks ++ (ce_X8 kA (zz 2) (g 18) (g 16) o_this_script)))))) H := hP
        refine lv_pop hx hb dX12_tryCommand_226 rfl ?_
        refine lv_iconst (v := 1) hx hb dX12_tryCommand_227 (by decide) ?_
        rw [← Option.some.inj hf]
        exact mx_retz (v := 1) (Nat.le_of_ble_eq_true rfl) (Nat.le_of_ble_eq_true rfl) hx hb hr rfl hlk hP hK hD hS dX12_tryCommand_228
      rw [if_neg hc_46] at hf
      by_cases hc_49 : (st_sm.getD (Int32.toNatClampNeg (Int32.ofNat c_4)) 0) = 10
      · rw [if_pos hc_49] at hf
        refine lv_tableIn (tgt := 229) hx hb dX12_tryCommand_66 (by rw [hc_49]; decide) (by rw [hc_49]; decide) (by rw [hc_49]; rfl) (by decide) ?_
        refine lv_aload_n hx hb dX12_tryCommand_229 rfl (lv_at hl 5 rfl) ?_
        refine va_get (D := D) (ci := 8) (v := .ref ((g 1) 0)) (C := RX12) (T := TX12) (N := 15) hx hb hUX12 (fun _ h9 => h9) hown hK hP 0 rfl rfl 0 (by decide) (hts (Cond.fieldLink RX12 12 "ReliefBuilder" "panel" "LReliefBuilder$Panel;") (List.mem_of_getElem? (i := 4) rfl)) (fun _ h9 => h9) rfl dX12_tryCommand_230 ?_
        obtain ⟨u_50, he_51, hf⟩ := os_bd hf
        refine mc_callV ⟨hx, hb, hml, hown, hts⟩ (mm_X5_negate l D kA N (g 1) o_this_panel u_50 he_51) (cwV 0 hts gX12_tryCommand_X5_negate rfl rfl rfl (by decide +kernel) ⟨Nat.le_of_ble_eq_true rfl, Nat.le_of_ble_eq_true rfl⟩) (wc := (ce_X5 kA (g 1) o_this_panel)) (ci := 2) (q0 := 0) rfl rfl rfl hl.1 (As := []) (rest := []) rfl (Nat.le_of_ble_eq_true rfl) dX12_tryCommand_233 ⟨Nat.le_of_ble_eq_true rfl, Nat.le_of_ble_eq_true rfl⟩ hK hP hD hS hA [4, 5, 6, 7] [0, 1, 2, 3, 8, 9, 10, 11, 12, 13, 14, 15, 16, 17, 18, 19, 20] [0, 1, 2, 3, 17, 18, 19, 20, 4, 5, 6, 7, 8, 9, 10, 11, 12, 13, 14, 15, 16] rfl (by decide) rfl (by decide) (by decide) rfl (by decide) (wr := (ce_X12 kA g o_this ++ (ce_X5 kA (g 2) o_this_spare ++ (ce_X11 kA (g 13) o_this_walls ++ (ce_X6 kA (g 15) o_this_racks ++ (ce_X8 kA (zz 2) (g 18) (g 16) o_this_script)))))) (w2 := (ce_X12 kA g o_this ++ (ce_X5 kA (g 1) u_50.2 ++ (ce_X5 kA (g 2) o_this_spare ++ (ce_X11 kA (g 13) o_this_walls ++ (ce_X6 kA (g 15) o_this_racks ++ (ce_X8 kA (zz 2) (g 18) (g 16) o_this_script))))))) (fun H locs hP hD hS => ?_)
        have hP : va_P D vwCl (ce_X12 kA g o_this ++ (ce_X5 kA (g 1) u_50.2 ++ (ce_X5 kA (g 2) o_this_spare ++ (ce_X11 kA (g 13) o_this_walls ++ (ce_X6 kA (g 15) o_this_racks ++ (ce_X8 kA (zz 2) (g 18) (g 16) o_this_script)))))) H := hP
        refine lv_pop hx hb dX12_tryCommand_236 rfl ?_
        refine lv_iconst (v := 1) hx hb dX12_tryCommand_237 (by decide) ?_
        rw [← Option.some.inj hf]
        exact mx_retz (v := 1) (Nat.le_of_ble_eq_true rfl) (Nat.le_of_ble_eq_true rfl) hx hb hr rfl hlk hP hK hD hS dX12_tryCommand_238
      rw [if_neg hc_49] at hf
      by_cases hc_52 : (st_sm.getD (Int32.toNatClampNeg (Int32.ofNat c_4)) 0) = 11
      · rw [if_pos hc_52] at hf
        refine lv_tableIn (tgt := 239) hx hb dX12_tryCommand_66 (by rw [hc_52]; decide) (by rw [hc_52]; decide) (by rw [hc_52]; rfl) (by decide) ?_
        refine lv_aload_n hx hb dX12_tryCommand_239 rfl (lv_at hl 5 rfl) ?_
        refine va_get (D := D) (ci := 8) (v := .ref ((g 1) 0)) (C := RX12) (T := TX12) (N := 15) hx hb hUX12 (fun _ h9 => h9) hown hK hP 0 rfl rfl 0 (by decide) (hts (Cond.fieldLink RX12 12 "ReliefBuilder" "panel" "LReliefBuilder$Panel;") (List.mem_of_getElem? (i := 4) rfl)) (fun _ h9 => h9) rfl dX12_tryCommand_240 ?_
        obtain ⟨u_53, he_54, hf⟩ := os_bd hf
        refine mc_callV ⟨hx, hb, hml, hown, hts⟩ (mm_X5_turn l D kA N (g 1) o_this_panel u_53 he_54) (cwV 0 hts gX12_tryCommand_X5_turn rfl rfl rfl (by decide +kernel) ⟨Nat.le_of_ble_eq_true rfl, Nat.le_of_ble_eq_true rfl⟩) (wc := (ce_X5 kA (g 1) o_this_panel)) (ci := 2) (q0 := 0) rfl rfl rfl hl.1 (As := []) (rest := []) rfl (Nat.le_of_ble_eq_true rfl) dX12_tryCommand_243 ⟨Nat.le_of_ble_eq_true rfl, Nat.le_of_ble_eq_true rfl⟩ hK hP hD hS hA [4, 5, 6, 7] [0, 1, 2, 3, 8, 9, 10, 11, 12, 13, 14, 15, 16, 17, 18, 19, 20] [0, 1, 2, 3, 17, 18, 19, 20, 4, 5, 6, 7, 8, 9, 10, 11, 12, 13, 14, 15, 16] rfl (by decide) rfl (by decide) (by decide) rfl (by decide) (wr := (ce_X12 kA g o_this ++ (ce_X5 kA (g 2) o_this_spare ++ (ce_X11 kA (g 13) o_this_walls ++ (ce_X6 kA (g 15) o_this_racks ++ (ce_X8 kA (zz 2) (g 18) (g 16) o_this_script)))))) (w2 := (ce_X12 kA g o_this ++ (ce_X5 kA (g 1) u_53.2 ++ (ce_X5 kA (g 2) o_this_spare ++ (ce_X11 kA (g 13) o_this_walls ++ (ce_X6 kA (g 15) o_this_racks ++ (ce_X8 kA (zz 2) (g 18) (g 16) o_this_script))))))) (fun H locs hP hD hS => ?_)
        have hP : va_P D vwCl (ce_X12 kA g o_this ++ (ce_X5 kA (g 1) u_53.2 ++ (ce_X5 kA (g 2) o_this_spare ++ (ce_X11 kA (g 13) o_this_walls ++ (ce_X6 kA (g 15) o_this_racks ++ (ce_X8 kA (zz 2) (g 18) (g 16) o_this_script)))))) H := hP
        refine lv_pop hx hb dX12_tryCommand_246 rfl ?_
        refine lv_iconst (v := 1) hx hb dX12_tryCommand_247 (by decide) ?_
        rw [← Option.some.inj hf]
        exact mx_retz (v := 1) (Nat.le_of_ble_eq_true rfl) (Nat.le_of_ble_eq_true rfl) hx hb hr rfl hlk hP hK hD hS dX12_tryCommand_248
      rw [if_neg hc_52] at hf
      refine lv_tableOut (tgt := 249) hx hb dX12_tryCommand_66 (by
        have hc_15_ : (st_sm.getD (Int32.toNatClampNeg (Int32.ofNat c_4)) 0).toInt ≠ 1 := fun h => hc_15 (Int32.toInt_inj.mp (h.trans (by decide)))
        have hc_19_ : (st_sm.getD (Int32.toNatClampNeg (Int32.ofNat c_4)) 0).toInt ≠ 2 := fun h => hc_19 (Int32.toInt_inj.mp (h.trans (by decide)))
        have hc_23_ : (st_sm.getD (Int32.toNatClampNeg (Int32.ofNat c_4)) 0).toInt ≠ 3 := fun h => hc_23 (Int32.toInt_inj.mp (h.trans (by decide)))
        have hc_29_ : (st_sm.getD (Int32.toNatClampNeg (Int32.ofNat c_4)) 0).toInt ≠ 4 := fun h => hc_29 (Int32.toInt_inj.mp (h.trans (by decide)))
        have hc_33_ : (st_sm.getD (Int32.toNatClampNeg (Int32.ofNat c_4)) 0).toInt ≠ 5 := fun h => hc_33 (Int32.toInt_inj.mp (h.trans (by decide)))
        have hc_37_ : (st_sm.getD (Int32.toNatClampNeg (Int32.ofNat c_4)) 0).toInt ≠ 6 := fun h => hc_37 (Int32.toInt_inj.mp (h.trans (by decide)))
        have hc_40_ : (st_sm.getD (Int32.toNatClampNeg (Int32.ofNat c_4)) 0).toInt ≠ 7 := fun h => hc_40 (Int32.toInt_inj.mp (h.trans (by decide)))
        have hc_43_ : (st_sm.getD (Int32.toNatClampNeg (Int32.ofNat c_4)) 0).toInt ≠ 8 := fun h => hc_43 (Int32.toInt_inj.mp (h.trans (by decide)))
        have hc_46_ : (st_sm.getD (Int32.toNatClampNeg (Int32.ofNat c_4)) 0).toInt ≠ 9 := fun h => hc_46 (Int32.toInt_inj.mp (h.trans (by decide)))
        have hc_49_ : (st_sm.getD (Int32.toNatClampNeg (Int32.ofNat c_4)) 0).toInt ≠ 10 := fun h => hc_49 (Int32.toInt_inj.mp (h.trans (by decide)))
        have hc_52_ : (st_sm.getD (Int32.toNatClampNeg (Int32.ofNat c_4)) 0).toInt ≠ 11 := fun h => hc_52 (Int32.toInt_inj.mp (h.trans (by decide)))
        omega) (by decide) ?_
      refine lv_iconst (v := 0) hx hb dX12_tryCommand_249 (by decide) ?_
      rw [← Option.some.inj hf]
      exact mx_retz (v := 0) (Nat.le_of_ble_eq_true rfl) (Nat.le_of_ble_eq_true rfl) hx hb hr rfl hlk hP hK hD hS dX12_tryCommand_250
def ff_X12_runScript_b74 (N : Nat) (o_this_racks : os_T) (o_this : os_T) (o_this_panel : os_T) (o_this_spare : os_T) (o_this_history : os_T) (o_this_history_panels0 : os_T) (o_this_history_panels1 : os_T) (o_this_history_panels2 : os_T) (o_this_history_panels3 : os_T) (o_this_history_panels4 : os_T) (o_this_history_panels5 : os_T) (o_this_history_panels6 : os_T) (o_this_walls : os_T) (o_this_tokens : os_T) (o_this_script : os_T) (x2 : Int32) : Option (Nat × Int32 × os_T × os_T × os_T × os_T × os_T × os_T × os_T × os_T × os_T × os_T × os_T × os_T × os_T × os_T) :=
  ((ff_X3_close N o_this_history o_this_history_panels0 o_this_history_panels1 o_this_history_panels2 o_this_history_panels3 o_this_history_panels4 o_this_history_panels5 o_this_history_panels6 o_this_panel).bind fun u_14 => some (0, x2, o_this, o_this_panel, o_this_spare, u_14, o_this_history_panels0, o_this_history_panels1, o_this_history_panels2, o_this_history_panels3, o_this_history_panels4, o_this_history_panels5, o_this_history_panels6, o_this_walls, o_this_tokens, o_this_script))
def ff_X12_runScript_c39 (N : Nat) (o_this_racks : os_T) (k39 : (os_T × os_T × os_T × os_T × os_T × os_T × os_T × os_T × os_T × os_T × os_T × os_T × os_T × os_T × Int32 × Int32) → Option (Nat × Int32 × os_T × os_T × os_T × os_T × os_T × os_T × os_T × os_T × os_T × os_T × os_T × os_T × os_T × os_T)) (o_this : os_T) (o_this_panel : os_T) (o_this_spare : os_T) (o_this_history : os_T) (o_this_history_panels0 : os_T) (o_this_history_panels1 : os_T) (o_this_history_panels2 : os_T) (o_this_history_panels3 : os_T) (o_this_history_panels4 : os_T) (o_this_history_panels5 : os_T) (o_this_history_panels6 : os_T) (o_this_walls : os_T) (o_this_tokens : os_T) (o_this_script : os_T) (x2 : Int32) (x3 : Int32) : Option (Nat × Int32 × os_T × os_T × os_T × os_T × os_T × os_T × os_T × os_T × os_T × os_T × os_T × os_T × os_T × os_T) :=
  (if (os_I o_this_script 6) ≤ x3 then ff_X12_runScript_b74 N o_this_racks o_this o_this_panel o_this_spare o_this_history o_this_history_panels0 o_this_history_panels1 o_this_history_panels2 o_this_history_panels3 o_this_history_panels4 o_this_history_panels5 o_this_history_panels6 o_this_walls o_this_tokens o_this_script x2 else ((ff_X8_plannedAt N o_this_script x3).bind fun u_9 => ((ff_X12_tryCommand N o_this o_this_panel o_this_spare o_this_walls o_this_racks o_this_script u_9).bind fun u_11 => (if u_11.1 = 0 then (if u_11.2.1 = 0 then ff_X12_runScript_b74 N o_this_racks o_this u_11.2.2.1 u_11.2.2.2.1 o_this_history o_this_history_panels0 o_this_history_panels1 o_this_history_panels2 o_this_history_panels3 o_this_history_panels4 o_this_history_panels5 o_this_history_panels6 u_11.2.2.2.2 o_this_tokens o_this_script x2 else k39 (o_this, u_11.2.2.1, u_11.2.2.2.1, o_this_history, o_this_history_panels0, o_this_history_panels1, o_this_history_panels2, o_this_history_panels3, o_this_history_panels4, o_this_history_panels5, o_this_history_panels6, u_11.2.2.2.2, o_this_tokens, o_this_script, x2 + 1, x3 + 1)) else some (u_11.1, (0 : Int32), o_this, u_11.2.2.1, u_11.2.2.2.1, o_this_history, o_this_history_panels0, o_this_history_panels1, o_this_history_panels2, o_this_history_panels3, o_this_history_panels4, o_this_history_panels5, o_this_history_panels6, u_11.2.2.2.2, o_this_tokens, o_this_script)))))
def ff_X12_runScript_l39 (N : Nat) (o_this_racks : os_T) : Nat → (os_T × os_T × os_T × os_T × os_T × os_T × os_T × os_T × os_T × os_T × os_T × os_T × os_T × os_T × Int32 × Int32) → Option (Nat × Int32 × os_T × os_T × os_T × os_T × os_T × os_T × os_T × os_T × os_T × os_T × os_T × os_T × os_T × os_T) := os_loop (fun k39 s1 => ff_X12_runScript_c39 N o_this_racks k39 s1.1 s1.2.1 s1.2.2.1 s1.2.2.2.1 s1.2.2.2.2.1 s1.2.2.2.2.2.1 s1.2.2.2.2.2.2.1 s1.2.2.2.2.2.2.2.1 s1.2.2.2.2.2.2.2.2.1 s1.2.2.2.2.2.2.2.2.2.1 s1.2.2.2.2.2.2.2.2.2.2.1 s1.2.2.2.2.2.2.2.2.2.2.2.1 s1.2.2.2.2.2.2.2.2.2.2.2.2.1 s1.2.2.2.2.2.2.2.2.2.2.2.2.2.1 s1.2.2.2.2.2.2.2.2.2.2.2.2.2.2.1 s1.2.2.2.2.2.2.2.2.2.2.2.2.2.2.2)
def ff_X12_runScript (N : Nat) (o_this : os_T) (o_this_panel : os_T) (o_this_spare : os_T) (o_this_history : os_T) (o_this_history_panels0 : os_T) (o_this_history_panels1 : os_T) (o_this_history_panels2 : os_T) (o_this_history_panels3 : os_T) (o_this_history_panels4 : os_T) (o_this_history_panels5 : os_T) (o_this_history_panels6 : os_T) (o_this_walls : os_T) (o_this_racks : os_T) (o_this_tokens : os_T) (o_this_script : os_T) : Option (Nat × Int32 × os_T × os_T × os_T × os_T × os_T × os_T × os_T × os_T × os_T × os_T × os_T × os_T × os_T × os_T) :=
  ((ff_X8_readAll N o_this_script o_this_tokens).bind fun u_1 => (if u_1.1 = 0 then ((ff_X12_endText N o_this u_1.2.2.2).bind fun u_3 => (if u_1.2.1 = 0 then some (2, (0 : Int32), u_3.1, o_this_panel, o_this_spare, o_this_history, o_this_history_panels0, o_this_history_panels1, o_this_history_panels2, o_this_history_panels3, o_this_history_panels4, o_this_history_panels5, o_this_history_panels6, o_this_walls, u_3.2, u_1.2.2.1) else ((ff_X3_open N o_this_history o_this_history_panels0 o_this_history_panels1 o_this_history_panels2 o_this_history_panels3 o_this_history_panels4 o_this_history_panels5 o_this_history_panels6 o_this_panel).bind fun u_6 => ff_X12_runScript_l39 N o_this_racks N (u_3.1, o_this_panel, o_this_spare, o_this_history, u_6.1, u_6.2.1, u_6.2.2.1, u_6.2.2.2.1, u_6.2.2.2.2.1, u_6.2.2.2.2.2.1, u_6.2.2.2.2.2.2, o_this_walls, u_3.2, u_1.2.2.1, (0 : Int32), (0 : Int32))))) else some (u_1.1, (0 : Int32), o_this, o_this_panel, o_this_spare, o_this_history, o_this_history_panels0, o_this_history_panels1, o_this_history_panels2, o_this_history_panels3, o_this_history_panels4, o_this_history_panels5, o_this_history_panels6, o_this_walls, u_1.2.2.2, u_1.2.2.1)))
set_option maxHeartbeats 4000000 in
set_option maxRecDepth 100000 in
theorem mm_X12_runScript (l : Launch) (hst : l.stackTraces = false) (zz : Nat → Nat → Nat) (D : va_G) (kA : Nat → ClassId) (N : Nat) (g : Nat → Nat → Nat) (o_this : os_T) (o_this_panel : os_T) (o_this_spare : os_T) (o_this_history : os_T) (o_this_history_panels0 : os_T) (o_this_history_panels1 : os_T) (o_this_history_panels2 : os_T) (o_this_history_panels3 : os_T) (o_this_history_panels4 : os_T) (o_this_history_panels5 : os_T) (o_this_history_panels6 : os_T) (o_this_walls : os_T) (o_this_racks : os_T) (o_this_tokens : os_T) (o_this_script : os_T) (out : (Nat × Int32 × os_T × os_T × os_T × os_T × os_T × os_T × os_T × os_T × os_T × os_T × os_T × os_T × os_T × os_T)) (hf : ff_X12_runScript N o_this o_this_panel o_this_spare o_this_history o_this_history_panels0 o_this_history_panels1 o_this_history_panels2 o_this_history_panels3 o_this_history_panels4 o_this_history_panels5 o_this_history_panels6 o_this_walls o_this_racks o_this_tokens o_this_script = some out) : mx_C l zz D kA yX12_runScript wsX12_runScript ({ frames := 13, cells := 1, slots := 6, locals := 289 } : Room) [.ref ((g 0) 0)] (ce_X12 kA g o_this ++ (ce_X5 kA (g 1) o_this_panel ++ (ce_X5 kA (g 2) o_this_spare ++ (ce_X3 kA (g 5) (fun k => g (6 + k)) o_this_history ++ (ce_X5 kA (g 6) o_this_history_panels0 ++ (ce_X5 kA (g 7) o_this_history_panels1 ++ (ce_X5 kA (g 8) o_this_history_panels2 ++ (ce_X5 kA (g 9) o_this_history_panels3 ++ (ce_X5 kA (g 10) o_this_history_panels4 ++ (ce_X5 kA (g 11) o_this_history_panels5 ++ (ce_X5 kA (g 12) o_this_history_panels6 ++ (ce_X11 kA (g 13) o_this_walls ++ (ce_X6 kA (g 15) o_this_racks ++ (ce_X10 kA (g 16) o_this_tokens ++ (ce_X8 kA (zz 2) (g 18) (g 16) o_this_script))))))))))))))) out.1 (some (.int out.2.1)) (ce_X12 kA g out.2.2.1 ++ (ce_X5 kA (g 1) out.2.2.2.1 ++ (ce_X5 kA (g 2) out.2.2.2.2.1 ++ (ce_X3 kA (g 5) (fun k => g (6 + k)) out.2.2.2.2.2.1 ++ (ce_X5 kA (g 6) out.2.2.2.2.2.2.1 ++ (ce_X5 kA (g 7) out.2.2.2.2.2.2.2.1 ++ (ce_X5 kA (g 8) out.2.2.2.2.2.2.2.2.1 ++ (ce_X5 kA (g 9) out.2.2.2.2.2.2.2.2.2.1 ++ (ce_X5 kA (g 10) out.2.2.2.2.2.2.2.2.2.2.1 ++ (ce_X5 kA (g 11) out.2.2.2.2.2.2.2.2.2.2.2.1 ++ (ce_X5 kA (g 12) out.2.2.2.2.2.2.2.2.2.2.2.2.1 ++ (ce_X11 kA (g 13) out.2.2.2.2.2.2.2.2.2.2.2.2.2.1 ++ (ce_X6 kA (g 15) o_this_racks ++ (ce_X10 kA (g 16) out.2.2.2.2.2.2.2.2.2.2.2.2.2.2.1 ++ (ce_X8 kA (zz 2) (g 18) (g 16) out.2.2.2.2.2.2.2.2.2.2.2.2.2.2.2))))))))))))))) := by
  refine mx_of (cc := cX12_runScript) (maxL := 4) (ret := (some .int)) (by decide) rfl (Nat.le_of_ble_eq_true rfl) ?_
  intro p e s m below meth c A B hx0 hZ hD hP hS ls hl
  obtain ⟨hx, hb, hr, hlk, hml, hown, hts, hK, hA, hnm⟩ := B
  have hown : s.vm.findClass RX12 = some m.cls := hown
  have hl : lv_has ls 4 [(0, .ref ((g 0) 0))] := hl
  have hUX12 : ∀ w ∈ u_ws RX12 TX12 15, w.before [.ref ((g 0) 0)].toArray s = true := fun w h => hts w (List.mem_cons_of_mem _ (List.mem_append_left _ (List.mem_append_left _ (List.mem_append_left _ (List.mem_append_left _ (List.mem_append_left _ (List.mem_append_left _ (List.mem_append_left _ (List.mem_append_right _ h)))))))))
  have hUX8 : ∀ w ∈ u_ws RX8 TX8 7, w.before [.ref ((g 0) 0)].toArray s = true := fun w h => hts w (List.mem_cons_of_mem _ (List.mem_append_left _ (List.mem_append_left _ (List.mem_append_left _ (List.mem_append_left _ (List.mem_append_left _ (List.mem_append_left _ (List.mem_append_right _ h))))))))
  have hB74 : ∀ (o_this : os_T) (o_this_panel : os_T) (o_this_spare : os_T) (o_this_history : os_T) (o_this_history_panels0 : os_T) (o_this_history_panels1 : os_T) (o_this_history_panels2 : os_T) (o_this_history_panels3 : os_T) (o_this_history_panels4 : os_T) (o_this_history_panels5 : os_T) (o_this_history_panels6 : os_T) (o_this_walls : os_T) (o_this_tokens : os_T) (o_this_script : os_T) (x2 : Int32) (H : Heap) (locs : List Loc) (ls : Array Slot), va_P D vwCl (ce_X12 kA g o_this ++ (ce_X5 kA (g 1) o_this_panel ++ (ce_X5 kA (g 2) o_this_spare ++ (ce_X3 kA (g 5) (fun k => g (6 + k)) o_this_history ++ (ce_X5 kA (g 6) o_this_history_panels0 ++ (ce_X5 kA (g 7) o_this_history_panels1 ++ (ce_X5 kA (g 8) o_this_history_panels2 ++ (ce_X5 kA (g 9) o_this_history_panels3 ++ (ce_X5 kA (g 10) o_this_history_panels4 ++ (ce_X5 kA (g 11) o_this_history_panels5 ++ (ce_X5 kA (g 12) o_this_history_panels6 ++ (ce_X11 kA (g 13) o_this_walls ++ (ce_X6 kA (g 15) o_this_racks ++ (ce_X10 kA (g 16) o_this_tokens ++ (ce_X8 kA (zz 2) (g 18) (g 16) o_this_script))))))))))))))) H → va_D A (ce_X12 kA g o_this ++ (ce_X5 kA (g 1) o_this_panel ++ (ce_X5 kA (g 2) o_this_spare ++ (ce_X3 kA (g 5) (fun k => g (6 + k)) o_this_history ++ (ce_X5 kA (g 6) o_this_history_panels0 ++ (ce_X5 kA (g 7) o_this_history_panels1 ++ (ce_X5 kA (g 8) o_this_history_panels2 ++ (ce_X5 kA (g 9) o_this_history_panels3 ++ (ce_X5 kA (g 10) o_this_history_panels4 ++ (ce_X5 kA (g 11) o_this_history_panels5 ++ (ce_X5 kA (g 12) o_this_history_panels6 ++ (ce_X11 kA (g 13) o_this_walls ++ (ce_X6 kA (g 15) o_this_racks ++ (ce_X10 kA (g 16) o_this_tokens ++ (ce_X8 kA (zz 2) (g 18) (g 16) o_this_script))))))))))))))) → va_S A s.heap H locs → lv_has ls 4 [(0, .ref ((g 0) 0)), (2, .int x2)] → ff_X12_runScript_b74 N o_this_racks o_this o_this_panel o_this_spare o_this_history o_this_history_panels0 o_this_history_panels1 o_this_history_panels2 o_this_history_panels3 o_this_history_panels4 o_this_history_panels5 o_this_history_panels6 o_this_walls o_this_tokens o_this_script x2 = some out → W p l e ({ frames := 13, cells := 1, slots := 6, locals := 289 } : Room) s m [.ref ((g 0) 0)].toArray below meth c H locs 0 0 (vx_MQ below (mx_Q D kA A out.1 (some (.int out.2.1)) (ce_X12 kA g out.2.2.1 ++ (ce_X5 kA (g 1) out.2.2.2.1 ++ (ce_X5 kA (g 2) out.2.2.2.2.1 ++ (ce_X3 kA (g 5) (fun k => g (6 + k)) out.2.2.2.2.2.1 ++ (ce_X5 kA (g 6) out.2.2.2.2.2.2.1 ++ (ce_X5 kA (g 7) out.2.2.2.2.2.2.2.1 ++ (ce_X5 kA (g 8) out.2.2.2.2.2.2.2.2.1 ++ (ce_X5 kA (g 9) out.2.2.2.2.2.2.2.2.2.1 ++ (ce_X5 kA (g 10) out.2.2.2.2.2.2.2.2.2.2.1 ++ (ce_X5 kA (g 11) out.2.2.2.2.2.2.2.2.2.2.2.1 ++ (ce_X5 kA (g 12) out.2.2.2.2.2.2.2.2.2.2.2.2.1 ++ (ce_X11 kA (g 13) out.2.2.2.2.2.2.2.2.2.2.2.2.2.1 ++ (ce_X6 kA (g 15) o_this_racks ++ (ce_X10 kA (g 16) out.2.2.2.2.2.2.2.2.2.2.2.2.2.2.1 ++ (ce_X8 kA (zz 2) (g 18) (g 16) out.2.2.2.2.2.2.2.2.2.2.2.2.2.2.2)))))))))))))))) (mx_X D kA A out.1 (ce_X12 kA g out.2.2.1 ++ (ce_X5 kA (g 1) out.2.2.2.1 ++ (ce_X5 kA (g 2) out.2.2.2.2.1 ++ (ce_X3 kA (g 5) (fun k => g (6 + k)) out.2.2.2.2.2.1 ++ (ce_X5 kA (g 6) out.2.2.2.2.2.2.1 ++ (ce_X5 kA (g 7) out.2.2.2.2.2.2.2.1 ++ (ce_X5 kA (g 8) out.2.2.2.2.2.2.2.2.1 ++ (ce_X5 kA (g 9) out.2.2.2.2.2.2.2.2.2.1 ++ (ce_X5 kA (g 10) out.2.2.2.2.2.2.2.2.2.2.1 ++ (ce_X5 kA (g 11) out.2.2.2.2.2.2.2.2.2.2.2.1 ++ (ce_X5 kA (g 12) out.2.2.2.2.2.2.2.2.2.2.2.2.1 ++ (ce_X11 kA (g 13) out.2.2.2.2.2.2.2.2.2.2.2.2.2.1 ++ (ce_X6 kA (g 15) o_this_racks ++ (ce_X10 kA (g 16) out.2.2.2.2.2.2.2.2.2.2.2.2.2.2.1 ++ (ce_X8 kA (zz 2) (g 18) (g 16) out.2.2.2.2.2.2.2.2.2.2.2.2.2.2.2)))))))))))))))) [.ref ((g 0) 0)].toArray s 1 6 A) (F0 m 74 ls []) := by
    intro o_this o_this_panel o_this_spare o_this_history o_this_history_panels0 o_this_history_panels1 o_this_history_panels2 o_this_history_panels3 o_this_history_panels4 o_this_history_panels5 o_this_history_panels6 o_this_walls o_this_tokens o_this_script x2 H locs ls hP hD hS hl hf
    unfold ff_X12_runScript_b74 at hf
    refine lv_aload_n hx hb dX12_runScript_74 rfl (lv_at hl 0 rfl) ?_
    refine va_get (D := D) (ci := 8) (v := .ref ((g 5) 0)) (C := RX12) (T := TX12) (N := 15) hx hb hUX12 (fun _ h9 => h9) hown hK hP 0 rfl rfl 4 (by decide) (hts (Cond.fieldLink RX12 30 "ReliefBuilder" "history" "LReliefBuilder$History;") (List.mem_of_getElem? (i := 4) rfl)) (fun _ h9 => h9) rfl dX12_runScript_75 ?_
    refine lv_aload_n hx hb dX12_runScript_78 rfl (lv_at hl 0 rfl) ?_
    refine va_get (D := D) (ci := 8) (v := .ref ((g 1) 0)) (C := RX12) (T := TX12) (N := 15) hx hb hUX12 (fun _ h9 => h9) hown hK hP 0 rfl rfl 0 (by decide) (hts (Cond.fieldLink RX12 12 "ReliefBuilder" "panel" "LReliefBuilder$Panel;") (List.mem_of_getElem? (i := 5) rfl)) (fun _ h9 => h9) rfl dX12_runScript_79 ?_
    obtain ⟨u_14, he_15, hf⟩ := os_bd hf
    refine mc_callV ⟨hx, hb, hml, hown, hts⟩ (mm_X3_close l D kA N (g 5) (fun k => g (6 + k)) (g 1) o_this_history o_this_history_panels0 o_this_history_panels1 o_this_history_panels2 o_this_history_panels3 o_this_history_panels4 o_this_history_panels5 o_this_history_panels6 o_this_panel u_14 he_15) (cwV 1 hts gX12_runScript_X3_close rfl rfl rfl (by decide +kernel) ⟨Nat.le_of_ble_eq_true rfl, Nat.le_of_ble_eq_true rfl⟩) (wc := (ce_X3 kA (g 5) (fun k => g (6 + k)) o_this_history ++ (ce_X5 kA (g 6) o_this_history_panels0 ++ (ce_X5 kA (g 7) o_this_history_panels1 ++ (ce_X5 kA (g 8) o_this_history_panels2 ++ (ce_X5 kA (g 9) o_this_history_panels3 ++ (ce_X5 kA (g 10) o_this_history_panels4 ++ (ce_X5 kA (g 11) o_this_history_panels5 ++ (ce_X5 kA (g 12) o_this_history_panels6 ++ (ce_X5 kA (g 1) o_this_panel)))))))))) (ci := 0) (q0 := 0) rfl rfl rfl hl.1 (As := [.ref ((g 1) 0)]) (rest := []) rfl (Nat.le_of_ble_eq_true rfl) dX12_runScript_82 ⟨Nat.le_of_ble_eq_true rfl, Nat.le_of_ble_eq_true rfl⟩ hK hP hD hS hA [12, 13, 14, 15, 16, 17, 18, 19, 20, 21, 22, 23, 24, 25, 26, 27, 28, 29, 30, 31, 32, 33, 34, 35, 36, 37, 38, 39, 40, 41, 4, 5, 6, 7] [0, 1, 2, 3, 8, 9, 10, 11, 42, 43, 44, 45, 46, 47, 48, 49, 50, 51, 52, 53, 54, 55] [0, 1, 2, 3, 52, 53, 54, 55, 4, 5, 6, 7, 22, 23, 24, 25, 26, 27, 28, 29, 30, 31, 32, 33, 34, 35, 36, 37, 38, 39, 40, 41, 42, 43, 44, 45, 46, 47, 48, 49, 50, 51, 8, 9, 10, 11, 12, 13, 14, 15, 16, 17, 18, 19, 20, 21] rfl (by decide) rfl (by decide) (by decide) rfl (by decide) (wr := (ce_X12 kA g o_this ++ (ce_X5 kA (g 2) o_this_spare ++ (ce_X11 kA (g 13) o_this_walls ++ (ce_X6 kA (g 15) o_this_racks ++ (ce_X10 kA (g 16) o_this_tokens ++ (ce_X8 kA (zz 2) (g 18) (g 16) o_this_script))))))) (w2 := (ce_X12 kA g o_this ++ (ce_X5 kA (g 1) o_this_panel ++ (ce_X5 kA (g 2) o_this_spare ++ (ce_X3 kA (g 5) (fun k => g (6 + k)) u_14 ++ (ce_X5 kA (g 6) o_this_history_panels0 ++ (ce_X5 kA (g 7) o_this_history_panels1 ++ (ce_X5 kA (g 8) o_this_history_panels2 ++ (ce_X5 kA (g 9) o_this_history_panels3 ++ (ce_X5 kA (g 10) o_this_history_panels4 ++ (ce_X5 kA (g 11) o_this_history_panels5 ++ (ce_X5 kA (g 12) o_this_history_panels6 ++ (ce_X11 kA (g 13) o_this_walls ++ (ce_X6 kA (g 15) o_this_racks ++ (ce_X10 kA (g 16) o_this_tokens ++ (ce_X8 kA (zz 2) (g 18) (g 16) o_this_script)))))))))))))))) (fun H locs hP hD hS => ?_)
    have hP : va_P D vwCl (ce_X12 kA g o_this ++ (ce_X5 kA (g 1) o_this_panel ++ (ce_X5 kA (g 2) o_this_spare ++ (ce_X3 kA (g 5) (fun k => g (6 + k)) u_14 ++ (ce_X5 kA (g 6) o_this_history_panels0 ++ (ce_X5 kA (g 7) o_this_history_panels1 ++ (ce_X5 kA (g 8) o_this_history_panels2 ++ (ce_X5 kA (g 9) o_this_history_panels3 ++ (ce_X5 kA (g 10) o_this_history_panels4 ++ (ce_X5 kA (g 11) o_this_history_panels5 ++ (ce_X5 kA (g 12) o_this_history_panels6 ++ (ce_X11 kA (g 13) o_this_walls ++ (ce_X6 kA (g 15) o_this_racks ++ (ce_X10 kA (g 16) o_this_tokens ++ (ce_X8 kA (zz 2) (g 18) (g 16) o_this_script))))))))))))))) H := hP
    refine lv_iload_n hx hb dX12_runScript_85 rfl (lv_at hl 1 rfl) ?_
    rw [← Option.some.inj hf]
    exact mx_reti (Nat.le_of_ble_eq_true rfl) (Nat.le_of_ble_eq_true rfl) hx hb hr hlk hP hK hD hS dX12_runScript_86
  have hL39 : ∀ (n : Nat) (o_this : os_T) (o_this_panel : os_T) (o_this_spare : os_T) (o_this_history : os_T) (o_this_history_panels0 : os_T) (o_this_history_panels1 : os_T) (o_this_history_panels2 : os_T) (o_this_history_panels3 : os_T) (o_this_history_panels4 : os_T) (o_this_history_panels5 : os_T) (o_this_history_panels6 : os_T) (o_this_walls : os_T) (o_this_tokens : os_T) (o_this_script : os_T) (x2 : Int32) (x3 : Int32) (H : Heap) (locs : List Loc) (ls : Array Slot), va_P D vwCl (ce_X12 kA g o_this ++ (ce_X5 kA (g 1) o_this_panel ++ (ce_X5 kA (g 2) o_this_spare ++ (ce_X3 kA (g 5) (fun k => g (6 + k)) o_this_history ++ (ce_X5 kA (g 6) o_this_history_panels0 ++ (ce_X5 kA (g 7) o_this_history_panels1 ++ (ce_X5 kA (g 8) o_this_history_panels2 ++ (ce_X5 kA (g 9) o_this_history_panels3 ++ (ce_X5 kA (g 10) o_this_history_panels4 ++ (ce_X5 kA (g 11) o_this_history_panels5 ++ (ce_X5 kA (g 12) o_this_history_panels6 ++ (ce_X11 kA (g 13) o_this_walls ++ (ce_X6 kA (g 15) o_this_racks ++ (ce_X10 kA (g 16) o_this_tokens ++ (ce_X8 kA (zz 2) (g 18) (g 16) o_this_script))))))))))))))) H → va_D A (ce_X12 kA g o_this ++ (ce_X5 kA (g 1) o_this_panel ++ (ce_X5 kA (g 2) o_this_spare ++ (ce_X3 kA (g 5) (fun k => g (6 + k)) o_this_history ++ (ce_X5 kA (g 6) o_this_history_panels0 ++ (ce_X5 kA (g 7) o_this_history_panels1 ++ (ce_X5 kA (g 8) o_this_history_panels2 ++ (ce_X5 kA (g 9) o_this_history_panels3 ++ (ce_X5 kA (g 10) o_this_history_panels4 ++ (ce_X5 kA (g 11) o_this_history_panels5 ++ (ce_X5 kA (g 12) o_this_history_panels6 ++ (ce_X11 kA (g 13) o_this_walls ++ (ce_X6 kA (g 15) o_this_racks ++ (ce_X10 kA (g 16) o_this_tokens ++ (ce_X8 kA (zz 2) (g 18) (g 16) o_this_script))))))))))))))) → va_S A s.heap H locs → lv_has ls 4 [(0, .ref ((g 0) 0)), (2, .int x2), (3, .int x3)] → ff_X12_runScript_l39 N o_this_racks n (o_this, o_this_panel, o_this_spare, o_this_history, o_this_history_panels0, o_this_history_panels1, o_this_history_panels2, o_this_history_panels3, o_this_history_panels4, o_this_history_panels5, o_this_history_panels6, o_this_walls, o_this_tokens, o_this_script, x2, x3) = some out → W p l e ({ frames := 13, cells := 1, slots := 6, locals := 289 } : Room) s m [.ref ((g 0) 0)].toArray below meth c H locs 0 0 (vx_MQ below (mx_Q D kA A out.1 (some (.int out.2.1)) (ce_X12 kA g out.2.2.1 ++ (ce_X5 kA (g 1) out.2.2.2.1 ++ (ce_X5 kA (g 2) out.2.2.2.2.1 ++ (ce_X3 kA (g 5) (fun k => g (6 + k)) out.2.2.2.2.2.1 ++ (ce_X5 kA (g 6) out.2.2.2.2.2.2.1 ++ (ce_X5 kA (g 7) out.2.2.2.2.2.2.2.1 ++ (ce_X5 kA (g 8) out.2.2.2.2.2.2.2.2.1 ++ (ce_X5 kA (g 9) out.2.2.2.2.2.2.2.2.2.1 ++ (ce_X5 kA (g 10) out.2.2.2.2.2.2.2.2.2.2.1 ++ (ce_X5 kA (g 11) out.2.2.2.2.2.2.2.2.2.2.2.1 ++ (ce_X5 kA (g 12) out.2.2.2.2.2.2.2.2.2.2.2.2.1 ++ (ce_X11 kA (g 13) out.2.2.2.2.2.2.2.2.2.2.2.2.2.1 ++ (ce_X6 kA (g 15) o_this_racks ++ (ce_X10 kA (g 16) out.2.2.2.2.2.2.2.2.2.2.2.2.2.2.1 ++ (ce_X8 kA (zz 2) (g 18) (g 16) out.2.2.2.2.2.2.2.2.2.2.2.2.2.2.2)))))))))))))))) (mx_X D kA A out.1 (ce_X12 kA g out.2.2.1 ++ (ce_X5 kA (g 1) out.2.2.2.1 ++ (ce_X5 kA (g 2) out.2.2.2.2.1 ++ (ce_X3 kA (g 5) (fun k => g (6 + k)) out.2.2.2.2.2.1 ++ (ce_X5 kA (g 6) out.2.2.2.2.2.2.1 ++ (ce_X5 kA (g 7) out.2.2.2.2.2.2.2.1 ++ (ce_X5 kA (g 8) out.2.2.2.2.2.2.2.2.1 ++ (ce_X5 kA (g 9) out.2.2.2.2.2.2.2.2.2.1 ++ (ce_X5 kA (g 10) out.2.2.2.2.2.2.2.2.2.2.1 ++ (ce_X5 kA (g 11) out.2.2.2.2.2.2.2.2.2.2.2.1 ++ (ce_X5 kA (g 12) out.2.2.2.2.2.2.2.2.2.2.2.2.1 ++ (ce_X11 kA (g 13) out.2.2.2.2.2.2.2.2.2.2.2.2.2.1 ++ (ce_X6 kA (g 15) o_this_racks ++ (ce_X10 kA (g 16) out.2.2.2.2.2.2.2.2.2.2.2.2.2.2.1 ++ (ce_X8 kA (zz 2) (g 18) (g 16) out.2.2.2.2.2.2.2.2.2.2.2.2.2.2.2)))))))))))))))) [.ref ((g 0) 0)].toArray s 1 6 A) (F0 m 39 ls []) := by
    intro n
    induction n with
    | zero => intro o_this o_this_panel o_this_spare o_this_history o_this_history_panels0 o_this_history_panels1 o_this_history_panels2 o_this_history_panels3 o_this_history_panels4 o_this_history_panels5 o_this_history_panels6 o_this_walls o_this_tokens o_this_script x2 x3 H locs ls _ _ _ _ hf; cases hf
    | succ n hk39 =>
      intro o_this o_this_panel o_this_spare o_this_history o_this_history_panels0 o_this_history_panels1 o_this_history_panels2 o_this_history_panels3 o_this_history_panels4 o_this_history_panels5 o_this_history_panels6 o_this_walls o_this_tokens o_this_script x2 x3 H locs ls hP hD hS hl hf
      have hf : ff_X12_runScript_c39 N o_this_racks (ff_X12_runScript_l39 N o_this_racks n) o_this o_this_panel o_this_spare o_this_history o_this_history_panels0 o_this_history_panels1 o_this_history_panels2 o_this_history_panels3 o_this_history_panels4 o_this_history_panels5 o_this_history_panels6 o_this_walls o_this_tokens o_this_script x2 x3 = some out := hf
      generalize hke : ff_X12_runScript_l39 N o_this_racks n = k39 at hk39 hf
      unfold ff_X12_runScript_c39 at hf
      refine lv_iload_n hx hb dX12_runScript_39 rfl (lv_at hl 2 rfl) ?_
      refine lv_aload_n hx hb dX12_runScript_40 rfl (lv_at hl 0 rfl) ?_
      refine va_get (D := D) (ci := 8) (v := .ref ((g 18) 0)) (C := RX12) (T := TX12) (N := 15) hx hb hUX12 (fun _ h9 => h9) hown hK hP 0 rfl rfl 10 (by decide) (hts (Cond.fieldLink RX12 78 "ReliefBuilder" "script" "LReliefBuilder$Script;") (List.mem_of_getElem? (i := 3) rfl)) (fun _ h9 => h9) rfl dX12_runScript_41 ?_
      refine va_get (D := D) (ci := 5) (v := .int (os_I o_this_script 6)) (C := RX8) (T := TX8) (N := 7) hx hb hUX8 (fun _ h9 => h9) hown hK hP 51 rfl rfl 6 (by decide) (hts (Cond.fieldLink RX12 129 "ReliefBuilder$Script" "planned" "I") (List.mem_of_getElem? (i := 6) rfl)) (fun _ h9 => h9) rfl dX12_runScript_44 ?_
      refine lv_icmp_ge (tgt := 74) hx hb dX12_runScript_47 (by decide) (fun hc_8 => ?_) (fun hc_8 => ?_)
      · rw [if_pos hc_8] at hf
        exact hB74 o_this o_this_panel o_this_spare o_this_history o_this_history_panels0 o_this_history_panels1 o_this_history_panels2 o_this_history_panels3 o_this_history_panels4 o_this_history_panels5 o_this_history_panels6 o_this_walls o_this_tokens o_this_script x2 _ _ _ hP hD hS (lv_sub hl [0, 1] rfl) hf
      · rw [if_neg hc_8] at hf
        refine lv_aload_n hx hb dX12_runScript_50 rfl (lv_at hl 0 rfl) ?_
        refine lv_aload_n hx hb dX12_runScript_51 rfl (lv_at hl 0 rfl) ?_
        refine va_get (D := D) (ci := 8) (v := .ref ((g 18) 0)) (C := RX12) (T := TX12) (N := 15) hx hb hUX12 (fun _ h9 => h9) hown hK hP 0 rfl rfl 10 (by decide) (hts (Cond.fieldLink RX12 78 "ReliefBuilder" "script" "LReliefBuilder$Script;") (List.mem_of_getElem? (i := 3) rfl)) (fun _ h9 => h9) rfl dX12_runScript_52 ?_
        refine lv_iload_n hx hb dX12_runScript_55 rfl (lv_at hl 2 rfl) ?_
        obtain ⟨u_9, he_10, hf⟩ := os_bd hf
        refine mc_callV ⟨hx, hb, hml, hown, hts⟩ (mm_X8_plannedAt l zz D kA N (g 18) (g 16) o_this_script x3 u_9 he_10) (cwV 1 hts gX12_runScript_X8_plannedAt rfl rfl rfl (by decide +kernel) ⟨Nat.le_of_ble_eq_true rfl, Nat.le_of_ble_eq_true rfl⟩) (wc := (ce_X8 kA (zz 2) (g 18) (g 16) o_this_script)) (ci := 5) (q0 := 0) rfl rfl rfl hl.1 (As := [.int x3]) (rest := [.ref ((g 0) 0)]) rfl (Nat.le_of_ble_eq_true rfl) dX12_runScript_56 ⟨Nat.le_of_ble_eq_true rfl, Nat.le_of_ble_eq_true rfl⟩ hK hP hD hS hA [51, 52, 53, 54, 55] [0, 1, 2, 3, 4, 5, 6, 7, 8, 9, 10, 11, 12, 13, 14, 15, 16, 17, 18, 19, 20, 21, 22, 23, 24, 25, 26, 27, 28, 29, 30, 31, 32, 33, 34, 35, 36, 37, 38, 39, 40, 41, 42, 43, 44, 45, 46, 47, 48, 49, 50] [0, 1, 2, 3, 4, 5, 6, 7, 8, 9, 10, 11, 12, 13, 14, 15, 16, 17, 18, 19, 20, 21, 22, 23, 24, 25, 26, 27, 28, 29, 30, 31, 32, 33, 34, 35, 36, 37, 38, 39, 40, 41, 42, 43, 44, 45, 46, 47, 48, 49, 50, 51, 52, 53, 54, 55] rfl (by decide) rfl (by decide) (by decide) rfl (by decide) (wr := (ce_X12 kA g o_this ++ (ce_X5 kA (g 1) o_this_panel ++ (ce_X5 kA (g 2) o_this_spare ++ (ce_X3 kA (g 5) (fun k => g (6 + k)) o_this_history ++ (ce_X5 kA (g 6) o_this_history_panels0 ++ (ce_X5 kA (g 7) o_this_history_panels1 ++ (ce_X5 kA (g 8) o_this_history_panels2 ++ (ce_X5 kA (g 9) o_this_history_panels3 ++ (ce_X5 kA (g 10) o_this_history_panels4 ++ (ce_X5 kA (g 11) o_this_history_panels5 ++ (ce_X5 kA (g 12) o_this_history_panels6 ++ (ce_X11 kA (g 13) o_this_walls ++ (ce_X6 kA (g 15) o_this_racks ++ (ce_X10 kA (g 16) o_this_tokens))))))))))))))) (w2 := (ce_X12 kA g o_this ++ (ce_X5 kA (g 1) o_this_panel ++ (ce_X5 kA (g 2) o_this_spare ++ (ce_X3 kA (g 5) (fun k => g (6 + k)) o_this_history ++ (ce_X5 kA (g 6) o_this_history_panels0 ++ (ce_X5 kA (g 7) o_this_history_panels1 ++ (ce_X5 kA (g 8) o_this_history_panels2 ++ (ce_X5 kA (g 9) o_this_history_panels3 ++ (ce_X5 kA (g 10) o_this_history_panels4 ++ (ce_X5 kA (g 11) o_this_history_panels5 ++ (ce_X5 kA (g 12) o_this_history_panels6 ++ (ce_X11 kA (g 13) o_this_walls ++ (ce_X6 kA (g 15) o_this_racks ++ (ce_X10 kA (g 16) o_this_tokens ++ (ce_X8 kA (zz 2) (g 18) (g 16) o_this_script)))))))))))))))) (fun H locs hP hD hS => ?_)
        have hP : va_P D vwCl (ce_X12 kA g o_this ++ (ce_X5 kA (g 1) o_this_panel ++ (ce_X5 kA (g 2) o_this_spare ++ (ce_X3 kA (g 5) (fun k => g (6 + k)) o_this_history ++ (ce_X5 kA (g 6) o_this_history_panels0 ++ (ce_X5 kA (g 7) o_this_history_panels1 ++ (ce_X5 kA (g 8) o_this_history_panels2 ++ (ce_X5 kA (g 9) o_this_history_panels3 ++ (ce_X5 kA (g 10) o_this_history_panels4 ++ (ce_X5 kA (g 11) o_this_history_panels5 ++ (ce_X5 kA (g 12) o_this_history_panels6 ++ (ce_X11 kA (g 13) o_this_walls ++ (ce_X6 kA (g 15) o_this_racks ++ (ce_X10 kA (g 16) o_this_tokens ++ (ce_X8 kA (zz 2) (g 18) (g 16) o_this_script))))))))))))))) H := hP
        obtain ⟨u_11, he_12, hf⟩ := os_bd hf
        refine mx_callV ⟨hx, hb, hml, hown, hts⟩ (mm_X12_tryCommand l hst zz D kA N g o_this o_this_panel o_this_spare o_this_walls o_this_racks o_this_script u_9 u_11 he_12) (cwV 1 hts gX12_runScript_X12_tryCommand rfl rfl rfl (by decide +kernel) ⟨Nat.le_of_ble_eq_true rfl, Nat.le_of_ble_eq_true rfl⟩) (wc := (ce_X12 kA g o_this ++ (ce_X5 kA (g 1) o_this_panel ++ (ce_X5 kA (g 2) o_this_spare ++ (ce_X11 kA (g 13) o_this_walls ++ (ce_X6 kA (g 15) o_this_racks ++ (ce_X8 kA (zz 2) (g 18) (g 16) o_this_script))))))) (ci := 8) (q0 := 0) rfl rfl rfl hl.1 (As := [.int u_9]) (rest := []) rfl (Nat.le_of_ble_eq_true rfl) dX12_runScript_59 ⟨Nat.le_of_ble_eq_true rfl, Nat.le_of_ble_eq_true rfl⟩ hK hP hD hS hA hZ [0, 1, 2, 3, 4, 5, 6, 7, 8, 9, 10, 11, 42, 43, 44, 45, 51, 52, 53, 54, 55] [12, 13, 14, 15, 16, 17, 18, 19, 20, 21, 22, 23, 24, 25, 26, 27, 28, 29, 30, 31, 32, 33, 34, 35, 36, 37, 38, 39, 40, 41, 46, 47, 48, 49, 50] [35, 36, 37, 38, 39, 40, 41, 42, 43, 44, 45, 46, 0, 1, 2, 3, 4, 5, 6, 7, 8, 9, 10, 11, 12, 13, 14, 15, 16, 17, 18, 19, 20, 21, 22, 23, 24, 25, 26, 27, 28, 29, 47, 48, 49, 50, 30, 31, 32, 33, 34, 51, 52, 53, 54, 55] rfl (by decide) rfl (by decide) (by decide) rfl (by decide) (wr := (ce_X3 kA (g 5) (fun k => g (6 + k)) o_this_history ++ (ce_X5 kA (g 6) o_this_history_panels0 ++ (ce_X5 kA (g 7) o_this_history_panels1 ++ (ce_X5 kA (g 8) o_this_history_panels2 ++ (ce_X5 kA (g 9) o_this_history_panels3 ++ (ce_X5 kA (g 10) o_this_history_panels4 ++ (ce_X5 kA (g 11) o_this_history_panels5 ++ (ce_X5 kA (g 12) o_this_history_panels6 ++ (ce_X10 kA (g 16) o_this_tokens)))))))))) (w2 := (ce_X12 kA g o_this ++ (ce_X5 kA (g 1) u_11.2.2.1 ++ (ce_X5 kA (g 2) u_11.2.2.2.1 ++ (ce_X3 kA (g 5) (fun k => g (6 + k)) o_this_history ++ (ce_X5 kA (g 6) o_this_history_panels0 ++ (ce_X5 kA (g 7) o_this_history_panels1 ++ (ce_X5 kA (g 8) o_this_history_panels2 ++ (ce_X5 kA (g 9) o_this_history_panels3 ++ (ce_X5 kA (g 10) o_this_history_panels4 ++ (ce_X5 kA (g 11) o_this_history_panels5 ++ (ce_X5 kA (g 12) o_this_history_panels6 ++ (ce_X11 kA (g 13) u_11.2.2.2.2 ++ (ce_X6 kA (g 15) o_this_racks ++ (ce_X10 kA (g 16) o_this_tokens ++ (ce_X8 kA (zz 2) (g 18) (g 16) o_this_script)))))))))))))))) (fun hx9 H locs q9 ce hP hD hS h91 h92 h93 => ?_) (fun hx9 H locs hP hD hS => ?_)
        · rw [if_neg hx9] at hf
          rw [← Option.some.inj hf]
          exact mx_out hx9 hx0 hlk hP hK hD hS h91 h92 h93 (Nat.le_of_ble_eq_true rfl) (Nat.le_of_ble_eq_true rfl)
        · rw [if_pos hx9] at hf
          refine W.widen (k := 0) (n := 0) (Nat.le_of_ble_eq_true rfl) (Nat.le_of_ble_eq_true rfl) ?_
          have hP : va_P D vwCl (ce_X12 kA g o_this ++ (ce_X5 kA (g 1) u_11.2.2.1 ++ (ce_X5 kA (g 2) u_11.2.2.2.1 ++ (ce_X3 kA (g 5) (fun k => g (6 + k)) o_this_history ++ (ce_X5 kA (g 6) o_this_history_panels0 ++ (ce_X5 kA (g 7) o_this_history_panels1 ++ (ce_X5 kA (g 8) o_this_history_panels2 ++ (ce_X5 kA (g 9) o_this_history_panels3 ++ (ce_X5 kA (g 10) o_this_history_panels4 ++ (ce_X5 kA (g 11) o_this_history_panels5 ++ (ce_X5 kA (g 12) o_this_history_panels6 ++ (ce_X11 kA (g 13) u_11.2.2.2.2 ++ (ce_X6 kA (g 15) o_this_racks ++ (ce_X10 kA (g 16) o_this_tokens ++ (ce_X8 kA (zz 2) (g 18) (g 16) o_this_script))))))))))))))) H := hP
          refine lv_if_eq (tgt := 74) hx hb dX12_runScript_62 (by decide) (fun hc_13 => ?_) (fun hc_13 => ?_)
          · rw [if_pos hc_13] at hf
            exact hB74 o_this u_11.2.2.1 u_11.2.2.2.1 o_this_history o_this_history_panels0 o_this_history_panels1 o_this_history_panels2 o_this_history_panels3 o_this_history_panels4 o_this_history_panels5 o_this_history_panels6 u_11.2.2.2.2 o_this_tokens o_this_script x2 _ _ _ hP hD hS (lv_sub hl [0, 1] rfl) hf
          · rw [if_neg hc_13] at hf
            refine lv_iinc (v := x2 + 1) (lv' := [(2, .int (x2 + 1)), (0, .ref ((g 0) 0)), (3, .int x3)]) hx hb dX12_runScript_65 hl (k := 1) rfl rfl (by decide) rfl (fun ls hl => ?_)
            refine lv_iinc (v := x3 + 1) (lv' := [(3, .int (x3 + 1)), (2, .int (x2 + 1)), (0, .ref ((g 0) 0))]) hx hb dX12_runScript_68 hl (k := 2) rfl rfl (by decide) rfl (fun ls hl => ?_)
            refine lv_goto (tgt := 39) hx hb dX12_runScript_71 (by decide) ?_
            exact hk39 o_this u_11.2.2.1 u_11.2.2.2.1 o_this_history o_this_history_panels0 o_this_history_panels1 o_this_history_panels2 o_this_history_panels3 o_this_history_panels4 o_this_history_panels5 o_this_history_panels6 u_11.2.2.2.2 o_this_tokens o_this_script (x2 + 1) (x3 + 1) _ _ _ hP hD hS (lv_sub hl [2, 1, 0] rfl) hf
  unfold ff_X12_runScript at hf
  refine lv_aload_n hx hb dX12_runScript_0 rfl (lv_at hl 0 rfl) ?_
  refine va_get (D := D) (ci := 8) (v := .ref ((g 18) 0)) (C := RX12) (T := TX12) (N := 15) hx hb hUX12 (fun _ h9 => h9) hown hK hP 0 rfl rfl 10 (by decide) (hts (Cond.fieldLink RX12 78 "ReliefBuilder" "script" "LReliefBuilder$Script;") (List.mem_of_getElem? (i := 3) rfl)) (fun _ h9 => h9) rfl dX12_runScript_1 ?_
  obtain ⟨u_1, he_2, hf⟩ := os_bd hf
  refine mx_callV ⟨hx, hb, hml, hown, hts⟩ (mm_X8_readAll l hst zz D kA N (g 18) (g 16) o_this_script o_this_tokens u_1 he_2) (cwV 0 hts gX12_runScript_X8_readAll rfl rfl rfl (by decide +kernel) ⟨Nat.le_of_ble_eq_true rfl, Nat.le_of_ble_eq_true rfl⟩) (wc := (ce_X8 kA (zz 2) (g 18) (g 16) o_this_script ++ (ce_X10 kA (g 16) o_this_tokens))) (ci := 5) (q0 := 0) rfl rfl rfl hl.1 (As := []) (rest := []) rfl (Nat.le_of_ble_eq_true rfl) dX12_runScript_4 ⟨Nat.le_of_ble_eq_true rfl, Nat.le_of_ble_eq_true rfl⟩ hK hP hD hS hA hZ [51, 52, 53, 54, 55, 46, 47, 48, 49, 50] [0, 1, 2, 3, 4, 5, 6, 7, 8, 9, 10, 11, 12, 13, 14, 15, 16, 17, 18, 19, 20, 21, 22, 23, 24, 25, 26, 27, 28, 29, 30, 31, 32, 33, 34, 35, 36, 37, 38, 39, 40, 41, 42, 43, 44, 45] [0, 1, 2, 3, 4, 5, 6, 7, 8, 9, 10, 11, 12, 13, 14, 15, 16, 17, 18, 19, 20, 21, 22, 23, 24, 25, 26, 27, 28, 29, 30, 31, 32, 33, 34, 35, 36, 37, 38, 39, 40, 41, 42, 43, 44, 45, 51, 52, 53, 54, 55, 46, 47, 48, 49, 50] rfl (by decide) rfl (by decide) (by decide) rfl (by decide) (wr := (ce_X12 kA g o_this ++ (ce_X5 kA (g 1) o_this_panel ++ (ce_X5 kA (g 2) o_this_spare ++ (ce_X3 kA (g 5) (fun k => g (6 + k)) o_this_history ++ (ce_X5 kA (g 6) o_this_history_panels0 ++ (ce_X5 kA (g 7) o_this_history_panels1 ++ (ce_X5 kA (g 8) o_this_history_panels2 ++ (ce_X5 kA (g 9) o_this_history_panels3 ++ (ce_X5 kA (g 10) o_this_history_panels4 ++ (ce_X5 kA (g 11) o_this_history_panels5 ++ (ce_X5 kA (g 12) o_this_history_panels6 ++ (ce_X11 kA (g 13) o_this_walls ++ (ce_X6 kA (g 15) o_this_racks)))))))))))))) (w2 := (ce_X12 kA g o_this ++ (ce_X5 kA (g 1) o_this_panel ++ (ce_X5 kA (g 2) o_this_spare ++ (ce_X3 kA (g 5) (fun k => g (6 + k)) o_this_history ++ (ce_X5 kA (g 6) o_this_history_panels0 ++ (ce_X5 kA (g 7) o_this_history_panels1 ++ (ce_X5 kA (g 8) o_this_history_panels2 ++ (ce_X5 kA (g 9) o_this_history_panels3 ++ (ce_X5 kA (g 10) o_this_history_panels4 ++ (ce_X5 kA (g 11) o_this_history_panels5 ++ (ce_X5 kA (g 12) o_this_history_panels6 ++ (ce_X11 kA (g 13) o_this_walls ++ (ce_X6 kA (g 15) o_this_racks ++ (ce_X10 kA (g 16) u_1.2.2.2 ++ (ce_X8 kA (zz 2) (g 18) (g 16) u_1.2.2.1)))))))))))))))) (fun hx9 H locs q9 ce hP hD hS h91 h92 h93 => ?_) (fun hx9 H locs hP hD hS => ?_)
  · rw [if_neg hx9] at hf
    rw [← Option.some.inj hf]
    exact mx_out hx9 hx0 hlk hP hK hD hS h91 h92 h93 (Nat.le_of_ble_eq_true rfl) (Nat.le_of_ble_eq_true rfl)
  · rw [if_pos hx9] at hf
    refine W.widen (k := 0) (n := 0) (Nat.le_of_ble_eq_true rfl) (Nat.le_of_ble_eq_true rfl) ?_
    have hP : va_P D vwCl (ce_X12 kA g o_this ++ (ce_X5 kA (g 1) o_this_panel ++ (ce_X5 kA (g 2) o_this_spare ++ (ce_X3 kA (g 5) (fun k => g (6 + k)) o_this_history ++ (ce_X5 kA (g 6) o_this_history_panels0 ++ (ce_X5 kA (g 7) o_this_history_panels1 ++ (ce_X5 kA (g 8) o_this_history_panels2 ++ (ce_X5 kA (g 9) o_this_history_panels3 ++ (ce_X5 kA (g 10) o_this_history_panels4 ++ (ce_X5 kA (g 11) o_this_history_panels5 ++ (ce_X5 kA (g 12) o_this_history_panels6 ++ (ce_X11 kA (g 13) o_this_walls ++ (ce_X6 kA (g 15) o_this_racks ++ (ce_X10 kA (g 16) u_1.2.2.2 ++ (ce_X8 kA (zz 2) (g 18) (g 16) u_1.2.2.1))))))))))))))) H := hP
    refine lv_istore_n (lv' := [(1, .int u_1.2.1), (0, .ref ((g 0) 0))]) hx hb dX12_runScript_7 rfl hl (by decide) rfl (fun ls hl => ?_)
    refine lv_aload_n hx hb dX12_runScript_8 rfl (lv_at hl 1 rfl) ?_
    obtain ⟨u_3, he_4, hf⟩ := os_bd hf
    refine mc_callV ⟨hx, hb, hml, hown, hts⟩ (mm_X12_endText l D kA N g o_this u_1.2.2.2 u_3 he_4) (cwV 0 hts gX12_runScript_X12_endText rfl rfl rfl (by decide +kernel) ⟨Nat.le_of_ble_eq_true rfl, Nat.le_of_ble_eq_true rfl⟩) (wc := (ce_X12 kA g o_this ++ (ce_X10 kA (g 16) u_1.2.2.2))) (ci := 8) (q0 := 0) rfl rfl rfl hl.1 (As := []) (rest := []) rfl (Nat.le_of_ble_eq_true rfl) dX12_runScript_9 ⟨Nat.le_of_ble_eq_true rfl, Nat.le_of_ble_eq_true rfl⟩ hK hP hD hS hA [0, 1, 2, 3, 46, 47, 48, 49, 50] [4, 5, 6, 7, 8, 9, 10, 11, 12, 13, 14, 15, 16, 17, 18, 19, 20, 21, 22, 23, 24, 25, 26, 27, 28, 29, 30, 31, 32, 33, 34, 35, 36, 37, 38, 39, 40, 41, 42, 43, 44, 45, 51, 52, 53, 54, 55] [47, 48, 49, 50, 0, 1, 2, 3, 4, 5, 6, 7, 8, 9, 10, 11, 12, 13, 14, 15, 16, 17, 18, 19, 20, 21, 22, 23, 24, 25, 26, 27, 28, 29, 30, 31, 32, 33, 34, 35, 36, 37, 38, 39, 40, 41, 51, 52, 53, 54, 55, 42, 43, 44, 45, 46] rfl (by decide) rfl (by decide) (by decide) rfl (by decide) (wr := (ce_X5 kA (g 1) o_this_panel ++ (ce_X5 kA (g 2) o_this_spare ++ (ce_X3 kA (g 5) (fun k => g (6 + k)) o_this_history ++ (ce_X5 kA (g 6) o_this_history_panels0 ++ (ce_X5 kA (g 7) o_this_history_panels1 ++ (ce_X5 kA (g 8) o_this_history_panels2 ++ (ce_X5 kA (g 9) o_this_history_panels3 ++ (ce_X5 kA (g 10) o_this_history_panels4 ++ (ce_X5 kA (g 11) o_this_history_panels5 ++ (ce_X5 kA (g 12) o_this_history_panels6 ++ (ce_X11 kA (g 13) o_this_walls ++ (ce_X6 kA (g 15) o_this_racks ++ (ce_X8 kA (zz 2) (g 18) (g 16) u_1.2.2.1)))))))))))))) (w2 := (ce_X12 kA g u_3.1 ++ (ce_X5 kA (g 1) o_this_panel ++ (ce_X5 kA (g 2) o_this_spare ++ (ce_X3 kA (g 5) (fun k => g (6 + k)) o_this_history ++ (ce_X5 kA (g 6) o_this_history_panels0 ++ (ce_X5 kA (g 7) o_this_history_panels1 ++ (ce_X5 kA (g 8) o_this_history_panels2 ++ (ce_X5 kA (g 9) o_this_history_panels3 ++ (ce_X5 kA (g 10) o_this_history_panels4 ++ (ce_X5 kA (g 11) o_this_history_panels5 ++ (ce_X5 kA (g 12) o_this_history_panels6 ++ (ce_X11 kA (g 13) o_this_walls ++ (ce_X6 kA (g 15) o_this_racks ++ (ce_X10 kA (g 16) u_3.2 ++ (ce_X8 kA (zz 2) (g 18) (g 16) u_1.2.2.1)))))))))))))))) (fun H locs hP hD hS => ?_)
    have hP : va_P D vwCl (ce_X12 kA g u_3.1 ++ (ce_X5 kA (g 1) o_this_panel ++ (ce_X5 kA (g 2) o_this_spare ++ (ce_X3 kA (g 5) (fun k => g (6 + k)) o_this_history ++ (ce_X5 kA (g 6) o_this_history_panels0 ++ (ce_X5 kA (g 7) o_this_history_panels1 ++ (ce_X5 kA (g 8) o_this_history_panels2 ++ (ce_X5 kA (g 9) o_this_history_panels3 ++ (ce_X5 kA (g 10) o_this_history_panels4 ++ (ce_X5 kA (g 11) o_this_history_panels5 ++ (ce_X5 kA (g 12) o_this_history_panels6 ++ (ce_X11 kA (g 13) o_this_walls ++ (ce_X6 kA (g 15) o_this_racks ++ (ce_X10 kA (g 16) u_3.2 ++ (ce_X8 kA (zz 2) (g 18) (g 16) u_1.2.2.1))))))))))))))) H := hP
    refine lv_iload_n hx hb dX12_runScript_12 rfl (lv_at hl 0 rfl) ?_
    refine lv_if_ne (tgt := 24) hx hb dX12_runScript_13 (by decide) (fun hc_5 => ?_) (fun hc_5 => ?_)
    · rw [if_neg hc_5] at hf
      refine lv_aload_n hx hb dX12_runScript_24 rfl (lv_at hl 1 rfl) ?_
      refine va_get (D := D) (ci := 8) (v := .ref ((g 5) 0)) (C := RX12) (T := TX12) (N := 15) hx hb hUX12 (fun _ h9 => h9) hown hK hP 0 rfl rfl 4 (by decide) (hts (Cond.fieldLink RX12 30 "ReliefBuilder" "history" "LReliefBuilder$History;") (List.mem_of_getElem? (i := 4) rfl)) (fun _ h9 => h9) rfl dX12_runScript_25 ?_
      refine lv_aload_n hx hb dX12_runScript_28 rfl (lv_at hl 1 rfl) ?_
      refine va_get (D := D) (ci := 8) (v := .ref ((g 1) 0)) (C := RX12) (T := TX12) (N := 15) hx hb hUX12 (fun _ h9 => h9) hown hK hP 0 rfl rfl 0 (by decide) (hts (Cond.fieldLink RX12 12 "ReliefBuilder" "panel" "LReliefBuilder$Panel;") (List.mem_of_getElem? (i := 5) rfl)) (fun _ h9 => h9) rfl dX12_runScript_29 ?_
      obtain ⟨u_6, he_7, hf⟩ := os_bd hf
      refine mc_callV ⟨hx, hb, hml, hown, hts⟩ (mm_X3_open l D kA N (g 5) (fun k => g (6 + k)) (g 1) o_this_history o_this_history_panels0 o_this_history_panels1 o_this_history_panels2 o_this_history_panels3 o_this_history_panels4 o_this_history_panels5 o_this_history_panels6 o_this_panel u_6 he_7) (cwV 1 hts gX12_runScript_X3_open rfl rfl rfl (by decide +kernel) ⟨Nat.le_of_ble_eq_true rfl, Nat.le_of_ble_eq_true rfl⟩) (wc := (ce_X3 kA (g 5) (fun k => g (6 + k)) o_this_history ++ (ce_X5 kA (g 6) o_this_history_panels0 ++ (ce_X5 kA (g 7) o_this_history_panels1 ++ (ce_X5 kA (g 8) o_this_history_panels2 ++ (ce_X5 kA (g 9) o_this_history_panels3 ++ (ce_X5 kA (g 10) o_this_history_panels4 ++ (ce_X5 kA (g 11) o_this_history_panels5 ++ (ce_X5 kA (g 12) o_this_history_panels6 ++ (ce_X5 kA (g 1) o_this_panel)))))))))) (ci := 0) (q0 := 0) rfl rfl rfl hl.1 (As := [.ref ((g 1) 0)]) (rest := []) rfl (Nat.le_of_ble_eq_true rfl) dX12_runScript_32 ⟨Nat.le_of_ble_eq_true rfl, Nat.le_of_ble_eq_true rfl⟩ hK hP hD hS hA [12, 13, 14, 15, 16, 17, 18, 19, 20, 21, 22, 23, 24, 25, 26, 27, 28, 29, 30, 31, 32, 33, 34, 35, 36, 37, 38, 39, 40, 41, 4, 5, 6, 7] [0, 1, 2, 3, 8, 9, 10, 11, 42, 43, 44, 45, 46, 47, 48, 49, 50, 51, 52, 53, 54, 55] [0, 1, 2, 3, 52, 53, 54, 55, 4, 5, 6, 7, 22, 23, 24, 25, 26, 27, 28, 29, 30, 31, 32, 33, 34, 35, 36, 37, 38, 39, 40, 41, 42, 43, 44, 45, 46, 47, 48, 49, 50, 51, 8, 9, 10, 11, 12, 13, 14, 15, 16, 17, 18, 19, 20, 21] rfl (by decide) rfl (by decide) (by decide) rfl (by decide) (wr := (ce_X12 kA g u_3.1 ++ (ce_X5 kA (g 2) o_this_spare ++ (ce_X11 kA (g 13) o_this_walls ++ (ce_X6 kA (g 15) o_this_racks ++ (ce_X10 kA (g 16) u_3.2 ++ (ce_X8 kA (zz 2) (g 18) (g 16) u_1.2.2.1))))))) (w2 := (ce_X12 kA g u_3.1 ++ (ce_X5 kA (g 1) o_this_panel ++ (ce_X5 kA (g 2) o_this_spare ++ (ce_X3 kA (g 5) (fun k => g (6 + k)) o_this_history ++ (ce_X5 kA (g 6) u_6.1 ++ (ce_X5 kA (g 7) u_6.2.1 ++ (ce_X5 kA (g 8) u_6.2.2.1 ++ (ce_X5 kA (g 9) u_6.2.2.2.1 ++ (ce_X5 kA (g 10) u_6.2.2.2.2.1 ++ (ce_X5 kA (g 11) u_6.2.2.2.2.2.1 ++ (ce_X5 kA (g 12) u_6.2.2.2.2.2.2 ++ (ce_X11 kA (g 13) o_this_walls ++ (ce_X6 kA (g 15) o_this_racks ++ (ce_X10 kA (g 16) u_3.2 ++ (ce_X8 kA (zz 2) (g 18) (g 16) u_1.2.2.1)))))))))))))))) (fun H locs hP hD hS => ?_)
      have hP : va_P D vwCl (ce_X12 kA g u_3.1 ++ (ce_X5 kA (g 1) o_this_panel ++ (ce_X5 kA (g 2) o_this_spare ++ (ce_X3 kA (g 5) (fun k => g (6 + k)) o_this_history ++ (ce_X5 kA (g 6) u_6.1 ++ (ce_X5 kA (g 7) u_6.2.1 ++ (ce_X5 kA (g 8) u_6.2.2.1 ++ (ce_X5 kA (g 9) u_6.2.2.2.1 ++ (ce_X5 kA (g 10) u_6.2.2.2.2.1 ++ (ce_X5 kA (g 11) u_6.2.2.2.2.2.1 ++ (ce_X5 kA (g 12) u_6.2.2.2.2.2.2 ++ (ce_X11 kA (g 13) o_this_walls ++ (ce_X6 kA (g 15) o_this_racks ++ (ce_X10 kA (g 16) u_3.2 ++ (ce_X8 kA (zz 2) (g 18) (g 16) u_1.2.2.1))))))))))))))) H := hP
      refine lv_iconst (v := 0) hx hb dX12_runScript_35 (by decide) ?_
      refine lv_istore_n (lv' := [(2, .int (0 : Int32)), (1, .int u_1.2.1), (0, .ref ((g 0) 0))]) hx hb dX12_runScript_36 rfl hl (by decide) rfl (fun ls hl => ?_)
      refine lv_iconst (v := 0) hx hb dX12_runScript_37 (by decide) ?_
      refine lv_istore_n (lv' := [(3, .int (0 : Int32)), (2, .int (0 : Int32)), (1, .int u_1.2.1), (0, .ref ((g 0) 0))]) hx hb dX12_runScript_38 rfl hl (by decide) rfl (fun ls hl => ?_)
      exact hL39 N u_3.1 o_this_panel o_this_spare o_this_history u_6.1 u_6.2.1 u_6.2.2.1 u_6.2.2.2.1 u_6.2.2.2.2.1 u_6.2.2.2.2.2.1 u_6.2.2.2.2.2.2 o_this_walls u_3.2 u_1.2.2.1 (0 : Int32) (0 : Int32) _ _ _ hP hD hS (lv_sub hl [3, 1, 0] rfl) hf
    · rw [if_pos hc_5] at hf
      rw [← Option.some.inj hf]
      exact mx_throw (xc := 2) (own := RX12) (ik := 104) (ic := 106) (by decide) hx hb hst hown (by decide +kernel) (hts (Cond.classLink RX12 104 "java/lang/IllegalArgumentException") (List.mem_of_getElem? (i := 1) rfl)) (hts (Cond.initialized "java/lang/IllegalArgumentException") (List.mem_of_getElem? (i := 2) rfl)) (vx_hat (L := vx_at0 RX12 106 "java/lang/IllegalArgumentException" ["java/lang/RuntimeException", "java/lang/Exception"]) (B := [.declares ⟨"java/lang/RuntimeException", "<init>", "()V"⟩, .declares ⟨"java/lang/Exception", "<init>", "()V"⟩, .declares ⟨"java/lang/Throwable", "<init>", "()V"⟩, .castable "java/lang/IllegalArgumentException" "java/lang/IllegalArgumentException"]) (fun w h => hts w (List.mem_cons_of_mem _ (List.mem_append_right _ h))) (by decide +kernel) (st_bad (xc := 2) hZ.2.2.1.2.2)) (by decide +kernel) hZ hS (hl.1.trans hml.symm) hP hK hD dX12_runScript_16 dX12_runScript_19 dX12_runScript_20 dX12_runScript_23 hx0 (Nat.le_of_ble_eq_true rfl) (Nat.le_of_ble_eq_true rfl) (Nat.le_of_ble_eq_true rfl) (Nat.le_of_ble_eq_true rfl) hlk (Nat.le_of_ble_eq_true rfl) (Nat.le_of_ble_eq_true rfl)
def ff_X12_errorCode (N : Nat) (o_this : os_T) : Option Int32 :=
  some (os_I o_this 13)
set_option maxHeartbeats 4000000 in
set_option maxRecDepth 100000 in
theorem mm_X12_errorCode (l : Launch) (D : va_G) (kA : Nat → ClassId) (N : Nat) (g : Nat → Nat → Nat) (o_this : os_T) (out : Int32) (hf : ff_X12_errorCode N o_this = some out) : mc_C l D kA yX12_errorCode wsX12_errorCode ({ frames := 0, cells := 0, slots := 0, locals := 0 } : Room) [.ref ((g 0) 0)] (ce_X12 kA g o_this) (some (.int out)) (ce_X12 kA g o_this) := by
  refine mc_of (cc := cX12_errorCode) (maxL := 1) (ret := (some .int)) (by decide) rfl (Nat.le_of_ble_eq_true rfl) ?_
  intro p e s m below meth c A B hD hP hS ls hl
  obtain ⟨hx, hb, hr, hlk, hml, hown, hts, hK, hA, hnm⟩ := B
  have hown : s.vm.findClass RX12 = some m.cls := hown
  have hl : lv_has ls 1 [(0, .ref ((g 0) 0))] := hl
  have hUX12 : ∀ w ∈ u_ws RX12 TX12 15, w.before [.ref ((g 0) 0)].toArray s = true := fun w h => hts w (List.mem_cons_of_mem _ (List.mem_append_right _ h))
  unfold ff_X12_errorCode at hf
  refine lv_aload_n hx hb dX12_errorCode_0 rfl (lv_at hl 0 rfl) ?_
  refine va_get (D := D) (ci := 8) (v := .int (os_I o_this 13)) (C := RX12) (T := TX12) (N := 15) hx hb hUX12 (fun _ h9 => h9) hown hK hP 0 rfl rfl 13 (by decide) (hts (Cond.fieldLink RX12 145 "ReliefBuilder" "latestCode" "I") (List.mem_of_getElem? (i := 1) rfl)) (fun _ h9 => h9) rfl dX12_errorCode_1 ?_
  rw [← Option.some.inj hf]
  exact mc_reti hx hb hr hlk hP hK hD hS dX12_errorCode_4
def ff_X12_errorPosition (N : Nat) (o_this : os_T) : Option Int32 :=
  some (os_I o_this 14)
set_option maxHeartbeats 4000000 in
set_option maxRecDepth 100000 in
theorem mm_X12_errorPosition (l : Launch) (D : va_G) (kA : Nat → ClassId) (N : Nat) (g : Nat → Nat → Nat) (o_this : os_T) (out : Int32) (hf : ff_X12_errorPosition N o_this = some out) : mc_C l D kA yX12_errorPosition wsX12_errorPosition ({ frames := 0, cells := 0, slots := 0, locals := 0 } : Room) [.ref ((g 0) 0)] (ce_X12 kA g o_this) (some (.int out)) (ce_X12 kA g o_this) := by
  refine mc_of (cc := cX12_errorPosition) (maxL := 1) (ret := (some .int)) (by decide) rfl (Nat.le_of_ble_eq_true rfl) ?_
  intro p e s m below meth c A B hD hP hS ls hl
  obtain ⟨hx, hb, hr, hlk, hml, hown, hts, hK, hA, hnm⟩ := B
  have hown : s.vm.findClass RX12 = some m.cls := hown
  have hl : lv_has ls 1 [(0, .ref ((g 0) 0))] := hl
  have hUX12 : ∀ w ∈ u_ws RX12 TX12 15, w.before [.ref ((g 0) 0)].toArray s = true := fun w h => hts w (List.mem_cons_of_mem _ (List.mem_append_right _ h))
  unfold ff_X12_errorPosition at hf
  refine lv_aload_n hx hb dX12_errorPosition_0 rfl (lv_at hl 0 rfl) ?_
  refine va_get (D := D) (ci := 8) (v := .int (os_I o_this 14)) (C := RX12) (T := TX12) (N := 15) hx hb hUX12 (fun _ h9 => h9) hown hK hP 0 rfl rfl 14 (by decide) (hts (Cond.fieldLink RX12 86 "ReliefBuilder" "latestPosition" "I") (List.mem_of_getElem? (i := 1) rfl)) (fun _ h9 => h9) rfl dX12_errorPosition_1 ?_
  rw [← Option.some.inj hf]
  exact mc_reti hx hb hr hlk hP hK hD hS dX12_errorPosition_4
def ff_X12_setting (N : Nat) (o_this : os_T) (o_this_panel : os_T) (a1 : Int32) : Option (Nat × Int32) :=
  (if a1 = 0 then some (0, os_I o_this_panel 0) else (if a1 = 1 then some (0, os_I o_this_panel 1) else (if a1 = 2 then some (0, os_I o_this_panel 2) else (if a1 = 3 then some (0, os_I o_this_panel 3) else (if a1 = 4 then some (0, os_I o_this_panel 4) else (if a1 = 5 then some (0, os_I o_this_panel 5) else (if a1 = 6 then some (0, os_I o_this_panel 6) else some (2, (0 : Int32)))))))))
set_option maxHeartbeats 4000000 in
set_option maxRecDepth 100000 in
theorem mm_X12_setting (l : Launch) (hst : l.stackTraces = false) (zz : Nat → Nat → Nat) (D : va_G) (kA : Nat → ClassId) (N : Nat) (g : Nat → Nat → Nat) (o_this : os_T) (o_this_panel : os_T) (a1 : Int32) (out : (Nat × Int32)) (hf : ff_X12_setting N o_this o_this_panel a1 = some out) : mx_C l zz D kA yX12_setting wsX12_setting ({ frames := 6, cells := 1, slots := 6, locals := 90 } : Room) [.ref ((g 0) 0), .int a1] (ce_X12 kA g o_this ++ (ce_X5 kA (g 1) o_this_panel)) out.1 (some (.int out.2)) (ce_X12 kA g o_this ++ (ce_X5 kA (g 1) o_this_panel)) := by
  refine mx_of (cc := cX12_setting) (maxL := 2) (ret := (some .int)) (by decide) rfl (Nat.le_of_ble_eq_true rfl) ?_
  intro p e s m below meth c A B hx0 hZ hD hP hS ls hl
  obtain ⟨hx, hb, hr, hlk, hml, hown, hts, hK, hA, hnm⟩ := B
  have hown : s.vm.findClass RX12 = some m.cls := hown
  have hl : lv_has ls 2 [(0, .ref ((g 0) 0)), (1, .int a1)] := hl
  have hUX12 : ∀ w ∈ u_ws RX12 TX12 15, w.before [.ref ((g 0) 0), .int a1].toArray s = true := fun w h => hts w (List.mem_cons_of_mem _ (List.mem_append_left _ (List.mem_append_left _ (List.mem_append_right _ h))))
  have hUX5 : ∀ w ∈ u_ws RX5 TX5 10, w.before [.ref ((g 0) 0), .int a1].toArray s = true := fun w h => hts w (List.mem_cons_of_mem _ (List.mem_append_left _ (List.mem_append_right _ h)))
  unfold ff_X12_setting at hf
  refine lv_iload_n hx hb dX12_setting_0 rfl (lv_at hl 1 rfl) ?_
  by_cases hc_1 : a1 = 0
  · rw [if_pos hc_1] at hf
    refine lv_tableIn (tgt := 44) hx hb dX12_setting_1 (by rw [hc_1]; decide) (by rw [hc_1]; decide) (by rw [hc_1]; rfl) (by decide) ?_
    refine lv_aload_n hx hb dX12_setting_44 rfl (lv_at hl 0 rfl) ?_
    refine va_get (D := D) (ci := 8) (v := .ref ((g 1) 0)) (C := RX12) (T := TX12) (N := 15) hx hb hUX12 (fun _ h9 => h9) hown hK hP 0 rfl rfl 0 (by decide) (hts (Cond.fieldLink RX12 12 "ReliefBuilder" "panel" "LReliefBuilder$Panel;") (List.mem_of_getElem? (i := 3) rfl)) (fun _ h9 => h9) rfl dX12_setting_45 ?_
    refine va_get (D := D) (ci := 2) (v := .int (os_I o_this_panel 0)) (C := RX5) (T := TX5) (N := 10) hx hb hUX5 (fun _ h9 => h9) hown hK hP 4 rfl rfl 0 (by decide) (hts (Cond.fieldLink RX12 247 "ReliefBuilder$Panel" "width" "I") (List.mem_of_getElem? (i := 4) rfl)) (fun _ h9 => h9) rfl dX12_setting_48 ?_
    rw [← Option.some.inj hf]
    exact mx_reti (Nat.le_of_ble_eq_true rfl) (Nat.le_of_ble_eq_true rfl) hx hb hr hlk hP hK hD hS dX12_setting_51
  rw [if_neg hc_1] at hf
  by_cases hc_2 : a1 = 1
  · rw [if_pos hc_2] at hf
    refine lv_tableIn (tgt := 52) hx hb dX12_setting_1 (by rw [hc_2]; decide) (by rw [hc_2]; decide) (by rw [hc_2]; rfl) (by decide) ?_
    refine lv_aload_n hx hb dX12_setting_52 rfl (lv_at hl 0 rfl) ?_
    refine va_get (D := D) (ci := 8) (v := .ref ((g 1) 0)) (C := RX12) (T := TX12) (N := 15) hx hb hUX12 (fun _ h9 => h9) hown hK hP 0 rfl rfl 0 (by decide) (hts (Cond.fieldLink RX12 12 "ReliefBuilder" "panel" "LReliefBuilder$Panel;") (List.mem_of_getElem? (i := 3) rfl)) (fun _ h9 => h9) rfl dX12_setting_53 ?_
    refine va_get (D := D) (ci := 2) (v := .int (os_I o_this_panel 1)) (C := RX5) (T := TX5) (N := 10) hx hb hUX5 (fun _ h9 => h9) hown hK hP 4 rfl rfl 1 (by decide) (hts (Cond.fieldLink RX12 250 "ReliefBuilder$Panel" "rows" "I") (List.mem_of_getElem? (i := 5) rfl)) (fun _ h9 => h9) rfl dX12_setting_56 ?_
    rw [← Option.some.inj hf]
    exact mx_reti (Nat.le_of_ble_eq_true rfl) (Nat.le_of_ble_eq_true rfl) hx hb hr hlk hP hK hD hS dX12_setting_59
  rw [if_neg hc_2] at hf
  by_cases hc_3 : a1 = 2
  · rw [if_pos hc_3] at hf
    refine lv_tableIn (tgt := 60) hx hb dX12_setting_1 (by rw [hc_3]; decide) (by rw [hc_3]; decide) (by rw [hc_3]; rfl) (by decide) ?_
    refine lv_aload_n hx hb dX12_setting_60 rfl (lv_at hl 0 rfl) ?_
    refine va_get (D := D) (ci := 8) (v := .ref ((g 1) 0)) (C := RX12) (T := TX12) (N := 15) hx hb hUX12 (fun _ h9 => h9) hown hK hP 0 rfl rfl 0 (by decide) (hts (Cond.fieldLink RX12 12 "ReliefBuilder" "panel" "LReliefBuilder$Panel;") (List.mem_of_getElem? (i := 3) rfl)) (fun _ h9 => h9) rfl dX12_setting_61 ?_
    refine va_get (D := D) (ci := 2) (v := .int (os_I o_this_panel 2)) (C := RX5) (T := TX5) (N := 10) hx hb hUX5 (fun _ h9 => h9) hown hK hP 4 rfl rfl 2 (by decide) (hts (Cond.fieldLink RX12 253 "ReliefBuilder$Panel" "greatest" "I") (List.mem_of_getElem? (i := 6) rfl)) (fun _ h9 => h9) rfl dX12_setting_64 ?_
    rw [← Option.some.inj hf]
    exact mx_reti (Nat.le_of_ble_eq_true rfl) (Nat.le_of_ble_eq_true rfl) hx hb hr hlk hP hK hD hS dX12_setting_67
  rw [if_neg hc_3] at hf
  by_cases hc_4 : a1 = 3
  · rw [if_pos hc_4] at hf
    refine lv_tableIn (tgt := 68) hx hb dX12_setting_1 (by rw [hc_4]; decide) (by rw [hc_4]; decide) (by rw [hc_4]; rfl) (by decide) ?_
    refine lv_aload_n hx hb dX12_setting_68 rfl (lv_at hl 0 rfl) ?_
    refine va_get (D := D) (ci := 8) (v := .ref ((g 1) 0)) (C := RX12) (T := TX12) (N := 15) hx hb hUX12 (fun _ h9 => h9) hown hK hP 0 rfl rfl 0 (by decide) (hts (Cond.fieldLink RX12 12 "ReliefBuilder" "panel" "LReliefBuilder$Panel;") (List.mem_of_getElem? (i := 3) rfl)) (fun _ h9 => h9) rfl dX12_setting_69 ?_
    refine va_get (D := D) (ci := 2) (v := .int (os_I o_this_panel 3)) (C := RX5) (T := TX5) (N := 10) hx hb hUX5 (fun _ h9 => h9) hown hK hP 4 rfl rfl 3 (by decide) (hts (Cond.fieldLink RX12 256 "ReliefBuilder$Panel" "glass" "I") (List.mem_of_getElem? (i := 7) rfl)) (fun _ h9 => h9) rfl dX12_setting_72 ?_
    rw [← Option.some.inj hf]
    exact mx_reti (Nat.le_of_ble_eq_true rfl) (Nat.le_of_ble_eq_true rfl) hx hb hr hlk hP hK hD hS dX12_setting_75
  rw [if_neg hc_4] at hf
  by_cases hc_5 : a1 = 4
  · rw [if_pos hc_5] at hf
    refine lv_tableIn (tgt := 76) hx hb dX12_setting_1 (by rw [hc_5]; decide) (by rw [hc_5]; decide) (by rw [hc_5]; rfl) (by decide) ?_
    refine lv_aload_n hx hb dX12_setting_76 rfl (lv_at hl 0 rfl) ?_
    refine va_get (D := D) (ci := 8) (v := .ref ((g 1) 0)) (C := RX12) (T := TX12) (N := 15) hx hb hUX12 (fun _ h9 => h9) hown hK hP 0 rfl rfl 0 (by decide) (hts (Cond.fieldLink RX12 12 "ReliefBuilder" "panel" "LReliefBuilder$Panel;") (List.mem_of_getElem? (i := 3) rfl)) (fun _ h9 => h9) rfl dX12_setting_77 ?_
    refine va_get (D := D) (ci := 2) (v := .int (os_I o_this_panel 4)) (C := RX5) (T := TX5) (N := 10) hx hb hUX5 (fun _ h9 => h9) hown hK hP 4 rfl rfl 4 (by decide) (hts (Cond.fieldLink RX12 259 "ReliefBuilder$Panel" "base" "I") (List.mem_of_getElem? (i := 8) rfl)) (fun _ h9 => h9) rfl dX12_setting_80 ?_
    rw [← Option.some.inj hf]
    exact mx_reti (Nat.le_of_ble_eq_true rfl) (Nat.le_of_ble_eq_true rfl) hx hb hr hlk hP hK hD hS dX12_setting_83
  rw [if_neg hc_5] at hf
  by_cases hc_6 : a1 = 5
  · rw [if_pos hc_6] at hf
    refine lv_tableIn (tgt := 84) hx hb dX12_setting_1 (by rw [hc_6]; decide) (by rw [hc_6]; decide) (by rw [hc_6]; rfl) (by decide) ?_
    refine lv_aload_n hx hb dX12_setting_84 rfl (lv_at hl 0 rfl) ?_
    refine va_get (D := D) (ci := 8) (v := .ref ((g 1) 0)) (C := RX12) (T := TX12) (N := 15) hx hb hUX12 (fun _ h9 => h9) hown hK hP 0 rfl rfl 0 (by decide) (hts (Cond.fieldLink RX12 12 "ReliefBuilder" "panel" "LReliefBuilder$Panel;") (List.mem_of_getElem? (i := 3) rfl)) (fun _ h9 => h9) rfl dX12_setting_85 ?_
    refine va_get (D := D) (ci := 2) (v := .int (os_I o_this_panel 5)) (C := RX5) (T := TX5) (N := 10) hx hb hUX5 (fun _ h9 => h9) hown hK hP 4 rfl rfl 5 (by decide) (hts (Cond.fieldLink RX12 262 "ReliefBuilder$Panel" "wall" "I") (List.mem_of_getElem? (i := 9) rfl)) (fun _ h9 => h9) rfl dX12_setting_88 ?_
    rw [← Option.some.inj hf]
    exact mx_reti (Nat.le_of_ble_eq_true rfl) (Nat.le_of_ble_eq_true rfl) hx hb hr hlk hP hK hD hS dX12_setting_91
  rw [if_neg hc_6] at hf
  by_cases hc_7 : a1 = 6
  · rw [if_pos hc_7] at hf
    refine lv_tableIn (tgt := 92) hx hb dX12_setting_1 (by rw [hc_7]; decide) (by rw [hc_7]; decide) (by rw [hc_7]; rfl) (by decide) ?_
    refine lv_aload_n hx hb dX12_setting_92 rfl (lv_at hl 0 rfl) ?_
    refine va_get (D := D) (ci := 8) (v := .ref ((g 1) 0)) (C := RX12) (T := TX12) (N := 15) hx hb hUX12 (fun _ h9 => h9) hown hK hP 0 rfl rfl 0 (by decide) (hts (Cond.fieldLink RX12 12 "ReliefBuilder" "panel" "LReliefBuilder$Panel;") (List.mem_of_getElem? (i := 3) rfl)) (fun _ h9 => h9) rfl dX12_setting_93 ?_
    refine va_get (D := D) (ci := 2) (v := .int (os_I o_this_panel 6)) (C := RX5) (T := TX5) (N := 10) hx hb hUX5 (fun _ h9 => h9) hown hK hP 4 rfl rfl 6 (by decide) (hts (Cond.fieldLink RX12 265 "ReliefBuilder$Panel" "slope" "I") (List.mem_of_getElem? (i := 10) rfl)) (fun _ h9 => h9) rfl dX12_setting_96 ?_
    rw [← Option.some.inj hf]
    exact mx_reti (Nat.le_of_ble_eq_true rfl) (Nat.le_of_ble_eq_true rfl) hx hb hr hlk hP hK hD hS dX12_setting_99
  rw [if_neg hc_7] at hf
  refine lv_tableOut (tgt := 100) hx hb dX12_setting_1 (by
    have hc_1_ : (a1).toInt ≠ 0 := fun h => hc_1 (Int32.toInt_inj.mp (h.trans (by decide)))
    have hc_2_ : (a1).toInt ≠ 1 := fun h => hc_2 (Int32.toInt_inj.mp (h.trans (by decide)))
    have hc_3_ : (a1).toInt ≠ 2 := fun h => hc_3 (Int32.toInt_inj.mp (h.trans (by decide)))
    have hc_4_ : (a1).toInt ≠ 3 := fun h => hc_4 (Int32.toInt_inj.mp (h.trans (by decide)))
    have hc_5_ : (a1).toInt ≠ 4 := fun h => hc_5 (Int32.toInt_inj.mp (h.trans (by decide)))
    have hc_6_ : (a1).toInt ≠ 5 := fun h => hc_6 (Int32.toInt_inj.mp (h.trans (by decide)))
    have hc_7_ : (a1).toInt ≠ 6 := fun h => hc_7 (Int32.toInt_inj.mp (h.trans (by decide)))
    omega) (by decide) ?_
  rw [← Option.some.inj hf]
  exact mx_throw (xc := 2) (own := RX12) (ik := 104) (ic := 106) (by decide) hx hb hst hown (by decide +kernel) (hts (Cond.classLink RX12 104 "java/lang/IllegalArgumentException") (List.mem_of_getElem? (i := 1) rfl)) (hts (Cond.initialized "java/lang/IllegalArgumentException") (List.mem_of_getElem? (i := 2) rfl)) (vx_hat (L := vx_at0 RX12 106 "java/lang/IllegalArgumentException" ["java/lang/RuntimeException", "java/lang/Exception"]) (B := [.declares ⟨"java/lang/RuntimeException", "<init>", "()V"⟩, .declares ⟨"java/lang/Exception", "<init>", "()V"⟩, .declares ⟨"java/lang/Throwable", "<init>", "()V"⟩, .castable "java/lang/IllegalArgumentException" "java/lang/IllegalArgumentException"]) (fun w h => hts w (List.mem_cons_of_mem _ (List.mem_append_right _ h))) (by decide +kernel) (st_bad (xc := 2) hZ.2.2.1.2.2)) (by decide +kernel) hZ hS (hl.1.trans hml.symm) hP hK hD dX12_setting_100 dX12_setting_103 dX12_setting_104 dX12_setting_107 hx0 (Nat.le_of_ble_eq_true rfl) (Nat.le_of_ble_eq_true rfl) (Nat.le_of_ble_eq_true rfl) (Nat.le_of_ble_eq_true rfl) hlk (Nat.le_of_ble_eq_true rfl) (Nat.le_of_ble_eq_true rfl)
def ff_X12_checkCell (N : Nat) (o_this : os_T) (o_this_panel : os_T) (a1 : Int32) (a2 : Int32) : Option Nat :=
  ((ff_X5_has N o_this_panel a1 a2).bind fun u_1 => (if u_1 = 0 then some 3 else some 0))
set_option maxHeartbeats 4000000 in
set_option maxRecDepth 100000 in
theorem mm_X12_checkCell (l : Launch) (hst : l.stackTraces = false) (zz : Nat → Nat → Nat) (D : va_G) (kA : Nat → ClassId) (N : Nat) (g : Nat → Nat → Nat) (o_this : os_T) (o_this_panel : os_T) (a1 : Int32) (a2 : Int32) (out : Nat) (hf : ff_X12_checkCell N o_this o_this_panel a1 a2 = some out) : mx_C l zz D kA yX12_checkCell wsX12_checkCell ({ frames := 6, cells := 1, slots := 6, locals := 90 } : Room) [.ref ((g 0) 0), .int a1, .int a2] (ce_X12 kA g o_this ++ (ce_X5 kA (g 1) o_this_panel)) out none (ce_X12 kA g o_this ++ (ce_X5 kA (g 1) o_this_panel)) := by
  refine mx_of (cc := cX12_checkCell) (maxL := 3) (ret := none) (by decide) rfl (Nat.le_of_ble_eq_true rfl) ?_
  intro p e s m below meth c A B hx0 hZ hD hP hS ls hl
  obtain ⟨hx, hb, hr, hlk, hml, hown, hts, hK, hA, hnm⟩ := B
  have hown : s.vm.findClass RX12 = some m.cls := hown
  have hl : lv_has ls 3 [(0, .ref ((g 0) 0)), (1, .int a1), (2, .int a2)] := hl
  have hUX12 : ∀ w ∈ u_ws RX12 TX12 15, w.before [.ref ((g 0) 0), .int a1, .int a2].toArray s = true := fun w h => hts w (List.mem_cons_of_mem _ (List.mem_append_left _ (List.mem_append_left _ (List.mem_append_right _ h))))
  unfold ff_X12_checkCell at hf
  refine lv_aload_n hx hb dX12_checkCell_0 rfl (lv_at hl 0 rfl) ?_
  refine va_get (D := D) (ci := 8) (v := .ref ((g 1) 0)) (C := RX12) (T := TX12) (N := 15) hx hb hUX12 (fun _ h9 => h9) hown hK hP 0 rfl rfl 0 (by decide) (hts (Cond.fieldLink RX12 12 "ReliefBuilder" "panel" "LReliefBuilder$Panel;") (List.mem_of_getElem? (i := 3) rfl)) (fun _ h9 => h9) rfl dX12_checkCell_1 ?_
  refine lv_iload_n hx hb dX12_checkCell_4 rfl (lv_at hl 1 rfl) ?_
  refine lv_iload_n hx hb dX12_checkCell_5 rfl (lv_at hl 2 rfl) ?_
  obtain ⟨u_1, he_2, hf⟩ := os_bd hf
  refine mc_callV ⟨hx, hb, hml, hown, hts⟩ (mm_X5_has l D kA N (g 1) o_this_panel a1 a2 u_1 he_2) (cwV 2 hts gX12_checkCell_X5_has rfl rfl rfl (by decide +kernel) ⟨Nat.le_of_ble_eq_true rfl, Nat.le_of_ble_eq_true rfl⟩) (wc := (ce_X5 kA (g 1) o_this_panel)) (ci := 2) (q0 := 0) rfl rfl rfl hl.1 (As := [.int a1, .int a2]) (rest := []) rfl (Nat.le_of_ble_eq_true rfl) dX12_checkCell_6 ⟨Nat.le_of_ble_eq_true rfl, Nat.le_of_ble_eq_true rfl⟩ hK hP hD hS hA [4, 5, 6, 7] [0, 1, 2, 3] [0, 1, 2, 3, 4, 5, 6, 7] rfl (by decide) rfl (by decide) (by decide) rfl (by decide) (wr := (ce_X12 kA g o_this)) (w2 := (ce_X12 kA g o_this ++ (ce_X5 kA (g 1) o_this_panel))) (fun H locs hP hD hS => ?_)
  have hP : va_P D vwCl (ce_X12 kA g o_this ++ (ce_X5 kA (g 1) o_this_panel)) H := hP
  refine lv_if_ne (tgt := 20) hx hb dX12_checkCell_9 (by decide) (fun hc_3 => ?_) (fun hc_3 => ?_)
  · rw [if_neg hc_3] at hf
    rw [← Option.some.inj hf]
    exact mx_retv (Nat.le_of_ble_eq_true rfl) (Nat.le_of_ble_eq_true rfl) hx hb hr hlk hP hK hD hS dX12_checkCell_20
  · rw [if_pos hc_3] at hf
    rw [← Option.some.inj hf]
    exact mx_throw (xc := 3) (own := RX12) (ik := 290) (ic := 292) (by decide) hx hb hst hown (by decide +kernel) (hts (Cond.classLink RX12 290 "java/lang/IndexOutOfBoundsException") (List.mem_of_getElem? (i := 1) rfl)) (hts (Cond.initialized "java/lang/IndexOutOfBoundsException") (List.mem_of_getElem? (i := 2) rfl)) (vx_hat (L := vx_at0 RX12 292 "java/lang/IndexOutOfBoundsException" ["java/lang/RuntimeException", "java/lang/Exception"]) (B := [.declares ⟨"java/lang/RuntimeException", "<init>", "()V"⟩, .declares ⟨"java/lang/Exception", "<init>", "()V"⟩, .declares ⟨"java/lang/Throwable", "<init>", "()V"⟩, .castable "java/lang/IndexOutOfBoundsException" "java/lang/IndexOutOfBoundsException"]) (fun w h => hts w (List.mem_cons_of_mem _ (List.mem_append_right _ h))) (by decide +kernel) (st_bad (xc := 3) hZ.2.2.1.2.2)) (by decide +kernel) hZ hS (hl.1.trans hml.symm) hP hK hD dX12_checkCell_12 dX12_checkCell_15 dX12_checkCell_16 dX12_checkCell_19 hx0 (Nat.le_of_ble_eq_true rfl) (Nat.le_of_ble_eq_true rfl) (Nat.le_of_ble_eq_true rfl) (Nat.le_of_ble_eq_true rfl) hlk (Nat.le_of_ble_eq_true rfl) (Nat.le_of_ble_eq_true rfl)
def ff_X12_tone (N : Nat) (o_this : os_T) (o_this_panel : os_T) (a1 : Int32) (a2 : Int32) : Option (Nat × Int32) :=
  ((ff_X12_checkCell N o_this o_this_panel a1 a2).bind fun u_1 => (if u_1 = 0 then ((ff_X5_toneAt N o_this_panel a1 a2).bind fun u_3 => some (0, u_3)) else some (u_1, (0 : Int32))))
set_option maxHeartbeats 4000000 in
set_option maxRecDepth 100000 in
theorem mm_X12_tone (l : Launch) (hst : l.stackTraces = false) (zz : Nat → Nat → Nat) (D : va_G) (kA : Nat → ClassId) (N : Nat) (g : Nat → Nat → Nat) (o_this : os_T) (o_this_panel : os_T) (a1 : Int32) (a2 : Int32) (out : (Nat × Int32)) (hf : ff_X12_tone N o_this o_this_panel a1 a2 = some out) : mx_C l zz D kA yX12_tone wsX12_tone ({ frames := 7, cells := 1, slots := 6, locals := 112 } : Room) [.ref ((g 0) 0), .int a1, .int a2] (ce_X12 kA g o_this ++ (ce_X5 kA (g 1) o_this_panel)) out.1 (some (.int out.2)) (ce_X12 kA g o_this ++ (ce_X5 kA (g 1) o_this_panel)) := by
  refine mx_of (cc := cX12_tone) (maxL := 3) (ret := (some .int)) (by decide) rfl (Nat.le_of_ble_eq_true rfl) ?_
  intro p e s m below meth c A B hx0 hZ hD hP hS ls hl
  obtain ⟨hx, hb, hr, hlk, hml, hown, hts, hK, hA, hnm⟩ := B
  have hown : s.vm.findClass RX12 = some m.cls := hown
  have hl : lv_has ls 3 [(0, .ref ((g 0) 0)), (1, .int a1), (2, .int a2)] := hl
  have hUX12 : ∀ w ∈ u_ws RX12 TX12 15, w.before [.ref ((g 0) 0), .int a1, .int a2].toArray s = true := fun w h => hts w (List.mem_cons_of_mem _ (List.mem_append_left _ (List.mem_append_left _ (List.mem_append_right _ h))))
  unfold ff_X12_tone at hf
  refine lv_aload_n hx hb dX12_tone_0 rfl (lv_at hl 0 rfl) ?_
  refine lv_iload_n hx hb dX12_tone_1 rfl (lv_at hl 1 rfl) ?_
  refine lv_iload_n hx hb dX12_tone_2 rfl (lv_at hl 2 rfl) ?_
  obtain ⟨u_1, he_2, hf⟩ := os_bd hf
  refine mx_callV ⟨hx, hb, hml, hown, hts⟩ (mm_X12_checkCell l hst zz D kA N g o_this o_this_panel a1 a2 u_1 he_2) (cwV 2 hts gX12_tone_X12_checkCell rfl rfl rfl (by decide +kernel) ⟨Nat.le_of_ble_eq_true rfl, Nat.le_of_ble_eq_true rfl⟩) (wc := (ce_X12 kA g o_this ++ (ce_X5 kA (g 1) o_this_panel))) (ci := 8) (q0 := 0) rfl rfl rfl hl.1 (As := [.int a1, .int a2]) (rest := []) rfl (Nat.le_of_ble_eq_true rfl) dX12_tone_3 ⟨Nat.le_of_ble_eq_true rfl, Nat.le_of_ble_eq_true rfl⟩ hK hP hD hS hA hZ [0, 1, 2, 3, 4, 5, 6, 7] [] [0, 1, 2, 3, 4, 5, 6, 7] rfl (by decide) rfl (by decide) (by decide) rfl (by decide) (wr := []) (w2 := (ce_X12 kA g o_this ++ (ce_X5 kA (g 1) o_this_panel))) (fun hx9 H locs q9 ce hP hD hS h91 h92 h93 => ?_) (fun hx9 H locs hP hD hS => ?_)
  · rw [if_neg hx9] at hf
    rw [← Option.some.inj hf]
    exact mx_out hx9 hx0 hlk hP hK hD hS h91 h92 h93 (Nat.le_of_ble_eq_true rfl) (Nat.le_of_ble_eq_true rfl)
  · rw [if_pos hx9] at hf
    refine W.widen (k := 1) (n := 6) (Nat.le_of_ble_eq_true rfl) (Nat.le_of_ble_eq_true rfl) ?_
    have hP : va_P D vwCl (ce_X12 kA g o_this ++ (ce_X5 kA (g 1) o_this_panel)) H := hP
    refine lv_aload_n hx hb dX12_tone_6 rfl (lv_at hl 0 rfl) ?_
    refine va_get (D := D) (ci := 8) (v := .ref ((g 1) 0)) (C := RX12) (T := TX12) (N := 15) hx hb hUX12 (fun _ h9 => h9) hown hK hP 0 rfl rfl 0 (by decide) (hts (Cond.fieldLink RX12 12 "ReliefBuilder" "panel" "LReliefBuilder$Panel;") (List.mem_of_getElem? (i := 1) rfl)) (fun _ h9 => h9) rfl dX12_tone_7 ?_
    refine lv_iload_n hx hb dX12_tone_10 rfl (lv_at hl 1 rfl) ?_
    refine lv_iload_n hx hb dX12_tone_11 rfl (lv_at hl 2 rfl) ?_
    obtain ⟨u_3, he_4, hf⟩ := os_bd hf
    refine mc_callV ⟨hx, hb, hml, hown, hts⟩ (mm_X5_toneAt l D kA N (g 1) o_this_panel a1 a2 u_3 he_4) (cwV 2 hts gX12_tone_X5_toneAt rfl rfl rfl (by decide +kernel) ⟨Nat.le_of_ble_eq_true rfl, Nat.le_of_ble_eq_true rfl⟩) (wc := (ce_X5 kA (g 1) o_this_panel)) (ci := 2) (q0 := 0) rfl rfl rfl hl.1 (As := [.int a1, .int a2]) (rest := []) rfl (Nat.le_of_ble_eq_true rfl) dX12_tone_12 ⟨Nat.le_of_ble_eq_true rfl, Nat.le_of_ble_eq_true rfl⟩ hK hP hD hS hA [4, 5, 6, 7] [0, 1, 2, 3] [0, 1, 2, 3, 4, 5, 6, 7] rfl (by decide) rfl (by decide) (by decide) rfl (by decide) (wr := (ce_X12 kA g o_this)) (w2 := (ce_X12 kA g o_this ++ (ce_X5 kA (g 1) o_this_panel))) (fun H locs hP hD hS => ?_)
    have hP : va_P D vwCl (ce_X12 kA g o_this ++ (ce_X5 kA (g 1) o_this_panel)) H := hP
    rw [← Option.some.inj hf]
    exact mx_reti (Nat.le_of_ble_eq_true rfl) (Nat.le_of_ble_eq_true rfl) hx hb hr hlk hP hK hD hS dX12_tone_15
def ff_X12_height (N : Nat) (o_this : os_T) (o_this_panel : os_T) (a1 : Int32) (a2 : Int32) : Option (Nat × Int32) :=
  ((ff_X12_checkCell N o_this o_this_panel a1 a2).bind fun u_1 => (if u_1 = 0 then ((ff_X5_heightAt N o_this_panel a1 a2).bind fun u_3 => some (0, u_3)) else some (u_1, (0 : Int32))))
set_option maxHeartbeats 4000000 in
set_option maxRecDepth 100000 in
theorem mm_X12_height (l : Launch) (hst : l.stackTraces = false) (zz : Nat → Nat → Nat) (D : va_G) (kA : Nat → ClassId) (N : Nat) (g : Nat → Nat → Nat) (o_this : os_T) (o_this_panel : os_T) (a1 : Int32) (a2 : Int32) (out : (Nat × Int32)) (hf : ff_X12_height N o_this o_this_panel a1 a2 = some out) : mx_C l zz D kA yX12_height wsX12_height ({ frames := 7, cells := 1, slots := 6, locals := 112 } : Room) [.ref ((g 0) 0), .int a1, .int a2] (ce_X12 kA g o_this ++ (ce_X5 kA (g 1) o_this_panel)) out.1 (some (.int out.2)) (ce_X12 kA g o_this ++ (ce_X5 kA (g 1) o_this_panel)) := by
  refine mx_of (cc := cX12_height) (maxL := 3) (ret := (some .int)) (by decide) rfl (Nat.le_of_ble_eq_true rfl) ?_
  intro p e s m below meth c A B hx0 hZ hD hP hS ls hl
  obtain ⟨hx, hb, hr, hlk, hml, hown, hts, hK, hA, hnm⟩ := B
  have hown : s.vm.findClass RX12 = some m.cls := hown
  have hl : lv_has ls 3 [(0, .ref ((g 0) 0)), (1, .int a1), (2, .int a2)] := hl
  have hUX12 : ∀ w ∈ u_ws RX12 TX12 15, w.before [.ref ((g 0) 0), .int a1, .int a2].toArray s = true := fun w h => hts w (List.mem_cons_of_mem _ (List.mem_append_left _ (List.mem_append_left _ (List.mem_append_right _ h))))
  unfold ff_X12_height at hf
  refine lv_aload_n hx hb dX12_height_0 rfl (lv_at hl 0 rfl) ?_
  refine lv_iload_n hx hb dX12_height_1 rfl (lv_at hl 1 rfl) ?_
  refine lv_iload_n hx hb dX12_height_2 rfl (lv_at hl 2 rfl) ?_
  obtain ⟨u_1, he_2, hf⟩ := os_bd hf
  refine mx_callV ⟨hx, hb, hml, hown, hts⟩ (mm_X12_checkCell l hst zz D kA N g o_this o_this_panel a1 a2 u_1 he_2) (cwV 2 hts gX12_height_X12_checkCell rfl rfl rfl (by decide +kernel) ⟨Nat.le_of_ble_eq_true rfl, Nat.le_of_ble_eq_true rfl⟩) (wc := (ce_X12 kA g o_this ++ (ce_X5 kA (g 1) o_this_panel))) (ci := 8) (q0 := 0) rfl rfl rfl hl.1 (As := [.int a1, .int a2]) (rest := []) rfl (Nat.le_of_ble_eq_true rfl) dX12_height_3 ⟨Nat.le_of_ble_eq_true rfl, Nat.le_of_ble_eq_true rfl⟩ hK hP hD hS hA hZ [0, 1, 2, 3, 4, 5, 6, 7] [] [0, 1, 2, 3, 4, 5, 6, 7] rfl (by decide) rfl (by decide) (by decide) rfl (by decide) (wr := []) (w2 := (ce_X12 kA g o_this ++ (ce_X5 kA (g 1) o_this_panel))) (fun hx9 H locs q9 ce hP hD hS h91 h92 h93 => ?_) (fun hx9 H locs hP hD hS => ?_)
  · rw [if_neg hx9] at hf
    rw [← Option.some.inj hf]
    exact mx_out hx9 hx0 hlk hP hK hD hS h91 h92 h93 (Nat.le_of_ble_eq_true rfl) (Nat.le_of_ble_eq_true rfl)
  · rw [if_pos hx9] at hf
    refine W.widen (k := 1) (n := 6) (Nat.le_of_ble_eq_true rfl) (Nat.le_of_ble_eq_true rfl) ?_
    have hP : va_P D vwCl (ce_X12 kA g o_this ++ (ce_X5 kA (g 1) o_this_panel)) H := hP
    refine lv_aload_n hx hb dX12_height_6 rfl (lv_at hl 0 rfl) ?_
    refine va_get (D := D) (ci := 8) (v := .ref ((g 1) 0)) (C := RX12) (T := TX12) (N := 15) hx hb hUX12 (fun _ h9 => h9) hown hK hP 0 rfl rfl 0 (by decide) (hts (Cond.fieldLink RX12 12 "ReliefBuilder" "panel" "LReliefBuilder$Panel;") (List.mem_of_getElem? (i := 1) rfl)) (fun _ h9 => h9) rfl dX12_height_7 ?_
    refine lv_iload_n hx hb dX12_height_10 rfl (lv_at hl 1 rfl) ?_
    refine lv_iload_n hx hb dX12_height_11 rfl (lv_at hl 2 rfl) ?_
    obtain ⟨u_3, he_4, hf⟩ := os_bd hf
    refine mc_callV ⟨hx, hb, hml, hown, hts⟩ (mm_X5_heightAt l D kA N (g 1) o_this_panel a1 a2 u_3 he_4) (cwV 2 hts gX12_height_X5_heightAt rfl rfl rfl (by decide +kernel) ⟨Nat.le_of_ble_eq_true rfl, Nat.le_of_ble_eq_true rfl⟩) (wc := (ce_X5 kA (g 1) o_this_panel)) (ci := 2) (q0 := 0) rfl rfl rfl hl.1 (As := [.int a1, .int a2]) (rest := []) rfl (Nat.le_of_ble_eq_true rfl) dX12_height_12 ⟨Nat.le_of_ble_eq_true rfl, Nat.le_of_ble_eq_true rfl⟩ hK hP hD hS hA [4, 5, 6, 7] [0, 1, 2, 3] [0, 1, 2, 3, 4, 5, 6, 7] rfl (by decide) rfl (by decide) (by decide) rfl (by decide) (wr := (ce_X12 kA g o_this)) (w2 := (ce_X12 kA g o_this ++ (ce_X5 kA (g 1) o_this_panel))) (fun H locs hP hD hS => ?_)
    have hP : va_P D vwCl (ce_X12 kA g o_this ++ (ce_X5 kA (g 1) o_this_panel)) H := hP
    rw [← Option.some.inj hf]
    exact mx_reti (Nat.le_of_ble_eq_true rfl) (Nat.le_of_ble_eq_true rfl) hx hb hr hlk hP hK hD hS dX12_height_15
def ff_X12_volume (N : Nat) (o_this : os_T) (o_this_panel : os_T) : Option Int32 :=
  ((ff_X5_sumOfHeights N o_this_panel).bind fun u_1 => some u_1)
set_option maxHeartbeats 4000000 in
set_option maxRecDepth 100000 in
theorem mm_X12_volume (l : Launch) (D : va_G) (kA : Nat → ClassId) (N : Nat) (g : Nat → Nat → Nat) (o_this : os_T) (o_this_panel : os_T) (out : Int32) (hf : ff_X12_volume N o_this o_this_panel = some out) : mc_C l D kA yX12_volume wsX12_volume ({ frames := 2, cells := 0, slots := 0, locals := 45 } : Room) [.ref ((g 0) 0)] (ce_X12 kA g o_this ++ (ce_X5 kA (g 1) o_this_panel)) (some (.int out)) (ce_X12 kA g o_this ++ (ce_X5 kA (g 1) o_this_panel)) := by
  refine mc_of (cc := cX12_volume) (maxL := 1) (ret := (some .int)) (by decide) rfl (Nat.le_of_ble_eq_true rfl) ?_
  intro p e s m below meth c A B hD hP hS ls hl
  obtain ⟨hx, hb, hr, hlk, hml, hown, hts, hK, hA, hnm⟩ := B
  have hown : s.vm.findClass RX12 = some m.cls := hown
  have hl : lv_has ls 1 [(0, .ref ((g 0) 0))] := hl
  have hUX12 : ∀ w ∈ u_ws RX12 TX12 15, w.before [.ref ((g 0) 0)].toArray s = true := fun w h => hts w (List.mem_cons_of_mem _ (List.mem_append_left _ (List.mem_append_right _ h)))
  unfold ff_X12_volume at hf
  refine lv_aload_n hx hb dX12_volume_0 rfl (lv_at hl 0 rfl) ?_
  refine va_get (D := D) (ci := 8) (v := .ref ((g 1) 0)) (C := RX12) (T := TX12) (N := 15) hx hb hUX12 (fun _ h9 => h9) hown hK hP 0 rfl rfl 0 (by decide) (hts (Cond.fieldLink RX12 12 "ReliefBuilder" "panel" "LReliefBuilder$Panel;") (List.mem_of_getElem? (i := 1) rfl)) (fun _ h9 => h9) rfl dX12_volume_1 ?_
  obtain ⟨u_1, he_2, hf⟩ := os_bd hf
  refine mc_callV ⟨hx, hb, hml, hown, hts⟩ (mm_X5_sumOfHeights l D kA N (g 1) o_this_panel u_1 he_2) (cwV 0 hts gX12_volume_X5_sumOfHeights rfl rfl rfl (by decide +kernel) ⟨Nat.le_of_ble_eq_true rfl, Nat.le_of_ble_eq_true rfl⟩) (wc := (ce_X5 kA (g 1) o_this_panel)) (ci := 2) (q0 := 0) rfl rfl rfl hl.1 (As := []) (rest := []) rfl (Nat.le_of_ble_eq_true rfl) dX12_volume_4 ⟨Nat.le_of_ble_eq_true rfl, Nat.le_of_ble_eq_true rfl⟩ hK hP hD hS hA [4, 5, 6, 7] [0, 1, 2, 3] [0, 1, 2, 3, 4, 5, 6, 7] rfl (by decide) rfl (by decide) (by decide) rfl (by decide) (wr := (ce_X12 kA g o_this)) (w2 := (ce_X12 kA g o_this ++ (ce_X5 kA (g 1) o_this_panel))) (fun H locs hP hD hS => ?_)
  have hP : va_P D vwCl (ce_X12 kA g o_this ++ (ce_X5 kA (g 1) o_this_panel)) H := hP
  rw [← Option.some.inj hf]
  exact mc_reti hx hb hr hlk hP hK hD hS dX12_volume_7
def ff_X12_checkStep_b15 (N : Nat) (o_this : os_T) (o_this_panel : os_T) : Option Nat :=
  some 2
def ff_X12_checkStep (N : Nat) (o_this : os_T) (o_this_panel : os_T) (a1 : Int32) : Option Nat :=
  (if a1 < 0 then ff_X12_checkStep_b15 N o_this o_this_panel else (if a1 ≤ (os_I o_this_panel 2) then some 0 else ff_X12_checkStep_b15 N o_this o_this_panel))
set_option maxHeartbeats 4000000 in
set_option maxRecDepth 100000 in
theorem mm_X12_checkStep (l : Launch) (hst : l.stackTraces = false) (zz : Nat → Nat → Nat) (D : va_G) (kA : Nat → ClassId) (N : Nat) (g : Nat → Nat → Nat) (o_this : os_T) (o_this_panel : os_T) (a1 : Int32) (out : Nat) (hf : ff_X12_checkStep N o_this o_this_panel a1 = some out) : mx_C l zz D kA yX12_checkStep wsX12_checkStep ({ frames := 6, cells := 1, slots := 6, locals := 90 } : Room) [.ref ((g 0) 0), .int a1] (ce_X12 kA g o_this ++ (ce_X5 kA (g 1) o_this_panel)) out none (ce_X12 kA g o_this ++ (ce_X5 kA (g 1) o_this_panel)) := by
  refine mx_of (cc := cX12_checkStep) (maxL := 2) (ret := none) (by decide) rfl (Nat.le_of_ble_eq_true rfl) ?_
  intro p e s m below meth c A B hx0 hZ hD hP hS ls hl
  obtain ⟨hx, hb, hr, hlk, hml, hown, hts, hK, hA, hnm⟩ := B
  have hown : s.vm.findClass RX12 = some m.cls := hown
  have hl : lv_has ls 2 [(0, .ref ((g 0) 0)), (1, .int a1)] := hl
  have hUX12 : ∀ w ∈ u_ws RX12 TX12 15, w.before [.ref ((g 0) 0), .int a1].toArray s = true := fun w h => hts w (List.mem_cons_of_mem _ (List.mem_append_left _ (List.mem_append_left _ (List.mem_append_right _ h))))
  have hUX5 : ∀ w ∈ u_ws RX5 TX5 10, w.before [.ref ((g 0) 0), .int a1].toArray s = true := fun w h => hts w (List.mem_cons_of_mem _ (List.mem_append_left _ (List.mem_append_right _ h)))
  have hB15 : ∀ (H : Heap) (locs : List Loc) (ls : Array Slot), va_P D vwCl (ce_X12 kA g o_this ++ (ce_X5 kA (g 1) o_this_panel)) H → va_D A (ce_X12 kA g o_this ++ (ce_X5 kA (g 1) o_this_panel)) → va_S A s.heap H locs → lv_has ls 2 [] → ff_X12_checkStep_b15 N o_this o_this_panel = some out → W p l e ({ frames := 6, cells := 1, slots := 6, locals := 90 } : Room) s m [.ref ((g 0) 0), .int a1].toArray below meth c H locs 0 0 (vx_MQ below (mx_Q D kA A out none (ce_X12 kA g o_this ++ (ce_X5 kA (g 1) o_this_panel))) (mx_X D kA A out (ce_X12 kA g o_this ++ (ce_X5 kA (g 1) o_this_panel))) [.ref ((g 0) 0), .int a1].toArray s 1 6 A) (F0 m 15 ls []) := by
    intro H locs ls hP hD hS hl hf
    unfold ff_X12_checkStep_b15 at hf
    rw [← Option.some.inj hf]
    exact mx_throw (xc := 2) (own := RX12) (ik := 104) (ic := 106) (by decide) hx hb hst hown (by decide +kernel) (hts (Cond.classLink RX12 104 "java/lang/IllegalArgumentException") (List.mem_of_getElem? (i := 1) rfl)) (hts (Cond.initialized "java/lang/IllegalArgumentException") (List.mem_of_getElem? (i := 2) rfl)) (vx_hat (L := vx_at0 RX12 106 "java/lang/IllegalArgumentException" ["java/lang/RuntimeException", "java/lang/Exception"]) (B := [.declares ⟨"java/lang/RuntimeException", "<init>", "()V"⟩, .declares ⟨"java/lang/Exception", "<init>", "()V"⟩, .declares ⟨"java/lang/Throwable", "<init>", "()V"⟩, .castable "java/lang/IllegalArgumentException" "java/lang/IllegalArgumentException"]) (fun w h => hts w (List.mem_cons_of_mem _ (List.mem_append_right _ h))) (by decide +kernel) (st_bad (xc := 2) hZ.2.2.1.2.2)) (by decide +kernel) hZ hS (hl.1.trans hml.symm) hP hK hD dX12_checkStep_15 dX12_checkStep_18 dX12_checkStep_19 dX12_checkStep_22 hx0 (Nat.le_of_ble_eq_true rfl) (Nat.le_of_ble_eq_true rfl) (Nat.le_of_ble_eq_true rfl) (Nat.le_of_ble_eq_true rfl) hlk (Nat.le_of_ble_eq_true rfl) (Nat.le_of_ble_eq_true rfl)
  unfold ff_X12_checkStep at hf
  refine lv_iload_n hx hb dX12_checkStep_0 rfl (lv_at hl 1 rfl) ?_
  refine lv_if_lt (tgt := 15) hx hb dX12_checkStep_1 (by decide) (fun hc_1 => ?_) (fun hc_1 => ?_)
  · rw [if_pos hc_1] at hf
    exact hB15 _ _ _ hP hD hS (lv_sub hl [] rfl) hf
  · rw [if_neg hc_1] at hf
    refine lv_iload_n hx hb dX12_checkStep_4 rfl (lv_at hl 1 rfl) ?_
    refine lv_aload_n hx hb dX12_checkStep_5 rfl (lv_at hl 0 rfl) ?_
    refine va_get (D := D) (ci := 8) (v := .ref ((g 1) 0)) (C := RX12) (T := TX12) (N := 15) hx hb hUX12 (fun _ h9 => h9) hown hK hP 0 rfl rfl 0 (by decide) (hts (Cond.fieldLink RX12 12 "ReliefBuilder" "panel" "LReliefBuilder$Panel;") (List.mem_of_getElem? (i := 3) rfl)) (fun _ h9 => h9) rfl dX12_checkStep_6 ?_
    refine va_get (D := D) (ci := 2) (v := .int (os_I o_this_panel 2)) (C := RX5) (T := TX5) (N := 10) hx hb hUX5 (fun _ h9 => h9) hown hK hP 4 rfl rfl 2 (by decide) (hts (Cond.fieldLink RX12 253 "ReliefBuilder$Panel" "greatest" "I") (List.mem_of_getElem? (i := 4) rfl)) (fun _ h9 => h9) rfl dX12_checkStep_9 ?_
    refine lv_icmp_le (tgt := 23) hx hb dX12_checkStep_12 (by decide) (fun hc_2 => ?_) (fun hc_2 => ?_)
    · rw [if_pos hc_2] at hf
      rw [← Option.some.inj hf]
      exact mx_retv (Nat.le_of_ble_eq_true rfl) (Nat.le_of_ble_eq_true rfl) hx hb hr hlk hP hK hD hS dX12_checkStep_23
    · rw [if_neg hc_2] at hf
      exact hB15 _ _ _ hP hD hS (lv_sub hl [] rfl) hf
def ff_X12_cellsOf (N : Nat) (o_this : os_T) (o_this_panel : os_T) (a1 : Int32) : Option (Nat × Int32) :=
  ((ff_X12_checkStep N o_this o_this_panel a1).bind fun u_1 => (if u_1 = 0 then ((ff_X5_countOf N o_this_panel a1).bind fun u_3 => some (0, u_3)) else some (u_1, (0 : Int32))))
set_option maxHeartbeats 4000000 in
set_option maxRecDepth 100000 in
theorem mm_X12_cellsOf (l : Launch) (hst : l.stackTraces = false) (zz : Nat → Nat → Nat) (D : va_G) (kA : Nat → ClassId) (N : Nat) (g : Nat → Nat → Nat) (o_this : os_T) (o_this_panel : os_T) (a1 : Int32) (out : (Nat × Int32)) (hf : ff_X12_cellsOf N o_this o_this_panel a1 = some out) : mx_C l zz D kA yX12_cellsOf wsX12_cellsOf ({ frames := 7, cells := 1, slots := 6, locals := 111 } : Room) [.ref ((g 0) 0), .int a1] (ce_X12 kA g o_this ++ (ce_X5 kA (g 1) o_this_panel)) out.1 (some (.int out.2)) (ce_X12 kA g o_this ++ (ce_X5 kA (g 1) o_this_panel)) := by
  refine mx_of (cc := cX12_cellsOf) (maxL := 2) (ret := (some .int)) (by decide) rfl (Nat.le_of_ble_eq_true rfl) ?_
  intro p e s m below meth c A B hx0 hZ hD hP hS ls hl
  obtain ⟨hx, hb, hr, hlk, hml, hown, hts, hK, hA, hnm⟩ := B
  have hown : s.vm.findClass RX12 = some m.cls := hown
  have hl : lv_has ls 2 [(0, .ref ((g 0) 0)), (1, .int a1)] := hl
  have hUX12 : ∀ w ∈ u_ws RX12 TX12 15, w.before [.ref ((g 0) 0), .int a1].toArray s = true := fun w h => hts w (List.mem_cons_of_mem _ (List.mem_append_left _ (List.mem_append_left _ (List.mem_append_right _ h))))
  unfold ff_X12_cellsOf at hf
  refine lv_aload_n hx hb dX12_cellsOf_0 rfl (lv_at hl 0 rfl) ?_
  refine lv_iload_n hx hb dX12_cellsOf_1 rfl (lv_at hl 1 rfl) ?_
  obtain ⟨u_1, he_2, hf⟩ := os_bd hf
  refine mx_callV ⟨hx, hb, hml, hown, hts⟩ (mm_X12_checkStep l hst zz D kA N g o_this o_this_panel a1 u_1 he_2) (cwV 1 hts gX12_cellsOf_X12_checkStep rfl rfl rfl (by decide +kernel) ⟨Nat.le_of_ble_eq_true rfl, Nat.le_of_ble_eq_true rfl⟩) (wc := (ce_X12 kA g o_this ++ (ce_X5 kA (g 1) o_this_panel))) (ci := 8) (q0 := 0) rfl rfl rfl hl.1 (As := [.int a1]) (rest := []) rfl (Nat.le_of_ble_eq_true rfl) dX12_cellsOf_2 ⟨Nat.le_of_ble_eq_true rfl, Nat.le_of_ble_eq_true rfl⟩ hK hP hD hS hA hZ [0, 1, 2, 3, 4, 5, 6, 7] [] [0, 1, 2, 3, 4, 5, 6, 7] rfl (by decide) rfl (by decide) (by decide) rfl (by decide) (wr := []) (w2 := (ce_X12 kA g o_this ++ (ce_X5 kA (g 1) o_this_panel))) (fun hx9 H locs q9 ce hP hD hS h91 h92 h93 => ?_) (fun hx9 H locs hP hD hS => ?_)
  · rw [if_neg hx9] at hf
    rw [← Option.some.inj hf]
    exact mx_out hx9 hx0 hlk hP hK hD hS h91 h92 h93 (Nat.le_of_ble_eq_true rfl) (Nat.le_of_ble_eq_true rfl)
  · rw [if_pos hx9] at hf
    refine W.widen (k := 1) (n := 6) (Nat.le_of_ble_eq_true rfl) (Nat.le_of_ble_eq_true rfl) ?_
    have hP : va_P D vwCl (ce_X12 kA g o_this ++ (ce_X5 kA (g 1) o_this_panel)) H := hP
    refine lv_aload_n hx hb dX12_cellsOf_5 rfl (lv_at hl 0 rfl) ?_
    refine va_get (D := D) (ci := 8) (v := .ref ((g 1) 0)) (C := RX12) (T := TX12) (N := 15) hx hb hUX12 (fun _ h9 => h9) hown hK hP 0 rfl rfl 0 (by decide) (hts (Cond.fieldLink RX12 12 "ReliefBuilder" "panel" "LReliefBuilder$Panel;") (List.mem_of_getElem? (i := 1) rfl)) (fun _ h9 => h9) rfl dX12_cellsOf_6 ?_
    refine lv_iload_n hx hb dX12_cellsOf_9 rfl (lv_at hl 1 rfl) ?_
    obtain ⟨u_3, he_4, hf⟩ := os_bd hf
    refine mc_callV ⟨hx, hb, hml, hown, hts⟩ (mm_X5_countOf l D kA N (g 1) o_this_panel a1 u_3 he_4) (cwV 1 hts gX12_cellsOf_X5_countOf rfl rfl rfl (by decide +kernel) ⟨Nat.le_of_ble_eq_true rfl, Nat.le_of_ble_eq_true rfl⟩) (wc := (ce_X5 kA (g 1) o_this_panel)) (ci := 2) (q0 := 0) rfl rfl rfl hl.1 (As := [.int a1]) (rest := []) rfl (Nat.le_of_ble_eq_true rfl) dX12_cellsOf_10 ⟨Nat.le_of_ble_eq_true rfl, Nat.le_of_ble_eq_true rfl⟩ hK hP hD hS hA [4, 5, 6, 7] [0, 1, 2, 3] [0, 1, 2, 3, 4, 5, 6, 7] rfl (by decide) rfl (by decide) (by decide) rfl (by decide) (wr := (ce_X12 kA g o_this)) (w2 := (ce_X12 kA g o_this ++ (ce_X5 kA (g 1) o_this_panel))) (fun H locs hP hD hS => ?_)
    have hP : va_P D vwCl (ce_X12 kA g o_this ++ (ce_X5 kA (g 1) o_this_panel)) H := hP
    rw [← Option.some.inj hf]
    exact mx_reti (Nat.le_of_ble_eq_true rfl) (Nat.le_of_ble_eq_true rfl) hx hb hr hlk hP hK hD hS dX12_cellsOf_13
def ff_X12_steepest (N : Nat) (o_this : os_T) (o_this_panel : os_T) : Option Int32 :=
  ((ff_X5_greatestStep N o_this_panel).bind fun u_1 => some u_1)
set_option maxHeartbeats 4000000 in
set_option maxRecDepth 100000 in
theorem mm_X12_steepest (l : Launch) (D : va_G) (kA : Nat → ClassId) (N : Nat) (g : Nat → Nat → Nat) (o_this : os_T) (o_this_panel : os_T) (out : Int32) (hf : ff_X12_steepest N o_this o_this_panel = some out) : mc_C l D kA yX12_steepest wsX12_steepest ({ frames := 2, cells := 0, slots := 0, locals := 47 } : Room) [.ref ((g 0) 0)] (ce_X12 kA g o_this ++ (ce_X5 kA (g 1) o_this_panel)) (some (.int out)) (ce_X12 kA g o_this ++ (ce_X5 kA (g 1) o_this_panel)) := by
  refine mc_of (cc := cX12_steepest) (maxL := 1) (ret := (some .int)) (by decide) rfl (Nat.le_of_ble_eq_true rfl) ?_
  intro p e s m below meth c A B hD hP hS ls hl
  obtain ⟨hx, hb, hr, hlk, hml, hown, hts, hK, hA, hnm⟩ := B
  have hown : s.vm.findClass RX12 = some m.cls := hown
  have hl : lv_has ls 1 [(0, .ref ((g 0) 0))] := hl
  have hUX12 : ∀ w ∈ u_ws RX12 TX12 15, w.before [.ref ((g 0) 0)].toArray s = true := fun w h => hts w (List.mem_cons_of_mem _ (List.mem_append_left _ (List.mem_append_right _ h)))
  unfold ff_X12_steepest at hf
  refine lv_aload_n hx hb dX12_steepest_0 rfl (lv_at hl 0 rfl) ?_
  refine va_get (D := D) (ci := 8) (v := .ref ((g 1) 0)) (C := RX12) (T := TX12) (N := 15) hx hb hUX12 (fun _ h9 => h9) hown hK hP 0 rfl rfl 0 (by decide) (hts (Cond.fieldLink RX12 12 "ReliefBuilder" "panel" "LReliefBuilder$Panel;") (List.mem_of_getElem? (i := 1) rfl)) (fun _ h9 => h9) rfl dX12_steepest_1 ?_
  obtain ⟨u_1, he_2, hf⟩ := os_bd hf
  refine mc_callV ⟨hx, hb, hml, hown, hts⟩ (mm_X5_greatestStep l D kA N (g 1) o_this_panel u_1 he_2) (cwV 0 hts gX12_steepest_X5_greatestStep rfl rfl rfl (by decide +kernel) ⟨Nat.le_of_ble_eq_true rfl, Nat.le_of_ble_eq_true rfl⟩) (wc := (ce_X5 kA (g 1) o_this_panel)) (ci := 2) (q0 := 0) rfl rfl rfl hl.1 (As := []) (rest := []) rfl (Nat.le_of_ble_eq_true rfl) dX12_steepest_4 ⟨Nat.le_of_ble_eq_true rfl, Nat.le_of_ble_eq_true rfl⟩ hK hP hD hS hA [4, 5, 6, 7] [0, 1, 2, 3] [0, 1, 2, 3, 4, 5, 6, 7] rfl (by decide) rfl (by decide) (by decide) rfl (by decide) (wr := (ce_X12 kA g o_this)) (w2 := (ce_X12 kA g o_this ++ (ce_X5 kA (g 1) o_this_panel))) (fun H locs hP hD hS => ?_)
  have hP : va_P D vwCl (ce_X12 kA g o_this ++ (ce_X5 kA (g 1) o_this_panel)) H := hP
  rw [← Option.some.inj hf]
  exact mc_reti hx hb hr hlk hP hK hD hS dX12_steepest_7
def ff_X12_checkTone (N : Nat) (o_this : os_T) (a1 : Int32) : Option Nat :=
  ((ff_X5_isTone N a1).bind fun u_1 => (if u_1 = 0 then some 2 else some 0))
set_option maxHeartbeats 4000000 in
set_option maxRecDepth 100000 in
theorem mm_X12_checkTone (l : Launch) (hst : l.stackTraces = false) (zz : Nat → Nat → Nat) (D : va_G) (kA : Nat → ClassId) (N : Nat) (g : Nat → Nat → Nat) (o_this : os_T) (a1 : Int32) (out : Nat) (hf : ff_X12_checkTone N o_this a1 = some out) : mx_C l zz D kA yX12_checkTone wsX12_checkTone ({ frames := 6, cells := 1, slots := 6, locals := 90 } : Room) [.ref ((g 0) 0), .int a1] (ce_X12 kA g o_this) out none (ce_X12 kA g o_this) := by
  refine mx_of (cc := cX12_checkTone) (maxL := 2) (ret := none) (by decide) rfl (Nat.le_of_ble_eq_true rfl) ?_
  intro p e s m below meth c A B hx0 hZ hD hP hS ls hl
  obtain ⟨hx, hb, hr, hlk, hml, hown, hts, hK, hA, hnm⟩ := B
  have hown : s.vm.findClass RX12 = some m.cls := hown
  have hl : lv_has ls 2 [(0, .ref ((g 0) 0)), (1, .int a1)] := hl
  unfold ff_X12_checkTone at hf
  refine lv_iload_n hx hb dX12_checkTone_0 rfl (lv_at hl 1 rfl) ?_
  obtain ⟨u_1, he_2, hf⟩ := os_bd hf
  refine mc_callS ⟨hx, hb, hml, hown, hts⟩ (mm_X5_isTone l D kA N a1 u_1 he_2) (va_cwS 1 hts gX12_checkTone_X5_isTone rfl rfl rfl (by decide +kernel) ⟨Nat.le_of_ble_eq_true rfl, Nat.le_of_ble_eq_true rfl⟩) (wc := []) rfl hl.1 (As := [.int a1]) (rest := []) rfl (Nat.le_of_ble_eq_true rfl) dX12_checkTone_1 ⟨Nat.le_of_ble_eq_true rfl, Nat.le_of_ble_eq_true rfl⟩ hK hP hD hS hA [] [0, 1, 2, 3] [0, 1, 2, 3] rfl (by decide) rfl (by decide) (by decide) rfl (by decide) (wr := (ce_X12 kA g o_this)) (w2 := (ce_X12 kA g o_this)) (fun H locs hP hD hS => ?_)
  have hP : va_P D vwCl (ce_X12 kA g o_this) H := hP
  refine lv_if_ne (tgt := 15) hx hb dX12_checkTone_4 (by decide) (fun hc_3 => ?_) (fun hc_3 => ?_)
  · rw [if_neg hc_3] at hf
    rw [← Option.some.inj hf]
    exact mx_retv (Nat.le_of_ble_eq_true rfl) (Nat.le_of_ble_eq_true rfl) hx hb hr hlk hP hK hD hS dX12_checkTone_15
  · rw [if_pos hc_3] at hf
    rw [← Option.some.inj hf]
    exact mx_throw (xc := 2) (own := RX12) (ik := 104) (ic := 106) (by decide) hx hb hst hown (by decide +kernel) (hts (Cond.classLink RX12 104 "java/lang/IllegalArgumentException") (List.mem_of_getElem? (i := 1) rfl)) (hts (Cond.initialized "java/lang/IllegalArgumentException") (List.mem_of_getElem? (i := 2) rfl)) (vx_hat (L := vx_at0 RX12 106 "java/lang/IllegalArgumentException" ["java/lang/RuntimeException", "java/lang/Exception"]) (B := [.declares ⟨"java/lang/RuntimeException", "<init>", "()V"⟩, .declares ⟨"java/lang/Exception", "<init>", "()V"⟩, .declares ⟨"java/lang/Throwable", "<init>", "()V"⟩, .castable "java/lang/IllegalArgumentException" "java/lang/IllegalArgumentException"]) (fun w h => hts w (List.mem_cons_of_mem _ (List.mem_append_right _ h))) (by decide +kernel) (st_bad (xc := 2) hZ.2.2.1.2.2)) (by decide +kernel) hZ hS (hl.1.trans hml.symm) hP hK hD dX12_checkTone_7 dX12_checkTone_10 dX12_checkTone_11 dX12_checkTone_14 hx0 (Nat.le_of_ble_eq_true rfl) (Nat.le_of_ble_eq_true rfl) (Nat.le_of_ble_eq_true rfl) (Nat.le_of_ble_eq_true rfl) hlk (Nat.le_of_ble_eq_true rfl) (Nat.le_of_ble_eq_true rfl)
def ff_X12_checkLayer_b16 (N : Nat) (o_this : os_T) (o_this_panel : os_T) : Option Nat :=
  some 2
def ff_X12_checkLayer (N : Nat) (o_this : os_T) (o_this_panel : os_T) (a1 : Int32) : Option Nat :=
  (if a1 < (1 : Int32) then ff_X12_checkLayer_b16 N o_this o_this_panel else (if a1 ≤ (os_I o_this_panel 2) then some 0 else ff_X12_checkLayer_b16 N o_this o_this_panel))
set_option maxHeartbeats 4000000 in
set_option maxRecDepth 100000 in
theorem mm_X12_checkLayer (l : Launch) (hst : l.stackTraces = false) (zz : Nat → Nat → Nat) (D : va_G) (kA : Nat → ClassId) (N : Nat) (g : Nat → Nat → Nat) (o_this : os_T) (o_this_panel : os_T) (a1 : Int32) (out : Nat) (hf : ff_X12_checkLayer N o_this o_this_panel a1 = some out) : mx_C l zz D kA yX12_checkLayer wsX12_checkLayer ({ frames := 6, cells := 1, slots := 6, locals := 90 } : Room) [.ref ((g 0) 0), .int a1] (ce_X12 kA g o_this ++ (ce_X5 kA (g 1) o_this_panel)) out none (ce_X12 kA g o_this ++ (ce_X5 kA (g 1) o_this_panel)) := by
  refine mx_of (cc := cX12_checkLayer) (maxL := 2) (ret := none) (by decide) rfl (Nat.le_of_ble_eq_true rfl) ?_
  intro p e s m below meth c A B hx0 hZ hD hP hS ls hl
  obtain ⟨hx, hb, hr, hlk, hml, hown, hts, hK, hA, hnm⟩ := B
  have hown : s.vm.findClass RX12 = some m.cls := hown
  have hl : lv_has ls 2 [(0, .ref ((g 0) 0)), (1, .int a1)] := hl
  have hUX12 : ∀ w ∈ u_ws RX12 TX12 15, w.before [.ref ((g 0) 0), .int a1].toArray s = true := fun w h => hts w (List.mem_cons_of_mem _ (List.mem_append_left _ (List.mem_append_left _ (List.mem_append_right _ h))))
  have hUX5 : ∀ w ∈ u_ws RX5 TX5 10, w.before [.ref ((g 0) 0), .int a1].toArray s = true := fun w h => hts w (List.mem_cons_of_mem _ (List.mem_append_left _ (List.mem_append_right _ h)))
  have hB16 : ∀ (H : Heap) (locs : List Loc) (ls : Array Slot), va_P D vwCl (ce_X12 kA g o_this ++ (ce_X5 kA (g 1) o_this_panel)) H → va_D A (ce_X12 kA g o_this ++ (ce_X5 kA (g 1) o_this_panel)) → va_S A s.heap H locs → lv_has ls 2 [] → ff_X12_checkLayer_b16 N o_this o_this_panel = some out → W p l e ({ frames := 6, cells := 1, slots := 6, locals := 90 } : Room) s m [.ref ((g 0) 0), .int a1].toArray below meth c H locs 0 0 (vx_MQ below (mx_Q D kA A out none (ce_X12 kA g o_this ++ (ce_X5 kA (g 1) o_this_panel))) (mx_X D kA A out (ce_X12 kA g o_this ++ (ce_X5 kA (g 1) o_this_panel))) [.ref ((g 0) 0), .int a1].toArray s 1 6 A) (F0 m 16 ls []) := by
    intro H locs ls hP hD hS hl hf
    unfold ff_X12_checkLayer_b16 at hf
    rw [← Option.some.inj hf]
    exact mx_throw (xc := 2) (own := RX12) (ik := 104) (ic := 106) (by decide) hx hb hst hown (by decide +kernel) (hts (Cond.classLink RX12 104 "java/lang/IllegalArgumentException") (List.mem_of_getElem? (i := 1) rfl)) (hts (Cond.initialized "java/lang/IllegalArgumentException") (List.mem_of_getElem? (i := 2) rfl)) (vx_hat (L := vx_at0 RX12 106 "java/lang/IllegalArgumentException" ["java/lang/RuntimeException", "java/lang/Exception"]) (B := [.declares ⟨"java/lang/RuntimeException", "<init>", "()V"⟩, .declares ⟨"java/lang/Exception", "<init>", "()V"⟩, .declares ⟨"java/lang/Throwable", "<init>", "()V"⟩, .castable "java/lang/IllegalArgumentException" "java/lang/IllegalArgumentException"]) (fun w h => hts w (List.mem_cons_of_mem _ (List.mem_append_right _ h))) (by decide +kernel) (st_bad (xc := 2) hZ.2.2.1.2.2)) (by decide +kernel) hZ hS (hl.1.trans hml.symm) hP hK hD dX12_checkLayer_16 dX12_checkLayer_19 dX12_checkLayer_20 dX12_checkLayer_23 hx0 (Nat.le_of_ble_eq_true rfl) (Nat.le_of_ble_eq_true rfl) (Nat.le_of_ble_eq_true rfl) (Nat.le_of_ble_eq_true rfl) hlk (Nat.le_of_ble_eq_true rfl) (Nat.le_of_ble_eq_true rfl)
  unfold ff_X12_checkLayer at hf
  refine lv_iload_n hx hb dX12_checkLayer_0 rfl (lv_at hl 1 rfl) ?_
  refine lv_iconst (v := 1) hx hb dX12_checkLayer_1 (by decide) ?_
  refine lv_icmp_lt (tgt := 16) hx hb dX12_checkLayer_2 (by decide) (fun hc_1 => ?_) (fun hc_1 => ?_)
  · rw [if_pos hc_1] at hf
    exact hB16 _ _ _ hP hD hS (lv_sub hl [] rfl) hf
  · rw [if_neg hc_1] at hf
    refine lv_iload_n hx hb dX12_checkLayer_5 rfl (lv_at hl 1 rfl) ?_
    refine lv_aload_n hx hb dX12_checkLayer_6 rfl (lv_at hl 0 rfl) ?_
    refine va_get (D := D) (ci := 8) (v := .ref ((g 1) 0)) (C := RX12) (T := TX12) (N := 15) hx hb hUX12 (fun _ h9 => h9) hown hK hP 0 rfl rfl 0 (by decide) (hts (Cond.fieldLink RX12 12 "ReliefBuilder" "panel" "LReliefBuilder$Panel;") (List.mem_of_getElem? (i := 3) rfl)) (fun _ h9 => h9) rfl dX12_checkLayer_7 ?_
    refine va_get (D := D) (ci := 2) (v := .int (os_I o_this_panel 2)) (C := RX5) (T := TX5) (N := 10) hx hb hUX5 (fun _ h9 => h9) hown hK hP 4 rfl rfl 2 (by decide) (hts (Cond.fieldLink RX12 253 "ReliefBuilder$Panel" "greatest" "I") (List.mem_of_getElem? (i := 4) rfl)) (fun _ h9 => h9) rfl dX12_checkLayer_10 ?_
    refine lv_icmp_le (tgt := 24) hx hb dX12_checkLayer_13 (by decide) (fun hc_2 => ?_) (fun hc_2 => ?_)
    · rw [if_pos hc_2] at hf
      rw [← Option.some.inj hf]
      exact mx_retv (Nat.le_of_ble_eq_true rfl) (Nat.le_of_ble_eq_true rfl) hx hb hr hlk hP hK hD hS dX12_checkLayer_24
    · rw [if_neg hc_2] at hf
      exact hB16 _ _ _ hP hD hS (lv_sub hl [] rfl) hf
def ff_X12_light (N : Nat) (o_this : os_T) (o_this_panel : os_T) (a1 : Int32) : Option (Nat × UInt32) :=
  ((ff_X12_checkStep N o_this o_this_panel a1).bind fun u_1 => (if u_1 = 0 then ((ff_X5_lightOf N o_this_panel a1).bind fun u_3 => some (0, u_3)) else some (u_1, (0 : UInt32))))
set_option maxHeartbeats 4000000 in
set_option maxRecDepth 100000 in
theorem mm_X12_light (l : Launch) (hst : l.stackTraces = false) (zz : Nat → Nat → Nat) (D : va_G) (kA : Nat → ClassId) (N : Nat) (g : Nat → Nat → Nat) (o_this : os_T) (o_this_panel : os_T) (a1 : Int32) (out : (Nat × UInt32)) (hf : ff_X12_light N o_this o_this_panel a1 = some out) : mx_C l zz D kA yX12_light wsX12_light ({ frames := 7, cells := 1, slots := 6, locals := 111 } : Room) [.ref ((g 0) 0), .int a1] (ce_X12 kA g o_this ++ (ce_X5 kA (g 1) o_this_panel)) out.1 (some (.float out.2)) (ce_X12 kA g o_this ++ (ce_X5 kA (g 1) o_this_panel)) := by
  refine mx_of (cc := cX12_light) (maxL := 2) (ret := (some .float)) (by decide) rfl (Nat.le_of_ble_eq_true rfl) ?_
  intro p e s m below meth c A B hx0 hZ hD hP hS ls hl
  obtain ⟨hx, hb, hr, hlk, hml, hown, hts, hK, hA, hnm⟩ := B
  have hown : s.vm.findClass RX12 = some m.cls := hown
  have hl : lv_has ls 2 [(0, .ref ((g 0) 0)), (1, .int a1)] := hl
  have hUX12 : ∀ w ∈ u_ws RX12 TX12 15, w.before [.ref ((g 0) 0), .int a1].toArray s = true := fun w h => hts w (List.mem_cons_of_mem _ (List.mem_append_left _ (List.mem_append_left _ (List.mem_append_right _ h))))
  unfold ff_X12_light at hf
  refine lv_aload_n hx hb dX12_light_0 rfl (lv_at hl 0 rfl) ?_
  refine lv_iload_n hx hb dX12_light_1 rfl (lv_at hl 1 rfl) ?_
  obtain ⟨u_1, he_2, hf⟩ := os_bd hf
  refine mx_callV ⟨hx, hb, hml, hown, hts⟩ (mm_X12_checkStep l hst zz D kA N g o_this o_this_panel a1 u_1 he_2) (cwV 1 hts gX12_light_X12_checkStep rfl rfl rfl (by decide +kernel) ⟨Nat.le_of_ble_eq_true rfl, Nat.le_of_ble_eq_true rfl⟩) (wc := (ce_X12 kA g o_this ++ (ce_X5 kA (g 1) o_this_panel))) (ci := 8) (q0 := 0) rfl rfl rfl hl.1 (As := [.int a1]) (rest := []) rfl (Nat.le_of_ble_eq_true rfl) dX12_light_2 ⟨Nat.le_of_ble_eq_true rfl, Nat.le_of_ble_eq_true rfl⟩ hK hP hD hS hA hZ [0, 1, 2, 3, 4, 5, 6, 7] [] [0, 1, 2, 3, 4, 5, 6, 7] rfl (by decide) rfl (by decide) (by decide) rfl (by decide) (wr := []) (w2 := (ce_X12 kA g o_this ++ (ce_X5 kA (g 1) o_this_panel))) (fun hx9 H locs q9 ce hP hD hS h91 h92 h93 => ?_) (fun hx9 H locs hP hD hS => ?_)
  · rw [if_neg hx9] at hf
    rw [← Option.some.inj hf]
    exact mx_out hx9 hx0 hlk hP hK hD hS h91 h92 h93 (Nat.le_of_ble_eq_true rfl) (Nat.le_of_ble_eq_true rfl)
  · rw [if_pos hx9] at hf
    refine W.widen (k := 1) (n := 6) (Nat.le_of_ble_eq_true rfl) (Nat.le_of_ble_eq_true rfl) ?_
    have hP : va_P D vwCl (ce_X12 kA g o_this ++ (ce_X5 kA (g 1) o_this_panel)) H := hP
    refine lv_aload_n hx hb dX12_light_5 rfl (lv_at hl 0 rfl) ?_
    refine va_get (D := D) (ci := 8) (v := .ref ((g 1) 0)) (C := RX12) (T := TX12) (N := 15) hx hb hUX12 (fun _ h9 => h9) hown hK hP 0 rfl rfl 0 (by decide) (hts (Cond.fieldLink RX12 12 "ReliefBuilder" "panel" "LReliefBuilder$Panel;") (List.mem_of_getElem? (i := 1) rfl)) (fun _ h9 => h9) rfl dX12_light_6 ?_
    refine lv_iload_n hx hb dX12_light_9 rfl (lv_at hl 1 rfl) ?_
    obtain ⟨u_3, he_4, hf⟩ := os_bd hf
    refine mc_callV ⟨hx, hb, hml, hown, hts⟩ (mm_X5_lightOf l D kA N (g 1) o_this_panel a1 u_3 he_4) (cwV 1 hts gX12_light_X5_lightOf rfl rfl rfl (by decide +kernel) ⟨Nat.le_of_ble_eq_true rfl, Nat.le_of_ble_eq_true rfl⟩) (wc := (ce_X5 kA (g 1) o_this_panel)) (ci := 2) (q0 := 0) rfl rfl rfl hl.1 (As := [.int a1]) (rest := []) rfl (Nat.le_of_ble_eq_true rfl) dX12_light_10 ⟨Nat.le_of_ble_eq_true rfl, Nat.le_of_ble_eq_true rfl⟩ hK hP hD hS hA [4, 5, 6, 7] [0, 1, 2, 3] [0, 1, 2, 3, 4, 5, 6, 7] rfl (by decide) rfl (by decide) (by decide) rfl (by decide) (wr := (ce_X12 kA g o_this)) (w2 := (ce_X12 kA g o_this ++ (ce_X5 kA (g 1) o_this_panel))) (fun H locs hP hD hS => ?_)
    have hP : va_P D vwCl (ce_X12 kA g o_this ++ (ce_X5 kA (g 1) o_this_panel)) H := hP
    rw [← Option.some.inj hf]
    exact mx_retf (Nat.le_of_ble_eq_true rfl) (Nat.le_of_ble_eq_true rfl) hx hb hr hlk hP hK hD hS dX12_light_13
def ff_X12_heightFor (N : Nat) (o_this : os_T) (o_this_panel : os_T) (a1 : Int32) : Option (Nat × Int32) :=
  ((ff_X12_checkTone N o_this a1).bind fun u_1 => (if u_1 = 0 then ((ff_X5_wish N a1).bind fun u_3 => ((ff_X5_stepFor N o_this_panel u_3).bind fun u_5 => some (0, u_5))) else some (u_1, (0 : Int32))))
set_option maxHeartbeats 4000000 in
set_option maxRecDepth 100000 in
theorem mm_X12_heightFor (l : Launch) (hst : l.stackTraces = false) (zz : Nat → Nat → Nat) (D : va_G) (kA : Nat → ClassId) (N : Nat) (g : Nat → Nat → Nat) (o_this : os_T) (o_this_panel : os_T) (a1 : Int32) (out : (Nat × Int32)) (hf : ff_X12_heightFor N o_this o_this_panel a1 = some out) : mx_C l zz D kA yX12_heightFor wsX12_heightFor ({ frames := 7, cells := 1, slots := 6, locals := 111 } : Room) [.ref ((g 0) 0), .int a1] (ce_X12 kA g o_this ++ (ce_X5 kA (g 1) o_this_panel)) out.1 (some (.int out.2)) (ce_X12 kA g o_this ++ (ce_X5 kA (g 1) o_this_panel)) := by
  refine mx_of (cc := cX12_heightFor) (maxL := 2) (ret := (some .int)) (by decide) rfl (Nat.le_of_ble_eq_true rfl) ?_
  intro p e s m below meth c A B hx0 hZ hD hP hS ls hl
  obtain ⟨hx, hb, hr, hlk, hml, hown, hts, hK, hA, hnm⟩ := B
  have hown : s.vm.findClass RX12 = some m.cls := hown
  have hl : lv_has ls 2 [(0, .ref ((g 0) 0)), (1, .int a1)] := hl
  have hUX12 : ∀ w ∈ u_ws RX12 TX12 15, w.before [.ref ((g 0) 0), .int a1].toArray s = true := fun w h => hts w (List.mem_cons_of_mem _ (List.mem_append_left _ (List.mem_append_left _ (List.mem_append_right _ h))))
  unfold ff_X12_heightFor at hf
  refine lv_aload_n hx hb dX12_heightFor_0 rfl (lv_at hl 0 rfl) ?_
  refine lv_iload_n hx hb dX12_heightFor_1 rfl (lv_at hl 1 rfl) ?_
  obtain ⟨u_1, he_2, hf⟩ := os_bd hf
  refine mx_callV ⟨hx, hb, hml, hown, hts⟩ (mm_X12_checkTone l hst zz D kA N g o_this a1 u_1 he_2) (cwV 1 hts gX12_heightFor_X12_checkTone rfl rfl rfl (by decide +kernel) ⟨Nat.le_of_ble_eq_true rfl, Nat.le_of_ble_eq_true rfl⟩) (wc := (ce_X12 kA g o_this)) (ci := 8) (q0 := 0) rfl rfl rfl hl.1 (As := [.int a1]) (rest := []) rfl (Nat.le_of_ble_eq_true rfl) dX12_heightFor_2 ⟨Nat.le_of_ble_eq_true rfl, Nat.le_of_ble_eq_true rfl⟩ hK hP hD hS hA hZ [0, 1, 2, 3] [4, 5, 6, 7] [4, 5, 6, 7, 0, 1, 2, 3] rfl (by decide) rfl (by decide) (by decide) rfl (by decide) (wr := (ce_X5 kA (g 1) o_this_panel)) (w2 := (ce_X12 kA g o_this ++ (ce_X5 kA (g 1) o_this_panel))) (fun hx9 H locs q9 ce hP hD hS h91 h92 h93 => ?_) (fun hx9 H locs hP hD hS => ?_)
  · rw [if_neg hx9] at hf
    rw [← Option.some.inj hf]
    exact mx_out hx9 hx0 hlk hP hK hD hS h91 h92 h93 (Nat.le_of_ble_eq_true rfl) (Nat.le_of_ble_eq_true rfl)
  · rw [if_pos hx9] at hf
    refine W.widen (k := 1) (n := 6) (Nat.le_of_ble_eq_true rfl) (Nat.le_of_ble_eq_true rfl) ?_
    have hP : va_P D vwCl (ce_X12 kA g o_this ++ (ce_X5 kA (g 1) o_this_panel)) H := hP
    refine lv_aload_n hx hb dX12_heightFor_5 rfl (lv_at hl 0 rfl) ?_
    refine va_get (D := D) (ci := 8) (v := .ref ((g 1) 0)) (C := RX12) (T := TX12) (N := 15) hx hb hUX12 (fun _ h9 => h9) hown hK hP 0 rfl rfl 0 (by decide) (hts (Cond.fieldLink RX12 12 "ReliefBuilder" "panel" "LReliefBuilder$Panel;") (List.mem_of_getElem? (i := 1) rfl)) (fun _ h9 => h9) rfl dX12_heightFor_6 ?_
    refine lv_iload_n hx hb dX12_heightFor_9 rfl (lv_at hl 1 rfl) ?_
    obtain ⟨u_3, he_4, hf⟩ := os_bd hf
    refine mc_callS ⟨hx, hb, hml, hown, hts⟩ (mm_X5_wish l D kA N a1 u_3 he_4) (va_cwS 1 hts gX12_heightFor_X5_wish rfl rfl rfl (by decide +kernel) ⟨Nat.le_of_ble_eq_true rfl, Nat.le_of_ble_eq_true rfl⟩) (wc := []) rfl hl.1 (As := [.int a1]) (rest := [.ref ((g 1) 0)]) rfl (Nat.le_of_ble_eq_true rfl) dX12_heightFor_10 ⟨Nat.le_of_ble_eq_true rfl, Nat.le_of_ble_eq_true rfl⟩ hK hP hD hS hA [] [0, 1, 2, 3, 4, 5, 6, 7] [0, 1, 2, 3, 4, 5, 6, 7] rfl (by decide) rfl (by decide) (by decide) rfl (by decide) (wr := (ce_X12 kA g o_this ++ (ce_X5 kA (g 1) o_this_panel))) (w2 := (ce_X12 kA g o_this ++ (ce_X5 kA (g 1) o_this_panel))) (fun H locs hP hD hS => ?_)
    have hP : va_P D vwCl (ce_X12 kA g o_this ++ (ce_X5 kA (g 1) o_this_panel)) H := hP
    obtain ⟨u_5, he_6, hf⟩ := os_bd hf
    refine mc_callV ⟨hx, hb, hml, hown, hts⟩ (mm_X5_stepFor l D kA N (g 1) o_this_panel u_3 u_5 he_6) (cwV 1 hts gX12_heightFor_X5_stepFor rfl rfl rfl (by decide +kernel) ⟨Nat.le_of_ble_eq_true rfl, Nat.le_of_ble_eq_true rfl⟩) (wc := (ce_X5 kA (g 1) o_this_panel)) (ci := 2) (q0 := 0) rfl rfl rfl hl.1 (As := [.float u_3]) (rest := []) rfl (Nat.le_of_ble_eq_true rfl) dX12_heightFor_13 ⟨Nat.le_of_ble_eq_true rfl, Nat.le_of_ble_eq_true rfl⟩ hK hP hD hS hA [4, 5, 6, 7] [0, 1, 2, 3] [0, 1, 2, 3, 4, 5, 6, 7] rfl (by decide) rfl (by decide) (by decide) rfl (by decide) (wr := (ce_X12 kA g o_this)) (w2 := (ce_X12 kA g o_this ++ (ce_X5 kA (g 1) o_this_panel))) (fun H locs hP hD hS => ?_)
    have hP : va_P D vwCl (ce_X12 kA g o_this ++ (ce_X5 kA (g 1) o_this_panel)) H := hP
    rw [← Option.some.inj hf]
    exact mx_reti (Nat.le_of_ble_eq_true rfl) (Nat.le_of_ble_eq_true rfl) hx hb hr hlk hP hK hD hS dX12_heightFor_16
def ff_X12_wanted (N : Nat) (o_this : os_T) (o_this_panel : os_T) (a1 : Int32) (a2 : Int32) : Option (Nat × UInt32) :=
  ((ff_X12_checkCell N o_this o_this_panel a1 a2).bind fun u_1 => (if u_1 = 0 then ((ff_X5_wishAt N o_this_panel a1 a2).bind fun u_3 => some (0, u_3)) else some (u_1, (0 : UInt32))))
set_option maxHeartbeats 4000000 in
set_option maxRecDepth 100000 in
theorem mm_X12_wanted (l : Launch) (hst : l.stackTraces = false) (zz : Nat → Nat → Nat) (D : va_G) (kA : Nat → ClassId) (N : Nat) (g : Nat → Nat → Nat) (o_this : os_T) (o_this_panel : os_T) (a1 : Int32) (a2 : Int32) (out : (Nat × UInt32)) (hf : ff_X12_wanted N o_this o_this_panel a1 a2 = some out) : mx_C l zz D kA yX12_wanted wsX12_wanted ({ frames := 7, cells := 1, slots := 6, locals := 112 } : Room) [.ref ((g 0) 0), .int a1, .int a2] (ce_X12 kA g o_this ++ (ce_X5 kA (g 1) o_this_panel)) out.1 (some (.float out.2)) (ce_X12 kA g o_this ++ (ce_X5 kA (g 1) o_this_panel)) := by
  refine mx_of (cc := cX12_wanted) (maxL := 3) (ret := (some .float)) (by decide) rfl (Nat.le_of_ble_eq_true rfl) ?_
  intro p e s m below meth c A B hx0 hZ hD hP hS ls hl
  obtain ⟨hx, hb, hr, hlk, hml, hown, hts, hK, hA, hnm⟩ := B
  have hown : s.vm.findClass RX12 = some m.cls := hown
  have hl : lv_has ls 3 [(0, .ref ((g 0) 0)), (1, .int a1), (2, .int a2)] := hl
  have hUX12 : ∀ w ∈ u_ws RX12 TX12 15, w.before [.ref ((g 0) 0), .int a1, .int a2].toArray s = true := fun w h => hts w (List.mem_cons_of_mem _ (List.mem_append_left _ (List.mem_append_left _ (List.mem_append_right _ h))))
  unfold ff_X12_wanted at hf
  refine lv_aload_n hx hb dX12_wanted_0 rfl (lv_at hl 0 rfl) ?_
  refine lv_iload_n hx hb dX12_wanted_1 rfl (lv_at hl 1 rfl) ?_
  refine lv_iload_n hx hb dX12_wanted_2 rfl (lv_at hl 2 rfl) ?_
  obtain ⟨u_1, he_2, hf⟩ := os_bd hf
  refine mx_callV ⟨hx, hb, hml, hown, hts⟩ (mm_X12_checkCell l hst zz D kA N g o_this o_this_panel a1 a2 u_1 he_2) (cwV 2 hts gX12_wanted_X12_checkCell rfl rfl rfl (by decide +kernel) ⟨Nat.le_of_ble_eq_true rfl, Nat.le_of_ble_eq_true rfl⟩) (wc := (ce_X12 kA g o_this ++ (ce_X5 kA (g 1) o_this_panel))) (ci := 8) (q0 := 0) rfl rfl rfl hl.1 (As := [.int a1, .int a2]) (rest := []) rfl (Nat.le_of_ble_eq_true rfl) dX12_wanted_3 ⟨Nat.le_of_ble_eq_true rfl, Nat.le_of_ble_eq_true rfl⟩ hK hP hD hS hA hZ [0, 1, 2, 3, 4, 5, 6, 7] [] [0, 1, 2, 3, 4, 5, 6, 7] rfl (by decide) rfl (by decide) (by decide) rfl (by decide) (wr := []) (w2 := (ce_X12 kA g o_this ++ (ce_X5 kA (g 1) o_this_panel))) (fun hx9 H locs q9 ce hP hD hS h91 h92 h93 => ?_) (fun hx9 H locs hP hD hS => ?_)
  · rw [if_neg hx9] at hf
    rw [← Option.some.inj hf]
    exact mx_out hx9 hx0 hlk hP hK hD hS h91 h92 h93 (Nat.le_of_ble_eq_true rfl) (Nat.le_of_ble_eq_true rfl)
  · rw [if_pos hx9] at hf
    refine W.widen (k := 1) (n := 6) (Nat.le_of_ble_eq_true rfl) (Nat.le_of_ble_eq_true rfl) ?_
    have hP : va_P D vwCl (ce_X12 kA g o_this ++ (ce_X5 kA (g 1) o_this_panel)) H := hP
    refine lv_aload_n hx hb dX12_wanted_6 rfl (lv_at hl 0 rfl) ?_
    refine va_get (D := D) (ci := 8) (v := .ref ((g 1) 0)) (C := RX12) (T := TX12) (N := 15) hx hb hUX12 (fun _ h9 => h9) hown hK hP 0 rfl rfl 0 (by decide) (hts (Cond.fieldLink RX12 12 "ReliefBuilder" "panel" "LReliefBuilder$Panel;") (List.mem_of_getElem? (i := 1) rfl)) (fun _ h9 => h9) rfl dX12_wanted_7 ?_
    refine lv_iload_n hx hb dX12_wanted_10 rfl (lv_at hl 1 rfl) ?_
    refine lv_iload_n hx hb dX12_wanted_11 rfl (lv_at hl 2 rfl) ?_
    obtain ⟨u_3, he_4, hf⟩ := os_bd hf
    refine mc_callV ⟨hx, hb, hml, hown, hts⟩ (mm_X5_wishAt l D kA N (g 1) o_this_panel a1 a2 u_3 he_4) (cwV 2 hts gX12_wanted_X5_wishAt rfl rfl rfl (by decide +kernel) ⟨Nat.le_of_ble_eq_true rfl, Nat.le_of_ble_eq_true rfl⟩) (wc := (ce_X5 kA (g 1) o_this_panel)) (ci := 2) (q0 := 0) rfl rfl rfl hl.1 (As := [.int a1, .int a2]) (rest := []) rfl (Nat.le_of_ble_eq_true rfl) dX12_wanted_12 ⟨Nat.le_of_ble_eq_true rfl, Nat.le_of_ble_eq_true rfl⟩ hK hP hD hS hA [4, 5, 6, 7] [0, 1, 2, 3] [0, 1, 2, 3, 4, 5, 6, 7] rfl (by decide) rfl (by decide) (by decide) rfl (by decide) (wr := (ce_X12 kA g o_this)) (w2 := (ce_X12 kA g o_this ++ (ce_X5 kA (g 1) o_this_panel))) (fun H locs hP hD hS => ?_)
    have hP : va_P D vwCl (ce_X12 kA g o_this ++ (ce_X5 kA (g 1) o_this_panel)) H := hP
    rw [← Option.some.inj hf]
    exact mx_retf (Nat.le_of_ble_eq_true rfl) (Nat.le_of_ble_eq_true rfl) hx hb hr hlk hP hK hD hS dX12_wanted_15
def ff_X12_estimate (N : Nat) (o_this : os_T) (o_this_panel : os_T) (a1 : Int32) (a2 : Int32) : Option (Nat × UInt32) :=
  ((ff_X12_checkCell N o_this o_this_panel a1 a2).bind fun u_1 => (if u_1 = 0 then ((ff_X2_glowAt N o_this_panel a1 a2).bind fun u_3 => some (0, u_3)) else some (u_1, (0 : UInt32))))
set_option maxHeartbeats 4000000 in
set_option maxRecDepth 100000 in
theorem mm_X12_estimate (l : Launch) (hst : l.stackTraces = false) (zz : Nat → Nat → Nat) (D : va_G) (kA : Nat → ClassId) (N : Nat) (g : Nat → Nat → Nat) (o_this : os_T) (o_this_panel : os_T) (a1 : Int32) (a2 : Int32) (out : (Nat × UInt32)) (hf : ff_X12_estimate N o_this o_this_panel a1 a2 = some out) : mx_C l zz D kA yX12_estimate wsX12_estimate ({ frames := 7, cells := 1, slots := 6, locals := 112 } : Room) [.ref ((g 0) 0), .int a1, .int a2] (ce_X12 kA g o_this ++ (ce_X5 kA (g 1) o_this_panel)) out.1 (some (.float out.2)) (ce_X12 kA g o_this ++ (ce_X5 kA (g 1) o_this_panel)) := by
  refine mx_of (cc := cX12_estimate) (maxL := 3) (ret := (some .float)) (by decide) rfl (Nat.le_of_ble_eq_true rfl) ?_
  intro p e s m below meth c A B hx0 hZ hD hP hS ls hl
  obtain ⟨hx, hb, hr, hlk, hml, hown, hts, hK, hA, hnm⟩ := B
  have hown : s.vm.findClass RX12 = some m.cls := hown
  have hl : lv_has ls 3 [(0, .ref ((g 0) 0)), (1, .int a1), (2, .int a2)] := hl
  have hUX12 : ∀ w ∈ u_ws RX12 TX12 15, w.before [.ref ((g 0) 0), .int a1, .int a2].toArray s = true := fun w h => hts w (List.mem_cons_of_mem _ (List.mem_append_left _ (List.mem_append_left _ (List.mem_append_right _ h))))
  unfold ff_X12_estimate at hf
  refine lv_aload_n hx hb dX12_estimate_0 rfl (lv_at hl 0 rfl) ?_
  refine lv_iload_n hx hb dX12_estimate_1 rfl (lv_at hl 1 rfl) ?_
  refine lv_iload_n hx hb dX12_estimate_2 rfl (lv_at hl 2 rfl) ?_
  obtain ⟨u_1, he_2, hf⟩ := os_bd hf
  refine mx_callV ⟨hx, hb, hml, hown, hts⟩ (mm_X12_checkCell l hst zz D kA N g o_this o_this_panel a1 a2 u_1 he_2) (cwV 2 hts gX12_estimate_X12_checkCell rfl rfl rfl (by decide +kernel) ⟨Nat.le_of_ble_eq_true rfl, Nat.le_of_ble_eq_true rfl⟩) (wc := (ce_X12 kA g o_this ++ (ce_X5 kA (g 1) o_this_panel))) (ci := 8) (q0 := 0) rfl rfl rfl hl.1 (As := [.int a1, .int a2]) (rest := []) rfl (Nat.le_of_ble_eq_true rfl) dX12_estimate_3 ⟨Nat.le_of_ble_eq_true rfl, Nat.le_of_ble_eq_true rfl⟩ hK hP hD hS hA hZ [0, 1, 2, 3, 4, 5, 6, 7] [] [0, 1, 2, 3, 4, 5, 6, 7] rfl (by decide) rfl (by decide) (by decide) rfl (by decide) (wr := []) (w2 := (ce_X12 kA g o_this ++ (ce_X5 kA (g 1) o_this_panel))) (fun hx9 H locs q9 ce hP hD hS h91 h92 h93 => ?_) (fun hx9 H locs hP hD hS => ?_)
  · rw [if_neg hx9] at hf
    rw [← Option.some.inj hf]
    exact mx_out hx9 hx0 hlk hP hK hD hS h91 h92 h93 (Nat.le_of_ble_eq_true rfl) (Nat.le_of_ble_eq_true rfl)
  · rw [if_pos hx9] at hf
    refine W.widen (k := 1) (n := 6) (Nat.le_of_ble_eq_true rfl) (Nat.le_of_ble_eq_true rfl) ?_
    have hP : va_P D vwCl (ce_X12 kA g o_this ++ (ce_X5 kA (g 1) o_this_panel)) H := hP
    refine lv_aload_n hx hb dX12_estimate_6 rfl (lv_at hl 0 rfl) ?_
    refine va_get (D := D) (ci := 8) (v := .ref ((g 1) 0)) (C := RX12) (T := TX12) (N := 15) hx hb hUX12 (fun _ h9 => h9) hown hK hP 0 rfl rfl 0 (by decide) (hts (Cond.fieldLink RX12 12 "ReliefBuilder" "panel" "LReliefBuilder$Panel;") (List.mem_of_getElem? (i := 1) rfl)) (fun _ h9 => h9) rfl dX12_estimate_7 ?_
    refine lv_iload_n hx hb dX12_estimate_10 rfl (lv_at hl 1 rfl) ?_
    refine lv_iload_n hx hb dX12_estimate_11 rfl (lv_at hl 2 rfl) ?_
    obtain ⟨u_3, he_4, hf⟩ := os_bd hf
    refine mc_callS ⟨hx, hb, hml, hown, hts⟩ (mm_X2_glowAt l D kA N (g 1) o_this_panel a1 a2 u_3 he_4) (va_cwS 3 hts gX12_estimate_X2_glowAt rfl rfl rfl (by decide +kernel) ⟨Nat.le_of_ble_eq_true rfl, Nat.le_of_ble_eq_true rfl⟩) (wc := (ce_X5 kA (g 1) o_this_panel)) rfl hl.1 (As := [.ref ((g 1) 0), .int a1, .int a2]) (rest := []) rfl (Nat.le_of_ble_eq_true rfl) dX12_estimate_12 ⟨Nat.le_of_ble_eq_true rfl, Nat.le_of_ble_eq_true rfl⟩ hK hP hD hS hA [4, 5, 6, 7] [0, 1, 2, 3] [0, 1, 2, 3, 4, 5, 6, 7] rfl (by decide) rfl (by decide) (by decide) rfl (by decide) (wr := (ce_X12 kA g o_this)) (w2 := (ce_X12 kA g o_this ++ (ce_X5 kA (g 1) o_this_panel))) (fun H locs hP hD hS => ?_)
    have hP : va_P D vwCl (ce_X12 kA g o_this ++ (ce_X5 kA (g 1) o_this_panel)) H := hP
    rw [← Option.some.inj hf]
    exact mx_retf (Nat.le_of_ble_eq_true rfl) (Nat.le_of_ble_eq_true rfl) hx hb hr hlk hP hK hD hS dX12_estimate_15
def ff_X12_error (N : Nat) (o_this : os_T) (o_this_panel : os_T) (a1 : Int32) (a2 : Int32) : Option (Nat × UInt32) :=
  ((ff_X12_checkCell N o_this o_this_panel a1 a2).bind fun u_1 => (if u_1 = 0 then ((ff_X2_missAt N o_this_panel a1 a2).bind fun u_3 => some (0, u_3)) else some (u_1, (0 : UInt32))))
set_option maxHeartbeats 4000000 in
set_option maxRecDepth 100000 in
theorem mm_X12_error (l : Launch) (hst : l.stackTraces = false) (zz : Nat → Nat → Nat) (D : va_G) (kA : Nat → ClassId) (N : Nat) (g : Nat → Nat → Nat) (o_this : os_T) (o_this_panel : os_T) (a1 : Int32) (a2 : Int32) (out : (Nat × UInt32)) (hf : ff_X12_error N o_this o_this_panel a1 a2 = some out) : mx_C l zz D kA yX12_error wsX12_error ({ frames := 7, cells := 1, slots := 6, locals := 112 } : Room) [.ref ((g 0) 0), .int a1, .int a2] (ce_X12 kA g o_this ++ (ce_X5 kA (g 1) o_this_panel)) out.1 (some (.float out.2)) (ce_X12 kA g o_this ++ (ce_X5 kA (g 1) o_this_panel)) := by
  refine mx_of (cc := cX12_error) (maxL := 3) (ret := (some .float)) (by decide) rfl (Nat.le_of_ble_eq_true rfl) ?_
  intro p e s m below meth c A B hx0 hZ hD hP hS ls hl
  obtain ⟨hx, hb, hr, hlk, hml, hown, hts, hK, hA, hnm⟩ := B
  have hown : s.vm.findClass RX12 = some m.cls := hown
  have hl : lv_has ls 3 [(0, .ref ((g 0) 0)), (1, .int a1), (2, .int a2)] := hl
  have hUX12 : ∀ w ∈ u_ws RX12 TX12 15, w.before [.ref ((g 0) 0), .int a1, .int a2].toArray s = true := fun w h => hts w (List.mem_cons_of_mem _ (List.mem_append_left _ (List.mem_append_left _ (List.mem_append_right _ h))))
  unfold ff_X12_error at hf
  refine lv_aload_n hx hb dX12_error_0 rfl (lv_at hl 0 rfl) ?_
  refine lv_iload_n hx hb dX12_error_1 rfl (lv_at hl 1 rfl) ?_
  refine lv_iload_n hx hb dX12_error_2 rfl (lv_at hl 2 rfl) ?_
  obtain ⟨u_1, he_2, hf⟩ := os_bd hf
  refine mx_callV ⟨hx, hb, hml, hown, hts⟩ (mm_X12_checkCell l hst zz D kA N g o_this o_this_panel a1 a2 u_1 he_2) (cwV 2 hts gX12_error_X12_checkCell rfl rfl rfl (by decide +kernel) ⟨Nat.le_of_ble_eq_true rfl, Nat.le_of_ble_eq_true rfl⟩) (wc := (ce_X12 kA g o_this ++ (ce_X5 kA (g 1) o_this_panel))) (ci := 8) (q0 := 0) rfl rfl rfl hl.1 (As := [.int a1, .int a2]) (rest := []) rfl (Nat.le_of_ble_eq_true rfl) dX12_error_3 ⟨Nat.le_of_ble_eq_true rfl, Nat.le_of_ble_eq_true rfl⟩ hK hP hD hS hA hZ [0, 1, 2, 3, 4, 5, 6, 7] [] [0, 1, 2, 3, 4, 5, 6, 7] rfl (by decide) rfl (by decide) (by decide) rfl (by decide) (wr := []) (w2 := (ce_X12 kA g o_this ++ (ce_X5 kA (g 1) o_this_panel))) (fun hx9 H locs q9 ce hP hD hS h91 h92 h93 => ?_) (fun hx9 H locs hP hD hS => ?_)
  · rw [if_neg hx9] at hf
    rw [← Option.some.inj hf]
    exact mx_out hx9 hx0 hlk hP hK hD hS h91 h92 h93 (Nat.le_of_ble_eq_true rfl) (Nat.le_of_ble_eq_true rfl)
  · rw [if_pos hx9] at hf
    refine W.widen (k := 1) (n := 6) (Nat.le_of_ble_eq_true rfl) (Nat.le_of_ble_eq_true rfl) ?_
    have hP : va_P D vwCl (ce_X12 kA g o_this ++ (ce_X5 kA (g 1) o_this_panel)) H := hP
    refine lv_aload_n hx hb dX12_error_6 rfl (lv_at hl 0 rfl) ?_
    refine va_get (D := D) (ci := 8) (v := .ref ((g 1) 0)) (C := RX12) (T := TX12) (N := 15) hx hb hUX12 (fun _ h9 => h9) hown hK hP 0 rfl rfl 0 (by decide) (hts (Cond.fieldLink RX12 12 "ReliefBuilder" "panel" "LReliefBuilder$Panel;") (List.mem_of_getElem? (i := 1) rfl)) (fun _ h9 => h9) rfl dX12_error_7 ?_
    refine lv_iload_n hx hb dX12_error_10 rfl (lv_at hl 1 rfl) ?_
    refine lv_iload_n hx hb dX12_error_11 rfl (lv_at hl 2 rfl) ?_
    obtain ⟨u_3, he_4, hf⟩ := os_bd hf
    refine mc_callS ⟨hx, hb, hml, hown, hts⟩ (mm_X2_missAt l D kA N (g 1) o_this_panel a1 a2 u_3 he_4) (va_cwS 3 hts gX12_error_X2_missAt rfl rfl rfl (by decide +kernel) ⟨Nat.le_of_ble_eq_true rfl, Nat.le_of_ble_eq_true rfl⟩) (wc := (ce_X5 kA (g 1) o_this_panel)) rfl hl.1 (As := [.ref ((g 1) 0), .int a1, .int a2]) (rest := []) rfl (Nat.le_of_ble_eq_true rfl) dX12_error_12 ⟨Nat.le_of_ble_eq_true rfl, Nat.le_of_ble_eq_true rfl⟩ hK hP hD hS hA [4, 5, 6, 7] [0, 1, 2, 3] [0, 1, 2, 3, 4, 5, 6, 7] rfl (by decide) rfl (by decide) (by decide) rfl (by decide) (wr := (ce_X12 kA g o_this)) (w2 := (ce_X12 kA g o_this ++ (ce_X5 kA (g 1) o_this_panel))) (fun H locs hP hD hS => ?_)
    have hP : va_P D vwCl (ce_X12 kA g o_this ++ (ce_X5 kA (g 1) o_this_panel)) H := hP
    rw [← Option.some.inj hf]
    exact mx_retf (Nat.le_of_ble_eq_true rfl) (Nat.le_of_ble_eq_true rfl) hx hb hr hlk hP hK hD hS dX12_error_15
def ff_X12_meanError (N : Nat) (o_this : os_T) (o_this_panel : os_T) : Option UInt32 :=
  ((ff_X2_meanMiss N o_this_panel).bind fun u_1 => some u_1)
set_option maxHeartbeats 4000000 in
set_option maxRecDepth 100000 in
theorem mm_X12_meanError (l : Launch) (D : va_G) (kA : Nat → ClassId) (N : Nat) (g : Nat → Nat → Nat) (o_this : os_T) (o_this_panel : os_T) (out : UInt32) (hf : ff_X12_meanError N o_this o_this_panel = some out) : mc_C l D kA yX12_meanError wsX12_meanError ({ frames := 4, cells := 0, slots := 0, locals := 94 } : Room) [.ref ((g 0) 0)] (ce_X12 kA g o_this ++ (ce_X5 kA (g 1) o_this_panel)) (some (.float out)) (ce_X12 kA g o_this ++ (ce_X5 kA (g 1) o_this_panel)) := by
  refine mc_of (cc := cX12_meanError) (maxL := 1) (ret := (some .float)) (by decide) rfl (Nat.le_of_ble_eq_true rfl) ?_
  intro p e s m below meth c A B hD hP hS ls hl
  obtain ⟨hx, hb, hr, hlk, hml, hown, hts, hK, hA, hnm⟩ := B
  have hown : s.vm.findClass RX12 = some m.cls := hown
  have hl : lv_has ls 1 [(0, .ref ((g 0) 0))] := hl
  have hUX12 : ∀ w ∈ u_ws RX12 TX12 15, w.before [.ref ((g 0) 0)].toArray s = true := fun w h => hts w (List.mem_cons_of_mem _ (List.mem_append_left _ (List.mem_append_right _ h)))
  unfold ff_X12_meanError at hf
  refine lv_aload_n hx hb dX12_meanError_0 rfl (lv_at hl 0 rfl) ?_
  refine va_get (D := D) (ci := 8) (v := .ref ((g 1) 0)) (C := RX12) (T := TX12) (N := 15) hx hb hUX12 (fun _ h9 => h9) hown hK hP 0 rfl rfl 0 (by decide) (hts (Cond.fieldLink RX12 12 "ReliefBuilder" "panel" "LReliefBuilder$Panel;") (List.mem_of_getElem? (i := 1) rfl)) (fun _ h9 => h9) rfl dX12_meanError_1 ?_
  obtain ⟨u_1, he_2, hf⟩ := os_bd hf
  refine mc_callS ⟨hx, hb, hml, hown, hts⟩ (mm_X2_meanMiss l D kA N (g 1) o_this_panel u_1 he_2) (va_cwS 1 hts gX12_meanError_X2_meanMiss rfl rfl rfl (by decide +kernel) ⟨Nat.le_of_ble_eq_true rfl, Nat.le_of_ble_eq_true rfl⟩) (wc := (ce_X5 kA (g 1) o_this_panel)) rfl hl.1 (As := [.ref ((g 1) 0)]) (rest := []) rfl (Nat.le_of_ble_eq_true rfl) dX12_meanError_4 ⟨Nat.le_of_ble_eq_true rfl, Nat.le_of_ble_eq_true rfl⟩ hK hP hD hS hA [4, 5, 6, 7] [0, 1, 2, 3] [0, 1, 2, 3, 4, 5, 6, 7] rfl (by decide) rfl (by decide) (by decide) rfl (by decide) (wr := (ce_X12 kA g o_this)) (w2 := (ce_X12 kA g o_this ++ (ce_X5 kA (g 1) o_this_panel))) (fun H locs hP hD hS => ?_)
  have hP : va_P D vwCl (ce_X12 kA g o_this ++ (ce_X5 kA (g 1) o_this_panel)) H := hP
  rw [← Option.some.inj hf]
  exact mc_retf hx hb hr hlk hP hK hD hS dX12_meanError_7
def ff_X12_worstCell (N : Nat) (o_this : os_T) (o_this_panel : os_T) : Option Int32 :=
  ((ff_X2_worst N o_this_panel).bind fun u_1 => some u_1)
set_option maxHeartbeats 4000000 in
set_option maxRecDepth 100000 in
theorem mm_X12_worstCell (l : Launch) (D : va_G) (kA : Nat → ClassId) (N : Nat) (g : Nat → Nat → Nat) (o_this : os_T) (o_this_panel : os_T) (out : Int32) (hf : ff_X12_worstCell N o_this o_this_panel = some out) : mc_C l D kA yX12_worstCell wsX12_worstCell ({ frames := 4, cells := 0, slots := 0, locals := 96 } : Room) [.ref ((g 0) 0)] (ce_X12 kA g o_this ++ (ce_X5 kA (g 1) o_this_panel)) (some (.int out)) (ce_X12 kA g o_this ++ (ce_X5 kA (g 1) o_this_panel)) := by
  refine mc_of (cc := cX12_worstCell) (maxL := 1) (ret := (some .int)) (by decide) rfl (Nat.le_of_ble_eq_true rfl) ?_
  intro p e s m below meth c A B hD hP hS ls hl
  obtain ⟨hx, hb, hr, hlk, hml, hown, hts, hK, hA, hnm⟩ := B
  have hown : s.vm.findClass RX12 = some m.cls := hown
  have hl : lv_has ls 1 [(0, .ref ((g 0) 0))] := hl
  have hUX12 : ∀ w ∈ u_ws RX12 TX12 15, w.before [.ref ((g 0) 0)].toArray s = true := fun w h => hts w (List.mem_cons_of_mem _ (List.mem_append_left _ (List.mem_append_right _ h)))
  unfold ff_X12_worstCell at hf
  refine lv_aload_n hx hb dX12_worstCell_0 rfl (lv_at hl 0 rfl) ?_
  refine va_get (D := D) (ci := 8) (v := .ref ((g 1) 0)) (C := RX12) (T := TX12) (N := 15) hx hb hUX12 (fun _ h9 => h9) hown hK hP 0 rfl rfl 0 (by decide) (hts (Cond.fieldLink RX12 12 "ReliefBuilder" "panel" "LReliefBuilder$Panel;") (List.mem_of_getElem? (i := 1) rfl)) (fun _ h9 => h9) rfl dX12_worstCell_1 ?_
  obtain ⟨u_1, he_2, hf⟩ := os_bd hf
  refine mc_callS ⟨hx, hb, hml, hown, hts⟩ (mm_X2_worst l D kA N (g 1) o_this_panel u_1 he_2) (va_cwS 1 hts gX12_worstCell_X2_worst rfl rfl rfl (by decide +kernel) ⟨Nat.le_of_ble_eq_true rfl, Nat.le_of_ble_eq_true rfl⟩) (wc := (ce_X5 kA (g 1) o_this_panel)) rfl hl.1 (As := [.ref ((g 1) 0)]) (rest := []) rfl (Nat.le_of_ble_eq_true rfl) dX12_worstCell_4 ⟨Nat.le_of_ble_eq_true rfl, Nat.le_of_ble_eq_true rfl⟩ hK hP hD hS hA [4, 5, 6, 7] [0, 1, 2, 3] [0, 1, 2, 3, 4, 5, 6, 7] rfl (by decide) rfl (by decide) (by decide) rfl (by decide) (wr := (ce_X12 kA g o_this)) (w2 := (ce_X12 kA g o_this ++ (ce_X5 kA (g 1) o_this_panel))) (fun H locs hP hD hS => ?_)
  have hP : va_P D vwCl (ce_X12 kA g o_this ++ (ce_X5 kA (g 1) o_this_panel)) H := hP
  rw [← Option.some.inj hf]
  exact mc_reti hx hb hr hlk hP hK hD hS dX12_worstCell_7
def ff_X12_fingerprint (N : Nat) (o_this : os_T) (o_this_panel : os_T) : Option Int32 :=
  ((ff_X2_hash N o_this_panel).bind fun u_1 => some u_1)
set_option maxHeartbeats 4000000 in
set_option maxRecDepth 100000 in
theorem mm_X12_fingerprint (l : Launch) (D : va_G) (kA : Nat → ClassId) (N : Nat) (g : Nat → Nat → Nat) (o_this : os_T) (o_this_panel : os_T) (out : Int32) (hf : ff_X12_fingerprint N o_this o_this_panel = some out) : mc_C l D kA yX12_fingerprint wsX12_fingerprint ({ frames := 3, cells := 0, slots := 0, locals := 71 } : Room) [.ref ((g 0) 0)] (ce_X12 kA g o_this ++ (ce_X5 kA (g 1) o_this_panel)) (some (.int out)) (ce_X12 kA g o_this ++ (ce_X5 kA (g 1) o_this_panel)) := by
  refine mc_of (cc := cX12_fingerprint) (maxL := 1) (ret := (some .int)) (by decide) rfl (Nat.le_of_ble_eq_true rfl) ?_
  intro p e s m below meth c A B hD hP hS ls hl
  obtain ⟨hx, hb, hr, hlk, hml, hown, hts, hK, hA, hnm⟩ := B
  have hown : s.vm.findClass RX12 = some m.cls := hown
  have hl : lv_has ls 1 [(0, .ref ((g 0) 0))] := hl
  have hUX12 : ∀ w ∈ u_ws RX12 TX12 15, w.before [.ref ((g 0) 0)].toArray s = true := fun w h => hts w (List.mem_cons_of_mem _ (List.mem_append_left _ (List.mem_append_right _ h)))
  unfold ff_X12_fingerprint at hf
  refine lv_aload_n hx hb dX12_fingerprint_0 rfl (lv_at hl 0 rfl) ?_
  refine va_get (D := D) (ci := 8) (v := .ref ((g 1) 0)) (C := RX12) (T := TX12) (N := 15) hx hb hUX12 (fun _ h9 => h9) hown hK hP 0 rfl rfl 0 (by decide) (hts (Cond.fieldLink RX12 12 "ReliefBuilder" "panel" "LReliefBuilder$Panel;") (List.mem_of_getElem? (i := 1) rfl)) (fun _ h9 => h9) rfl dX12_fingerprint_1 ?_
  obtain ⟨u_1, he_2, hf⟩ := os_bd hf
  refine mc_callS ⟨hx, hb, hml, hown, hts⟩ (mm_X2_hash l D kA N (g 1) o_this_panel u_1 he_2) (va_cwS 1 hts gX12_fingerprint_X2_hash rfl rfl rfl (by decide +kernel) ⟨Nat.le_of_ble_eq_true rfl, Nat.le_of_ble_eq_true rfl⟩) (wc := (ce_X5 kA (g 1) o_this_panel)) rfl hl.1 (As := [.ref ((g 1) 0)]) (rest := []) rfl (Nat.le_of_ble_eq_true rfl) dX12_fingerprint_4 ⟨Nat.le_of_ble_eq_true rfl, Nat.le_of_ble_eq_true rfl⟩ hK hP hD hS hA [4, 5, 6, 7] [0, 1, 2, 3] [0, 1, 2, 3, 4, 5, 6, 7] rfl (by decide) rfl (by decide) (by decide) rfl (by decide) (wr := (ce_X12 kA g o_this)) (w2 := (ce_X12 kA g o_this ++ (ce_X5 kA (g 1) o_this_panel))) (fun H locs hP hD hS => ?_)
  have hP : va_P D vwCl (ce_X12 kA g o_this ++ (ce_X5 kA (g 1) o_this_panel)) H := hP
  rw [← Option.some.inj hf]
  exact mc_reti hx hb hr hlk hP hK hD hS dX12_fingerprint_7
def ff_X12_brightest (N : Nat) (o_this : os_T) (o_this_panel : os_T) : Option Int32 :=
  ((ff_X2_lightest N o_this_panel).bind fun u_1 => some u_1)
set_option maxHeartbeats 4000000 in
set_option maxRecDepth 100000 in
theorem mm_X12_brightest (l : Launch) (D : va_G) (kA : Nat → ClassId) (N : Nat) (g : Nat → Nat → Nat) (o_this : os_T) (o_this_panel : os_T) (out : Int32) (hf : ff_X12_brightest N o_this o_this_panel = some out) : mc_C l D kA yX12_brightest wsX12_brightest ({ frames := 3, cells := 0, slots := 0, locals := 73 } : Room) [.ref ((g 0) 0)] (ce_X12 kA g o_this ++ (ce_X5 kA (g 1) o_this_panel)) (some (.int out)) (ce_X12 kA g o_this ++ (ce_X5 kA (g 1) o_this_panel)) := by
  refine mc_of (cc := cX12_brightest) (maxL := 1) (ret := (some .int)) (by decide) rfl (Nat.le_of_ble_eq_true rfl) ?_
  intro p e s m below meth c A B hD hP hS ls hl
  obtain ⟨hx, hb, hr, hlk, hml, hown, hts, hK, hA, hnm⟩ := B
  have hown : s.vm.findClass RX12 = some m.cls := hown
  have hl : lv_has ls 1 [(0, .ref ((g 0) 0))] := hl
  have hUX12 : ∀ w ∈ u_ws RX12 TX12 15, w.before [.ref ((g 0) 0)].toArray s = true := fun w h => hts w (List.mem_cons_of_mem _ (List.mem_append_left _ (List.mem_append_right _ h)))
  unfold ff_X12_brightest at hf
  refine lv_aload_n hx hb dX12_brightest_0 rfl (lv_at hl 0 rfl) ?_
  refine va_get (D := D) (ci := 8) (v := .ref ((g 1) 0)) (C := RX12) (T := TX12) (N := 15) hx hb hUX12 (fun _ h9 => h9) hown hK hP 0 rfl rfl 0 (by decide) (hts (Cond.fieldLink RX12 12 "ReliefBuilder" "panel" "LReliefBuilder$Panel;") (List.mem_of_getElem? (i := 1) rfl)) (fun _ h9 => h9) rfl dX12_brightest_1 ?_
  obtain ⟨u_1, he_2, hf⟩ := os_bd hf
  refine mc_callS ⟨hx, hb, hml, hown, hts⟩ (mm_X2_lightest l D kA N (g 1) o_this_panel u_1 he_2) (va_cwS 1 hts gX12_brightest_X2_lightest rfl rfl rfl (by decide +kernel) ⟨Nat.le_of_ble_eq_true rfl, Nat.le_of_ble_eq_true rfl⟩) (wc := (ce_X5 kA (g 1) o_this_panel)) rfl hl.1 (As := [.ref ((g 1) 0)]) (rest := []) rfl (Nat.le_of_ble_eq_true rfl) dX12_brightest_4 ⟨Nat.le_of_ble_eq_true rfl, Nat.le_of_ble_eq_true rfl⟩ hK hP hD hS hA [4, 5, 6, 7] [0, 1, 2, 3] [0, 1, 2, 3, 4, 5, 6, 7] rfl (by decide) rfl (by decide) (by decide) rfl (by decide) (wr := (ce_X12 kA g o_this)) (w2 := (ce_X12 kA g o_this ++ (ce_X5 kA (g 1) o_this_panel))) (fun H locs hP hD hS => ?_)
  have hP : va_P D vwCl (ce_X12 kA g o_this ++ (ce_X5 kA (g 1) o_this_panel)) H := hP
  rw [← Option.some.inj hf]
  exact mc_reti hx hb hr hlk hP hK hD hS dX12_brightest_7
def ff_X12_darkestRow (N : Nat) (o_this : os_T) (o_this_panel : os_T) : Option Int32 :=
  ((ff_X2_dimmestRow N o_this_panel).bind fun u_1 => some u_1)
set_option maxHeartbeats 4000000 in
set_option maxRecDepth 100000 in
theorem mm_X12_darkestRow (l : Launch) (D : va_G) (kA : Nat → ClassId) (N : Nat) (g : Nat → Nat → Nat) (o_this : os_T) (o_this_panel : os_T) (out : Int32) (hf : ff_X12_darkestRow N o_this o_this_panel = some out) : mc_C l D kA yX12_darkestRow wsX12_darkestRow ({ frames := 4, cells := 0, slots := 0, locals := 95 } : Room) [.ref ((g 0) 0)] (ce_X12 kA g o_this ++ (ce_X5 kA (g 1) o_this_panel)) (some (.int out)) (ce_X12 kA g o_this ++ (ce_X5 kA (g 1) o_this_panel)) := by
  refine mc_of (cc := cX12_darkestRow) (maxL := 1) (ret := (some .int)) (by decide) rfl (Nat.le_of_ble_eq_true rfl) ?_
  intro p e s m below meth c A B hD hP hS ls hl
  obtain ⟨hx, hb, hr, hlk, hml, hown, hts, hK, hA, hnm⟩ := B
  have hown : s.vm.findClass RX12 = some m.cls := hown
  have hl : lv_has ls 1 [(0, .ref ((g 0) 0))] := hl
  have hUX12 : ∀ w ∈ u_ws RX12 TX12 15, w.before [.ref ((g 0) 0)].toArray s = true := fun w h => hts w (List.mem_cons_of_mem _ (List.mem_append_left _ (List.mem_append_right _ h)))
  unfold ff_X12_darkestRow at hf
  refine lv_aload_n hx hb dX12_darkestRow_0 rfl (lv_at hl 0 rfl) ?_
  refine va_get (D := D) (ci := 8) (v := .ref ((g 1) 0)) (C := RX12) (T := TX12) (N := 15) hx hb hUX12 (fun _ h9 => h9) hown hK hP 0 rfl rfl 0 (by decide) (hts (Cond.fieldLink RX12 12 "ReliefBuilder" "panel" "LReliefBuilder$Panel;") (List.mem_of_getElem? (i := 1) rfl)) (fun _ h9 => h9) rfl dX12_darkestRow_1 ?_
  obtain ⟨u_1, he_2, hf⟩ := os_bd hf
  refine mc_callS ⟨hx, hb, hml, hown, hts⟩ (mm_X2_dimmestRow l D kA N (g 1) o_this_panel u_1 he_2) (va_cwS 1 hts gX12_darkestRow_X2_dimmestRow rfl rfl rfl (by decide +kernel) ⟨Nat.le_of_ble_eq_true rfl, Nat.le_of_ble_eq_true rfl⟩) (wc := (ce_X5 kA (g 1) o_this_panel)) rfl hl.1 (As := [.ref ((g 1) 0)]) (rest := []) rfl (Nat.le_of_ble_eq_true rfl) dX12_darkestRow_4 ⟨Nat.le_of_ble_eq_true rfl, Nat.le_of_ble_eq_true rfl⟩ hK hP hD hS hA [4, 5, 6, 7] [0, 1, 2, 3] [0, 1, 2, 3, 4, 5, 6, 7] rfl (by decide) rfl (by decide) (by decide) rfl (by decide) (wr := (ce_X12 kA g o_this)) (w2 := (ce_X12 kA g o_this ++ (ce_X5 kA (g 1) o_this_panel))) (fun H locs hP hD hS => ?_)
  have hP : va_P D vwCl (ce_X12 kA g o_this ++ (ce_X5 kA (g 1) o_this_panel)) H := hP
  rw [← Option.some.inj hf]
  exact mc_reti hx hb hr hlk hP hK hD hS dX12_darkestRow_7
def ff_X12_contrast (N : Nat) (o_this : os_T) (o_this_panel : os_T) : Option UInt32 :=
  ((ff_X2_span N o_this_panel).bind fun u_1 => some u_1)
set_option maxHeartbeats 4000000 in
set_option maxRecDepth 100000 in
theorem mm_X12_contrast (l : Launch) (D : va_G) (kA : Nat → ClassId) (N : Nat) (g : Nat → Nat → Nat) (o_this : os_T) (o_this_panel : os_T) (out : UInt32) (hf : ff_X12_contrast N o_this o_this_panel = some out) : mc_C l D kA yX12_contrast wsX12_contrast ({ frames := 3, cells := 0, slots := 0, locals := 73 } : Room) [.ref ((g 0) 0)] (ce_X12 kA g o_this ++ (ce_X5 kA (g 1) o_this_panel)) (some (.float out)) (ce_X12 kA g o_this ++ (ce_X5 kA (g 1) o_this_panel)) := by
  refine mc_of (cc := cX12_contrast) (maxL := 1) (ret := (some .float)) (by decide) rfl (Nat.le_of_ble_eq_true rfl) ?_
  intro p e s m below meth c A B hD hP hS ls hl
  obtain ⟨hx, hb, hr, hlk, hml, hown, hts, hK, hA, hnm⟩ := B
  have hown : s.vm.findClass RX12 = some m.cls := hown
  have hl : lv_has ls 1 [(0, .ref ((g 0) 0))] := hl
  have hUX12 : ∀ w ∈ u_ws RX12 TX12 15, w.before [.ref ((g 0) 0)].toArray s = true := fun w h => hts w (List.mem_cons_of_mem _ (List.mem_append_left _ (List.mem_append_right _ h)))
  unfold ff_X12_contrast at hf
  refine lv_aload_n hx hb dX12_contrast_0 rfl (lv_at hl 0 rfl) ?_
  refine va_get (D := D) (ci := 8) (v := .ref ((g 1) 0)) (C := RX12) (T := TX12) (N := 15) hx hb hUX12 (fun _ h9 => h9) hown hK hP 0 rfl rfl 0 (by decide) (hts (Cond.fieldLink RX12 12 "ReliefBuilder" "panel" "LReliefBuilder$Panel;") (List.mem_of_getElem? (i := 1) rfl)) (fun _ h9 => h9) rfl dX12_contrast_1 ?_
  obtain ⟨u_1, he_2, hf⟩ := os_bd hf
  refine mc_callS ⟨hx, hb, hml, hown, hts⟩ (mm_X2_span l D kA N (g 1) o_this_panel u_1 he_2) (va_cwS 1 hts gX12_contrast_X2_span rfl rfl rfl (by decide +kernel) ⟨Nat.le_of_ble_eq_true rfl, Nat.le_of_ble_eq_true rfl⟩) (wc := (ce_X5 kA (g 1) o_this_panel)) rfl hl.1 (As := [.ref ((g 1) 0)]) (rest := []) rfl (Nat.le_of_ble_eq_true rfl) dX12_contrast_4 ⟨Nat.le_of_ble_eq_true rfl, Nat.le_of_ble_eq_true rfl⟩ hK hP hD hS hA [4, 5, 6, 7] [0, 1, 2, 3] [0, 1, 2, 3, 4, 5, 6, 7] rfl (by decide) rfl (by decide) (by decide) rfl (by decide) (wr := (ce_X12 kA g o_this)) (w2 := (ce_X12 kA g o_this ++ (ce_X5 kA (g 1) o_this_panel))) (fun H locs hP hD hS => ?_)
  have hP : va_P D vwCl (ce_X12 kA g o_this ++ (ce_X5 kA (g 1) o_this_panel)) H := hP
  rw [← Option.some.inj hf]
  exact mc_retf hx hb hr hlk hP hK hD hS dX12_contrast_7
def ff_X12_isThin (N : Nat) (o_this : os_T) (o_this_panel : os_T) (a1 : Int32) (a2 : Int32) : Option (Nat × Int32) :=
  ((ff_X12_checkCell N o_this o_this_panel a1 a2).bind fun u_1 => (if u_1 = 0 then ((ff_X11_isNarrow N o_this_panel a1 a2).bind fun u_3 => (if os_z u_3 then some (0, u_3) else none)) else some (u_1, (0 : Int32))))
set_option maxHeartbeats 4000000 in
set_option maxRecDepth 100000 in
theorem mm_X12_isThin (l : Launch) (hst : l.stackTraces = false) (zz : Nat → Nat → Nat) (D : va_G) (kA : Nat → ClassId) (N : Nat) (g : Nat → Nat → Nat) (o_this : os_T) (o_this_panel : os_T) (a1 : Int32) (a2 : Int32) (out : (Nat × Int32)) (hf : ff_X12_isThin N o_this o_this_panel a1 a2 = some out) : mx_C l zz D kA yX12_isThin wsX12_isThin ({ frames := 7, cells := 1, slots := 6, locals := 112 } : Room) [.ref ((g 0) 0), .int a1, .int a2] (ce_X12 kA g o_this ++ (ce_X5 kA (g 1) o_this_panel)) out.1 (some (.int out.2)) (ce_X12 kA g o_this ++ (ce_X5 kA (g 1) o_this_panel)) := by
  refine mx_of (cc := cX12_isThin) (maxL := 3) (ret := (some .boolean)) (by decide) rfl (Nat.le_of_ble_eq_true rfl) ?_
  intro p e s m below meth c A B hx0 hZ hD hP hS ls hl
  obtain ⟨hx, hb, hr, hlk, hml, hown, hts, hK, hA, hnm⟩ := B
  have hown : s.vm.findClass RX12 = some m.cls := hown
  have hl : lv_has ls 3 [(0, .ref ((g 0) 0)), (1, .int a1), (2, .int a2)] := hl
  have hUX12 : ∀ w ∈ u_ws RX12 TX12 15, w.before [.ref ((g 0) 0), .int a1, .int a2].toArray s = true := fun w h => hts w (List.mem_cons_of_mem _ (List.mem_append_left _ (List.mem_append_left _ (List.mem_append_right _ h))))
  unfold ff_X12_isThin at hf
  refine lv_aload_n hx hb dX12_isThin_0 rfl (lv_at hl 0 rfl) ?_
  refine lv_iload_n hx hb dX12_isThin_1 rfl (lv_at hl 1 rfl) ?_
  refine lv_iload_n hx hb dX12_isThin_2 rfl (lv_at hl 2 rfl) ?_
  obtain ⟨u_1, he_2, hf⟩ := os_bd hf
  refine mx_callV ⟨hx, hb, hml, hown, hts⟩ (mm_X12_checkCell l hst zz D kA N g o_this o_this_panel a1 a2 u_1 he_2) (cwV 2 hts gX12_isThin_X12_checkCell rfl rfl rfl (by decide +kernel) ⟨Nat.le_of_ble_eq_true rfl, Nat.le_of_ble_eq_true rfl⟩) (wc := (ce_X12 kA g o_this ++ (ce_X5 kA (g 1) o_this_panel))) (ci := 8) (q0 := 0) rfl rfl rfl hl.1 (As := [.int a1, .int a2]) (rest := []) rfl (Nat.le_of_ble_eq_true rfl) dX12_isThin_3 ⟨Nat.le_of_ble_eq_true rfl, Nat.le_of_ble_eq_true rfl⟩ hK hP hD hS hA hZ [0, 1, 2, 3, 4, 5, 6, 7] [] [0, 1, 2, 3, 4, 5, 6, 7] rfl (by decide) rfl (by decide) (by decide) rfl (by decide) (wr := []) (w2 := (ce_X12 kA g o_this ++ (ce_X5 kA (g 1) o_this_panel))) (fun hx9 H locs q9 ce hP hD hS h91 h92 h93 => ?_) (fun hx9 H locs hP hD hS => ?_)
  · rw [if_neg hx9] at hf
    rw [← Option.some.inj hf]
    exact mx_out hx9 hx0 hlk hP hK hD hS h91 h92 h93 (Nat.le_of_ble_eq_true rfl) (Nat.le_of_ble_eq_true rfl)
  · rw [if_pos hx9] at hf
    refine W.widen (k := 1) (n := 6) (Nat.le_of_ble_eq_true rfl) (Nat.le_of_ble_eq_true rfl) ?_
    have hP : va_P D vwCl (ce_X12 kA g o_this ++ (ce_X5 kA (g 1) o_this_panel)) H := hP
    refine lv_aload_n hx hb dX12_isThin_6 rfl (lv_at hl 0 rfl) ?_
    refine va_get (D := D) (ci := 8) (v := .ref ((g 1) 0)) (C := RX12) (T := TX12) (N := 15) hx hb hUX12 (fun _ h9 => h9) hown hK hP 0 rfl rfl 0 (by decide) (hts (Cond.fieldLink RX12 12 "ReliefBuilder" "panel" "LReliefBuilder$Panel;") (List.mem_of_getElem? (i := 1) rfl)) (fun _ h9 => h9) rfl dX12_isThin_7 ?_
    refine lv_iload_n hx hb dX12_isThin_10 rfl (lv_at hl 1 rfl) ?_
    refine lv_iload_n hx hb dX12_isThin_11 rfl (lv_at hl 2 rfl) ?_
    obtain ⟨u_3, he_4, hf⟩ := os_bd hf
    refine mc_callS ⟨hx, hb, hml, hown, hts⟩ (mm_X11_isNarrow l D kA N (g 1) o_this_panel a1 a2 u_3 he_4) (va_cwS 3 hts gX12_isThin_X11_isNarrow rfl rfl rfl (by decide +kernel) ⟨Nat.le_of_ble_eq_true rfl, Nat.le_of_ble_eq_true rfl⟩) (wc := (ce_X5 kA (g 1) o_this_panel)) rfl hl.1 (As := [.ref ((g 1) 0), .int a1, .int a2]) (rest := []) rfl (Nat.le_of_ble_eq_true rfl) dX12_isThin_12 ⟨Nat.le_of_ble_eq_true rfl, Nat.le_of_ble_eq_true rfl⟩ hK hP hD hS hA [4, 5, 6, 7] [0, 1, 2, 3] [0, 1, 2, 3, 4, 5, 6, 7] rfl (by decide) rfl (by decide) (by decide) rfl (by decide) (wr := (ce_X12 kA g o_this)) (w2 := (ce_X12 kA g o_this ++ (ce_X5 kA (g 1) o_this_panel))) (fun H locs hP hD hS => ?_)
    have hP : va_P D vwCl (ce_X12 kA g o_this ++ (ce_X5 kA (g 1) o_this_panel)) H := hP
    obtain ⟨hz_5, hf⟩ := os_if hf
    rw [← Option.some.inj hf]
    exact mx_retz (Nat.le_of_ble_eq_true rfl) (Nat.le_of_ble_eq_true rfl) hx hb hr (os_z_n hz_5) hlk hP hK hD hS dX12_isThin_15
def ff_X12_thinCells (N : Nat) (o_this : os_T) (o_this_panel : os_T) (o_this_walls : os_T) : Option (Int32 × os_T) :=
  ((ff_X11_mark N o_this_walls o_this_panel).bind fun u_1 => some (u_1.1, u_1.2))
set_option maxHeartbeats 4000000 in
set_option maxRecDepth 100000 in
theorem mm_X12_thinCells (l : Launch) (D : va_G) (kA : Nat → ClassId) (N : Nat) (g : Nat → Nat → Nat) (o_this : os_T) (o_this_panel : os_T) (o_this_walls : os_T) (out : (Int32 × os_T)) (hf : ff_X12_thinCells N o_this o_this_panel o_this_walls = some out) : mc_C l D kA yX12_thinCells wsX12_thinCells ({ frames := 4, cells := 0, slots := 0, locals := 97 } : Room) [.ref ((g 0) 0)] (ce_X12 kA g o_this ++ (ce_X5 kA (g 1) o_this_panel ++ (ce_X11 kA (g 13) o_this_walls))) (some (.int out.1)) (ce_X12 kA g o_this ++ (ce_X5 kA (g 1) o_this_panel ++ (ce_X11 kA (g 13) out.2))) := by
  refine mc_of (cc := cX12_thinCells) (maxL := 1) (ret := (some .int)) (by decide) rfl (Nat.le_of_ble_eq_true rfl) ?_
  intro p e s m below meth c A B hD hP hS ls hl
  obtain ⟨hx, hb, hr, hlk, hml, hown, hts, hK, hA, hnm⟩ := B
  have hown : s.vm.findClass RX12 = some m.cls := hown
  have hl : lv_has ls 1 [(0, .ref ((g 0) 0))] := hl
  have hUX12 : ∀ w ∈ u_ws RX12 TX12 15, w.before [.ref ((g 0) 0)].toArray s = true := fun w h => hts w (List.mem_cons_of_mem _ (List.mem_append_left _ (List.mem_append_left _ (List.mem_append_right _ h))))
  unfold ff_X12_thinCells at hf
  refine lv_aload_n hx hb dX12_thinCells_0 rfl (lv_at hl 0 rfl) ?_
  refine va_get (D := D) (ci := 8) (v := .ref ((g 13) 0)) (C := RX12) (T := TX12) (N := 15) hx hb hUX12 (fun _ h9 => h9) hown hK hP 0 rfl rfl 5 (by decide) (hts (Cond.fieldLink RX12 37 "ReliefBuilder" "walls" "LReliefBuilder$Walls;") (List.mem_of_getElem? (i := 1) rfl)) (fun _ h9 => h9) rfl dX12_thinCells_1 ?_
  refine lv_aload_n hx hb dX12_thinCells_4 rfl (lv_at hl 0 rfl) ?_
  refine va_get (D := D) (ci := 8) (v := .ref ((g 1) 0)) (C := RX12) (T := TX12) (N := 15) hx hb hUX12 (fun _ h9 => h9) hown hK hP 0 rfl rfl 0 (by decide) (hts (Cond.fieldLink RX12 12 "ReliefBuilder" "panel" "LReliefBuilder$Panel;") (List.mem_of_getElem? (i := 2) rfl)) (fun _ h9 => h9) rfl dX12_thinCells_5 ?_
  obtain ⟨u_1, he_2, hf⟩ := os_bd hf
  refine mc_callV ⟨hx, hb, hml, hown, hts⟩ (mm_X11_mark l D kA N (g 13) (g 1) o_this_walls o_this_panel u_1 he_2) (cwV 1 hts gX12_thinCells_X11_mark rfl rfl rfl (by decide +kernel) ⟨Nat.le_of_ble_eq_true rfl, Nat.le_of_ble_eq_true rfl⟩) (wc := (ce_X11 kA (g 13) o_this_walls ++ (ce_X5 kA (g 1) o_this_panel))) (ci := 7) (q0 := 0) rfl rfl rfl hl.1 (As := [.ref ((g 1) 0)]) (rest := []) rfl (Nat.le_of_ble_eq_true rfl) dX12_thinCells_8 ⟨Nat.le_of_ble_eq_true rfl, Nat.le_of_ble_eq_true rfl⟩ hK hP hD hS hA [8, 9, 4, 5, 6, 7] [0, 1, 2, 3] [0, 1, 2, 3, 6, 7, 8, 9, 4, 5] rfl (by decide) rfl (by decide) (by decide) rfl (by decide) (wr := (ce_X12 kA g o_this)) (w2 := (ce_X12 kA g o_this ++ (ce_X5 kA (g 1) o_this_panel ++ (ce_X11 kA (g 13) u_1.2)))) (fun H locs hP hD hS => ?_)
  have hP : va_P D vwCl (ce_X12 kA g o_this ++ (ce_X5 kA (g 1) o_this_panel ++ (ce_X11 kA (g 13) u_1.2))) H := hP
  rw [← Option.some.inj hf]
  exact mc_reti hx hb hr hlk hP hK hD hS dX12_thinCells_11
def ff_X12_repair (N : Nat) (o_this : os_T) (o_this_panel : os_T) (o_this_history : os_T) (o_this_history_panels0 : os_T) (o_this_history_panels1 : os_T) (o_this_history_panels2 : os_T) (o_this_history_panels3 : os_T) (o_this_history_panels4 : os_T) (o_this_history_panels5 : os_T) (o_this_history_panels6 : os_T) (o_this_walls : os_T) : Option (Int32 × os_T × os_T × os_T × os_T × os_T × os_T × os_T × os_T × os_T × os_T) :=
  ((ff_X3_open N o_this_history o_this_history_panels0 o_this_history_panels1 o_this_history_panels2 o_this_history_panels3 o_this_history_panels4 o_this_history_panels5 o_this_history_panels6 o_this_panel).bind fun u_1 => ((ff_X11_takeDown N o_this_walls o_this_panel).bind fun u_3 => ((ff_X3_close N o_this_history u_1.1 u_1.2.1 u_1.2.2.1 u_1.2.2.2.1 u_1.2.2.2.2.1 u_1.2.2.2.2.2.1 u_1.2.2.2.2.2.2 u_3.2.2).bind fun u_5 => some (u_3.1, u_3.2.2, u_5, u_1.1, u_1.2.1, u_1.2.2.1, u_1.2.2.2.1, u_1.2.2.2.2.1, u_1.2.2.2.2.2.1, u_1.2.2.2.2.2.2, u_3.2.1))))
set_option maxHeartbeats 4000000 in
set_option maxRecDepth 100000 in
theorem mm_X12_repair (l : Launch) (D : va_G) (kA : Nat → ClassId) (N : Nat) (g : Nat → Nat → Nat) (o_this : os_T) (o_this_panel : os_T) (o_this_history : os_T) (o_this_history_panels0 : os_T) (o_this_history_panels1 : os_T) (o_this_history_panels2 : os_T) (o_this_history_panels3 : os_T) (o_this_history_panels4 : os_T) (o_this_history_panels5 : os_T) (o_this_history_panels6 : os_T) (o_this_walls : os_T) (out : (Int32 × os_T × os_T × os_T × os_T × os_T × os_T × os_T × os_T × os_T × os_T)) (hf : ff_X12_repair N o_this o_this_panel o_this_history o_this_history_panels0 o_this_history_panels1 o_this_history_panels2 o_this_history_panels3 o_this_history_panels4 o_this_history_panels5 o_this_history_panels6 o_this_walls = some out) : mc_C l D kA yX12_repair wsX12_repair ({ frames := 5, cells := 0, slots := 0, locals := 123 } : Room) [.ref ((g 0) 0)] (ce_X12 kA g o_this ++ (ce_X5 kA (g 1) o_this_panel ++ (ce_X3 kA (g 5) (fun k => g (6 + k)) o_this_history ++ (ce_X5 kA (g 6) o_this_history_panels0 ++ (ce_X5 kA (g 7) o_this_history_panels1 ++ (ce_X5 kA (g 8) o_this_history_panels2 ++ (ce_X5 kA (g 9) o_this_history_panels3 ++ (ce_X5 kA (g 10) o_this_history_panels4 ++ (ce_X5 kA (g 11) o_this_history_panels5 ++ (ce_X5 kA (g 12) o_this_history_panels6 ++ (ce_X11 kA (g 13) o_this_walls))))))))))) (some (.int out.1)) (ce_X12 kA g o_this ++ (ce_X5 kA (g 1) out.2.1 ++ (ce_X3 kA (g 5) (fun k => g (6 + k)) out.2.2.1 ++ (ce_X5 kA (g 6) out.2.2.2.1 ++ (ce_X5 kA (g 7) out.2.2.2.2.1 ++ (ce_X5 kA (g 8) out.2.2.2.2.2.1 ++ (ce_X5 kA (g 9) out.2.2.2.2.2.2.1 ++ (ce_X5 kA (g 10) out.2.2.2.2.2.2.2.1 ++ (ce_X5 kA (g 11) out.2.2.2.2.2.2.2.2.1 ++ (ce_X5 kA (g 12) out.2.2.2.2.2.2.2.2.2.1 ++ (ce_X11 kA (g 13) out.2.2.2.2.2.2.2.2.2.2))))))))))) := by
  refine mc_of (cc := cX12_repair) (maxL := 2) (ret := (some .int)) (by decide) rfl (Nat.le_of_ble_eq_true rfl) ?_
  intro p e s m below meth c A B hD hP hS ls hl
  obtain ⟨hx, hb, hr, hlk, hml, hown, hts, hK, hA, hnm⟩ := B
  have hown : s.vm.findClass RX12 = some m.cls := hown
  have hl : lv_has ls 2 [(0, .ref ((g 0) 0))] := hl
  have hUX12 : ∀ w ∈ u_ws RX12 TX12 15, w.before [.ref ((g 0) 0)].toArray s = true := fun w h => hts w (List.mem_cons_of_mem _ (List.mem_append_left _ (List.mem_append_left _ (List.mem_append_left _ (List.mem_append_right _ h)))))
  unfold ff_X12_repair at hf
  refine lv_aload_n hx hb dX12_repair_0 rfl (lv_at hl 0 rfl) ?_
  refine va_get (D := D) (ci := 8) (v := .ref ((g 5) 0)) (C := RX12) (T := TX12) (N := 15) hx hb hUX12 (fun _ h9 => h9) hown hK hP 0 rfl rfl 4 (by decide) (hts (Cond.fieldLink RX12 30 "ReliefBuilder" "history" "LReliefBuilder$History;") (List.mem_of_getElem? (i := 1) rfl)) (fun _ h9 => h9) rfl dX12_repair_1 ?_
  refine lv_aload_n hx hb dX12_repair_4 rfl (lv_at hl 0 rfl) ?_
  refine va_get (D := D) (ci := 8) (v := .ref ((g 1) 0)) (C := RX12) (T := TX12) (N := 15) hx hb hUX12 (fun _ h9 => h9) hown hK hP 0 rfl rfl 0 (by decide) (hts (Cond.fieldLink RX12 12 "ReliefBuilder" "panel" "LReliefBuilder$Panel;") (List.mem_of_getElem? (i := 2) rfl)) (fun _ h9 => h9) rfl dX12_repair_5 ?_
  obtain ⟨u_1, he_2, hf⟩ := os_bd hf
  refine mc_callV ⟨hx, hb, hml, hown, hts⟩ (mm_X3_open l D kA N (g 5) (fun k => g (6 + k)) (g 1) o_this_history o_this_history_panels0 o_this_history_panels1 o_this_history_panels2 o_this_history_panels3 o_this_history_panels4 o_this_history_panels5 o_this_history_panels6 o_this_panel u_1 he_2) (cwV 1 hts gX12_repair_X3_open rfl rfl rfl (by decide +kernel) ⟨Nat.le_of_ble_eq_true rfl, Nat.le_of_ble_eq_true rfl⟩) (wc := (ce_X3 kA (g 5) (fun k => g (6 + k)) o_this_history ++ (ce_X5 kA (g 6) o_this_history_panels0 ++ (ce_X5 kA (g 7) o_this_history_panels1 ++ (ce_X5 kA (g 8) o_this_history_panels2 ++ (ce_X5 kA (g 9) o_this_history_panels3 ++ (ce_X5 kA (g 10) o_this_history_panels4 ++ (ce_X5 kA (g 11) o_this_history_panels5 ++ (ce_X5 kA (g 12) o_this_history_panels6 ++ (ce_X5 kA (g 1) o_this_panel)))))))))) (ci := 0) (q0 := 0) rfl rfl rfl hl.1 (As := [.ref ((g 1) 0)]) (rest := []) rfl (Nat.le_of_ble_eq_true rfl) dX12_repair_8 ⟨Nat.le_of_ble_eq_true rfl, Nat.le_of_ble_eq_true rfl⟩ hK hP hD hS hA [8, 9, 10, 11, 12, 13, 14, 15, 16, 17, 18, 19, 20, 21, 22, 23, 24, 25, 26, 27, 28, 29, 30, 31, 32, 33, 34, 35, 36, 37, 4, 5, 6, 7] [0, 1, 2, 3, 38, 39] [0, 1, 2, 3, 36, 37, 38, 39, 6, 7, 8, 9, 10, 11, 12, 13, 14, 15, 16, 17, 18, 19, 20, 21, 22, 23, 24, 25, 26, 27, 28, 29, 30, 31, 32, 33, 34, 35, 4, 5] rfl (by decide) rfl (by decide) (by decide) rfl (by decide) (wr := (ce_X12 kA g o_this ++ (ce_X11 kA (g 13) o_this_walls))) (w2 := (ce_X12 kA g o_this ++ (ce_X5 kA (g 1) o_this_panel ++ (ce_X3 kA (g 5) (fun k => g (6 + k)) o_this_history ++ (ce_X5 kA (g 6) u_1.1 ++ (ce_X5 kA (g 7) u_1.2.1 ++ (ce_X5 kA (g 8) u_1.2.2.1 ++ (ce_X5 kA (g 9) u_1.2.2.2.1 ++ (ce_X5 kA (g 10) u_1.2.2.2.2.1 ++ (ce_X5 kA (g 11) u_1.2.2.2.2.2.1 ++ (ce_X5 kA (g 12) u_1.2.2.2.2.2.2 ++ (ce_X11 kA (g 13) o_this_walls)))))))))))) (fun H locs hP hD hS => ?_)
  have hP : va_P D vwCl (ce_X12 kA g o_this ++ (ce_X5 kA (g 1) o_this_panel ++ (ce_X3 kA (g 5) (fun k => g (6 + k)) o_this_history ++ (ce_X5 kA (g 6) u_1.1 ++ (ce_X5 kA (g 7) u_1.2.1 ++ (ce_X5 kA (g 8) u_1.2.2.1 ++ (ce_X5 kA (g 9) u_1.2.2.2.1 ++ (ce_X5 kA (g 10) u_1.2.2.2.2.1 ++ (ce_X5 kA (g 11) u_1.2.2.2.2.2.1 ++ (ce_X5 kA (g 12) u_1.2.2.2.2.2.2 ++ (ce_X11 kA (g 13) o_this_walls))))))))))) H := hP
  refine lv_aload_n hx hb dX12_repair_11 rfl (lv_at hl 0 rfl) ?_
  refine va_get (D := D) (ci := 8) (v := .ref ((g 13) 0)) (C := RX12) (T := TX12) (N := 15) hx hb hUX12 (fun _ h9 => h9) hown hK hP 0 rfl rfl 5 (by decide) (hts (Cond.fieldLink RX12 37 "ReliefBuilder" "walls" "LReliefBuilder$Walls;") (List.mem_of_getElem? (i := 3) rfl)) (fun _ h9 => h9) rfl dX12_repair_12 ?_
  refine lv_aload_n hx hb dX12_repair_15 rfl (lv_at hl 0 rfl) ?_
  refine va_get (D := D) (ci := 8) (v := .ref ((g 1) 0)) (C := RX12) (T := TX12) (N := 15) hx hb hUX12 (fun _ h9 => h9) hown hK hP 0 rfl rfl 0 (by decide) (hts (Cond.fieldLink RX12 12 "ReliefBuilder" "panel" "LReliefBuilder$Panel;") (List.mem_of_getElem? (i := 2) rfl)) (fun _ h9 => h9) rfl dX12_repair_16 ?_
  obtain ⟨u_3, he_4, hf⟩ := os_bd hf
  refine mc_callV ⟨hx, hb, hml, hown, hts⟩ (mm_X11_takeDown l D kA N (g 13) (g 1) o_this_walls o_this_panel u_3 he_4) (cwV 1 hts gX12_repair_X11_takeDown rfl rfl rfl (by decide +kernel) ⟨Nat.le_of_ble_eq_true rfl, Nat.le_of_ble_eq_true rfl⟩) (wc := (ce_X11 kA (g 13) o_this_walls ++ (ce_X5 kA (g 1) o_this_panel))) (ci := 7) (q0 := 0) rfl rfl rfl hl.1 (As := [.ref ((g 1) 0)]) (rest := []) rfl (Nat.le_of_ble_eq_true rfl) dX12_repair_19 ⟨Nat.le_of_ble_eq_true rfl, Nat.le_of_ble_eq_true rfl⟩ hK hP hD hS hA [38, 39, 4, 5, 6, 7] [0, 1, 2, 3, 8, 9, 10, 11, 12, 13, 14, 15, 16, 17, 18, 19, 20, 21, 22, 23, 24, 25, 26, 27, 28, 29, 30, 31, 32, 33, 34, 35, 36, 37] [0, 1, 2, 3, 36, 37, 38, 39, 4, 5, 6, 7, 8, 9, 10, 11, 12, 13, 14, 15, 16, 17, 18, 19, 20, 21, 22, 23, 24, 25, 26, 27, 28, 29, 30, 31, 32, 33, 34, 35] rfl (by decide) rfl (by decide) (by decide) rfl (by decide) (wr := (ce_X12 kA g o_this ++ (ce_X3 kA (g 5) (fun k => g (6 + k)) o_this_history ++ (ce_X5 kA (g 6) u_1.1 ++ (ce_X5 kA (g 7) u_1.2.1 ++ (ce_X5 kA (g 8) u_1.2.2.1 ++ (ce_X5 kA (g 9) u_1.2.2.2.1 ++ (ce_X5 kA (g 10) u_1.2.2.2.2.1 ++ (ce_X5 kA (g 11) u_1.2.2.2.2.2.1 ++ (ce_X5 kA (g 12) u_1.2.2.2.2.2.2)))))))))) (w2 := (ce_X12 kA g o_this ++ (ce_X5 kA (g 1) u_3.2.2 ++ (ce_X3 kA (g 5) (fun k => g (6 + k)) o_this_history ++ (ce_X5 kA (g 6) u_1.1 ++ (ce_X5 kA (g 7) u_1.2.1 ++ (ce_X5 kA (g 8) u_1.2.2.1 ++ (ce_X5 kA (g 9) u_1.2.2.2.1 ++ (ce_X5 kA (g 10) u_1.2.2.2.2.1 ++ (ce_X5 kA (g 11) u_1.2.2.2.2.2.1 ++ (ce_X5 kA (g 12) u_1.2.2.2.2.2.2 ++ (ce_X11 kA (g 13) u_3.2.1)))))))))))) (fun H locs hP hD hS => ?_)
  have hP : va_P D vwCl (ce_X12 kA g o_this ++ (ce_X5 kA (g 1) u_3.2.2 ++ (ce_X3 kA (g 5) (fun k => g (6 + k)) o_this_history ++ (ce_X5 kA (g 6) u_1.1 ++ (ce_X5 kA (g 7) u_1.2.1 ++ (ce_X5 kA (g 8) u_1.2.2.1 ++ (ce_X5 kA (g 9) u_1.2.2.2.1 ++ (ce_X5 kA (g 10) u_1.2.2.2.2.1 ++ (ce_X5 kA (g 11) u_1.2.2.2.2.2.1 ++ (ce_X5 kA (g 12) u_1.2.2.2.2.2.2 ++ (ce_X11 kA (g 13) u_3.2.1))))))))))) H := hP
  refine lv_istore_n (lv' := [(1, .int u_3.1), (0, .ref ((g 0) 0))]) hx hb dX12_repair_22 rfl hl (by decide) rfl (fun ls hl => ?_)
  refine lv_aload_n hx hb dX12_repair_23 rfl (lv_at hl 1 rfl) ?_
  refine va_get (D := D) (ci := 8) (v := .ref ((g 5) 0)) (C := RX12) (T := TX12) (N := 15) hx hb hUX12 (fun _ h9 => h9) hown hK hP 0 rfl rfl 4 (by decide) (hts (Cond.fieldLink RX12 30 "ReliefBuilder" "history" "LReliefBuilder$History;") (List.mem_of_getElem? (i := 1) rfl)) (fun _ h9 => h9) rfl dX12_repair_24 ?_
  refine lv_aload_n hx hb dX12_repair_27 rfl (lv_at hl 1 rfl) ?_
  refine va_get (D := D) (ci := 8) (v := .ref ((g 1) 0)) (C := RX12) (T := TX12) (N := 15) hx hb hUX12 (fun _ h9 => h9) hown hK hP 0 rfl rfl 0 (by decide) (hts (Cond.fieldLink RX12 12 "ReliefBuilder" "panel" "LReliefBuilder$Panel;") (List.mem_of_getElem? (i := 2) rfl)) (fun _ h9 => h9) rfl dX12_repair_28 ?_
  obtain ⟨u_5, he_6, hf⟩ := os_bd hf
  refine mc_callV ⟨hx, hb, hml, hown, hts⟩ (mm_X3_close l D kA N (g 5) (fun k => g (6 + k)) (g 1) o_this_history u_1.1 u_1.2.1 u_1.2.2.1 u_1.2.2.2.1 u_1.2.2.2.2.1 u_1.2.2.2.2.2.1 u_1.2.2.2.2.2.2 u_3.2.2 u_5 he_6) (cwV 1 hts gX12_repair_X3_close rfl rfl rfl (by decide +kernel) ⟨Nat.le_of_ble_eq_true rfl, Nat.le_of_ble_eq_true rfl⟩) (wc := (ce_X3 kA (g 5) (fun k => g (6 + k)) o_this_history ++ (ce_X5 kA (g 6) u_1.1 ++ (ce_X5 kA (g 7) u_1.2.1 ++ (ce_X5 kA (g 8) u_1.2.2.1 ++ (ce_X5 kA (g 9) u_1.2.2.2.1 ++ (ce_X5 kA (g 10) u_1.2.2.2.2.1 ++ (ce_X5 kA (g 11) u_1.2.2.2.2.2.1 ++ (ce_X5 kA (g 12) u_1.2.2.2.2.2.2 ++ (ce_X5 kA (g 1) u_3.2.2)))))))))) (ci := 0) (q0 := 0) rfl rfl rfl hl.1 (As := [.ref ((g 1) 0)]) (rest := []) rfl (Nat.le_of_ble_eq_true rfl) dX12_repair_31 ⟨Nat.le_of_ble_eq_true rfl, Nat.le_of_ble_eq_true rfl⟩ hK hP hD hS hA [8, 9, 10, 11, 12, 13, 14, 15, 16, 17, 18, 19, 20, 21, 22, 23, 24, 25, 26, 27, 28, 29, 30, 31, 32, 33, 34, 35, 36, 37, 4, 5, 6, 7] [0, 1, 2, 3, 38, 39] [0, 1, 2, 3, 36, 37, 38, 39, 6, 7, 8, 9, 10, 11, 12, 13, 14, 15, 16, 17, 18, 19, 20, 21, 22, 23, 24, 25, 26, 27, 28, 29, 30, 31, 32, 33, 34, 35, 4, 5] rfl (by decide) rfl (by decide) (by decide) rfl (by decide) (wr := (ce_X12 kA g o_this ++ (ce_X11 kA (g 13) u_3.2.1))) (w2 := (ce_X12 kA g o_this ++ (ce_X5 kA (g 1) u_3.2.2 ++ (ce_X3 kA (g 5) (fun k => g (6 + k)) u_5 ++ (ce_X5 kA (g 6) u_1.1 ++ (ce_X5 kA (g 7) u_1.2.1 ++ (ce_X5 kA (g 8) u_1.2.2.1 ++ (ce_X5 kA (g 9) u_1.2.2.2.1 ++ (ce_X5 kA (g 10) u_1.2.2.2.2.1 ++ (ce_X5 kA (g 11) u_1.2.2.2.2.2.1 ++ (ce_X5 kA (g 12) u_1.2.2.2.2.2.2 ++ (ce_X11 kA (g 13) u_3.2.1)))))))))))) (fun H locs hP hD hS => ?_)
  have hP : va_P D vwCl (ce_X12 kA g o_this ++ (ce_X5 kA (g 1) u_3.2.2 ++ (ce_X3 kA (g 5) (fun k => g (6 + k)) u_5 ++ (ce_X5 kA (g 6) u_1.1 ++ (ce_X5 kA (g 7) u_1.2.1 ++ (ce_X5 kA (g 8) u_1.2.2.1 ++ (ce_X5 kA (g 9) u_1.2.2.2.1 ++ (ce_X5 kA (g 10) u_1.2.2.2.2.1 ++ (ce_X5 kA (g 11) u_1.2.2.2.2.2.1 ++ (ce_X5 kA (g 12) u_1.2.2.2.2.2.2 ++ (ce_X11 kA (g 13) u_3.2.1))))))))))) H := hP
  refine lv_iload_n hx hb dX12_repair_34 rfl (lv_at hl 0 rfl) ?_
  rw [← Option.some.inj hf]
  exact mc_reti hx hb hr hlk hP hK hD hS dX12_repair_35
def ff_X12_smooth (N : Nat) (o_this : os_T) (o_this_panel : os_T) (o_this_spare : os_T) (o_this_history : os_T) (o_this_history_panels0 : os_T) (o_this_history_panels1 : os_T) (o_this_history_panels2 : os_T) (o_this_history_panels3 : os_T) (o_this_history_panels4 : os_T) (o_this_history_panels5 : os_T) (o_this_history_panels6 : os_T) (a1 : Int32) : Option (Nat × Int32 × os_T × os_T × os_T × os_T × os_T × os_T × os_T × os_T × os_T × os_T) :=
  ((ff_X11_isLimit N a1).bind fun u_1 => (if u_1 = 0 then some (2, (0 : Int32), o_this_panel, o_this_spare, o_this_history, o_this_history_panels0, o_this_history_panels1, o_this_history_panels2, o_this_history_panels3, o_this_history_panels4, o_this_history_panels5, o_this_history_panels6) else ((ff_X3_open N o_this_history o_this_history_panels0 o_this_history_panels1 o_this_history_panels2 o_this_history_panels3 o_this_history_panels4 o_this_history_panels5 o_this_history_panels6 o_this_panel).bind fun u_4 => ((ff_X11_flatten N o_this_panel o_this_spare a1).bind fun u_6 => ((ff_X3_close N o_this_history u_4.1 u_4.2.1 u_4.2.2.1 u_4.2.2.2.1 u_4.2.2.2.2.1 u_4.2.2.2.2.2.1 u_4.2.2.2.2.2.2 u_6.2.1).bind fun u_8 => some (0, u_6.1, u_6.2.1, u_6.2.2, u_8, u_4.1, u_4.2.1, u_4.2.2.1, u_4.2.2.2.1, u_4.2.2.2.2.1, u_4.2.2.2.2.2.1, u_4.2.2.2.2.2.2))))))
set_option maxHeartbeats 4000000 in
set_option maxRecDepth 100000 in
theorem mm_X12_smooth (l : Launch) (hst : l.stackTraces = false) (zz : Nat → Nat → Nat) (D : va_G) (kA : Nat → ClassId) (N : Nat) (g : Nat → Nat → Nat) (o_this : os_T) (o_this_panel : os_T) (o_this_spare : os_T) (o_this_history : os_T) (o_this_history_panels0 : os_T) (o_this_history_panels1 : os_T) (o_this_history_panels2 : os_T) (o_this_history_panels3 : os_T) (o_this_history_panels4 : os_T) (o_this_history_panels5 : os_T) (o_this_history_panels6 : os_T) (a1 : Int32) (out : (Nat × Int32 × os_T × os_T × os_T × os_T × os_T × os_T × os_T × os_T × os_T × os_T)) (hf : ff_X12_smooth N o_this o_this_panel o_this_spare o_this_history o_this_history_panels0 o_this_history_panels1 o_this_history_panels2 o_this_history_panels3 o_this_history_panels4 o_this_history_panels5 o_this_history_panels6 a1 = some out) : mx_C l zz D kA yX12_smooth wsX12_smooth ({ frames := 6, cells := 1, slots := 6, locals := 126 } : Room) [.ref ((g 0) 0), .int a1] (ce_X12 kA g o_this ++ (ce_X5 kA (g 1) o_this_panel ++ (ce_X5 kA (g 2) o_this_spare ++ (ce_X3 kA (g 5) (fun k => g (6 + k)) o_this_history ++ (ce_X5 kA (g 6) o_this_history_panels0 ++ (ce_X5 kA (g 7) o_this_history_panels1 ++ (ce_X5 kA (g 8) o_this_history_panels2 ++ (ce_X5 kA (g 9) o_this_history_panels3 ++ (ce_X5 kA (g 10) o_this_history_panels4 ++ (ce_X5 kA (g 11) o_this_history_panels5 ++ (ce_X5 kA (g 12) o_this_history_panels6))))))))))) out.1 (some (.int out.2.1)) (ce_X12 kA g o_this ++ (ce_X5 kA (g 1) out.2.2.1 ++ (ce_X5 kA (g 2) out.2.2.2.1 ++ (ce_X3 kA (g 5) (fun k => g (6 + k)) out.2.2.2.2.1 ++ (ce_X5 kA (g 6) out.2.2.2.2.2.1 ++ (ce_X5 kA (g 7) out.2.2.2.2.2.2.1 ++ (ce_X5 kA (g 8) out.2.2.2.2.2.2.2.1 ++ (ce_X5 kA (g 9) out.2.2.2.2.2.2.2.2.1 ++ (ce_X5 kA (g 10) out.2.2.2.2.2.2.2.2.2.1 ++ (ce_X5 kA (g 11) out.2.2.2.2.2.2.2.2.2.2.1 ++ (ce_X5 kA (g 12) out.2.2.2.2.2.2.2.2.2.2.2))))))))))) := by
  refine mx_of (cc := cX12_smooth) (maxL := 3) (ret := (some .int)) (by decide) rfl (Nat.le_of_ble_eq_true rfl) ?_
  intro p e s m below meth c A B hx0 hZ hD hP hS ls hl
  obtain ⟨hx, hb, hr, hlk, hml, hown, hts, hK, hA, hnm⟩ := B
  have hown : s.vm.findClass RX12 = some m.cls := hown
  have hl : lv_has ls 3 [(0, .ref ((g 0) 0)), (1, .int a1)] := hl
  have hUX12 : ∀ w ∈ u_ws RX12 TX12 15, w.before [.ref ((g 0) 0), .int a1].toArray s = true := fun w h => hts w (List.mem_cons_of_mem _ (List.mem_append_left _ (List.mem_append_left _ (List.mem_append_left _ (List.mem_append_right _ h)))))
  unfold ff_X12_smooth at hf
  refine lv_iload_n hx hb dX12_smooth_0 rfl (lv_at hl 1 rfl) ?_
  obtain ⟨u_1, he_2, hf⟩ := os_bd hf
  refine mc_callS ⟨hx, hb, hml, hown, hts⟩ (mm_X11_isLimit l D kA N a1 u_1 he_2) (va_cwS 1 hts gX12_smooth_X11_isLimit rfl rfl rfl (by decide +kernel) ⟨Nat.le_of_ble_eq_true rfl, Nat.le_of_ble_eq_true rfl⟩) (wc := []) rfl hl.1 (As := [.int a1]) (rest := []) rfl (Nat.le_of_ble_eq_true rfl) dX12_smooth_1 ⟨Nat.le_of_ble_eq_true rfl, Nat.le_of_ble_eq_true rfl⟩ hK hP hD hS hA [] [0, 1, 2, 3, 4, 5, 6, 7, 8, 9, 10, 11, 12, 13, 14, 15, 16, 17, 18, 19, 20, 21, 22, 23, 24, 25, 26, 27, 28, 29, 30, 31, 32, 33, 34, 35, 36, 37, 38, 39, 40, 41] [0, 1, 2, 3, 4, 5, 6, 7, 8, 9, 10, 11, 12, 13, 14, 15, 16, 17, 18, 19, 20, 21, 22, 23, 24, 25, 26, 27, 28, 29, 30, 31, 32, 33, 34, 35, 36, 37, 38, 39, 40, 41] rfl (by decide) rfl (by decide) (by decide) rfl (by decide) (wr := (ce_X12 kA g o_this ++ (ce_X5 kA (g 1) o_this_panel ++ (ce_X5 kA (g 2) o_this_spare ++ (ce_X3 kA (g 5) (fun k => g (6 + k)) o_this_history ++ (ce_X5 kA (g 6) o_this_history_panels0 ++ (ce_X5 kA (g 7) o_this_history_panels1 ++ (ce_X5 kA (g 8) o_this_history_panels2 ++ (ce_X5 kA (g 9) o_this_history_panels3 ++ (ce_X5 kA (g 10) o_this_history_panels4 ++ (ce_X5 kA (g 11) o_this_history_panels5 ++ (ce_X5 kA (g 12) o_this_history_panels6)))))))))))) (w2 := (ce_X12 kA g o_this ++ (ce_X5 kA (g 1) o_this_panel ++ (ce_X5 kA (g 2) o_this_spare ++ (ce_X3 kA (g 5) (fun k => g (6 + k)) o_this_history ++ (ce_X5 kA (g 6) o_this_history_panels0 ++ (ce_X5 kA (g 7) o_this_history_panels1 ++ (ce_X5 kA (g 8) o_this_history_panels2 ++ (ce_X5 kA (g 9) o_this_history_panels3 ++ (ce_X5 kA (g 10) o_this_history_panels4 ++ (ce_X5 kA (g 11) o_this_history_panels5 ++ (ce_X5 kA (g 12) o_this_history_panels6)))))))))))) (fun H locs hP hD hS => ?_)
  have hP : va_P D vwCl (ce_X12 kA g o_this ++ (ce_X5 kA (g 1) o_this_panel ++ (ce_X5 kA (g 2) o_this_spare ++ (ce_X3 kA (g 5) (fun k => g (6 + k)) o_this_history ++ (ce_X5 kA (g 6) o_this_history_panels0 ++ (ce_X5 kA (g 7) o_this_history_panels1 ++ (ce_X5 kA (g 8) o_this_history_panels2 ++ (ce_X5 kA (g 9) o_this_history_panels3 ++ (ce_X5 kA (g 10) o_this_history_panels4 ++ (ce_X5 kA (g 11) o_this_history_panels5 ++ (ce_X5 kA (g 12) o_this_history_panels6))))))))))) H := hP
  refine lv_if_ne (tgt := 15) hx hb dX12_smooth_4 (by decide) (fun hc_3 => ?_) (fun hc_3 => ?_)
  · rw [if_neg hc_3] at hf
    refine lv_aload_n hx hb dX12_smooth_15 rfl (lv_at hl 0 rfl) ?_
    refine va_get (D := D) (ci := 8) (v := .ref ((g 5) 0)) (C := RX12) (T := TX12) (N := 15) hx hb hUX12 (fun _ h9 => h9) hown hK hP 0 rfl rfl 4 (by decide) (hts (Cond.fieldLink RX12 30 "ReliefBuilder" "history" "LReliefBuilder$History;") (List.mem_of_getElem? (i := 3) rfl)) (fun _ h9 => h9) rfl dX12_smooth_16 ?_
    refine lv_aload_n hx hb dX12_smooth_19 rfl (lv_at hl 0 rfl) ?_
    refine va_get (D := D) (ci := 8) (v := .ref ((g 1) 0)) (C := RX12) (T := TX12) (N := 15) hx hb hUX12 (fun _ h9 => h9) hown hK hP 0 rfl rfl 0 (by decide) (hts (Cond.fieldLink RX12 12 "ReliefBuilder" "panel" "LReliefBuilder$Panel;") (List.mem_of_getElem? (i := 4) rfl)) (fun _ h9 => h9) rfl dX12_smooth_20 ?_
    obtain ⟨u_4, he_5, hf⟩ := os_bd hf
    refine mc_callV ⟨hx, hb, hml, hown, hts⟩ (mm_X3_open l D kA N (g 5) (fun k => g (6 + k)) (g 1) o_this_history o_this_history_panels0 o_this_history_panels1 o_this_history_panels2 o_this_history_panels3 o_this_history_panels4 o_this_history_panels5 o_this_history_panels6 o_this_panel u_4 he_5) (cwV 1 hts gX12_smooth_X3_open rfl rfl rfl (by decide +kernel) ⟨Nat.le_of_ble_eq_true rfl, Nat.le_of_ble_eq_true rfl⟩) (wc := (ce_X3 kA (g 5) (fun k => g (6 + k)) o_this_history ++ (ce_X5 kA (g 6) o_this_history_panels0 ++ (ce_X5 kA (g 7) o_this_history_panels1 ++ (ce_X5 kA (g 8) o_this_history_panels2 ++ (ce_X5 kA (g 9) o_this_history_panels3 ++ (ce_X5 kA (g 10) o_this_history_panels4 ++ (ce_X5 kA (g 11) o_this_history_panels5 ++ (ce_X5 kA (g 12) o_this_history_panels6 ++ (ce_X5 kA (g 1) o_this_panel)))))))))) (ci := 0) (q0 := 0) rfl rfl rfl hl.1 (As := [.ref ((g 1) 0)]) (rest := []) rfl (Nat.le_of_ble_eq_true rfl) dX12_smooth_23 ⟨Nat.le_of_ble_eq_true rfl, Nat.le_of_ble_eq_true rfl⟩ hK hP hD hS hA [12, 13, 14, 15, 16, 17, 18, 19, 20, 21, 22, 23, 24, 25, 26, 27, 28, 29, 30, 31, 32, 33, 34, 35, 36, 37, 38, 39, 40, 41, 4, 5, 6, 7] [0, 1, 2, 3, 8, 9, 10, 11] [0, 1, 2, 3, 38, 39, 40, 41, 4, 5, 6, 7, 8, 9, 10, 11, 12, 13, 14, 15, 16, 17, 18, 19, 20, 21, 22, 23, 24, 25, 26, 27, 28, 29, 30, 31, 32, 33, 34, 35, 36, 37] rfl (by decide) rfl (by decide) (by decide) rfl (by decide) (wr := (ce_X12 kA g o_this ++ (ce_X5 kA (g 2) o_this_spare))) (w2 := (ce_X12 kA g o_this ++ (ce_X5 kA (g 1) o_this_panel ++ (ce_X5 kA (g 2) o_this_spare ++ (ce_X3 kA (g 5) (fun k => g (6 + k)) o_this_history ++ (ce_X5 kA (g 6) u_4.1 ++ (ce_X5 kA (g 7) u_4.2.1 ++ (ce_X5 kA (g 8) u_4.2.2.1 ++ (ce_X5 kA (g 9) u_4.2.2.2.1 ++ (ce_X5 kA (g 10) u_4.2.2.2.2.1 ++ (ce_X5 kA (g 11) u_4.2.2.2.2.2.1 ++ (ce_X5 kA (g 12) u_4.2.2.2.2.2.2)))))))))))) (fun H locs hP hD hS => ?_)
    have hP : va_P D vwCl (ce_X12 kA g o_this ++ (ce_X5 kA (g 1) o_this_panel ++ (ce_X5 kA (g 2) o_this_spare ++ (ce_X3 kA (g 5) (fun k => g (6 + k)) o_this_history ++ (ce_X5 kA (g 6) u_4.1 ++ (ce_X5 kA (g 7) u_4.2.1 ++ (ce_X5 kA (g 8) u_4.2.2.1 ++ (ce_X5 kA (g 9) u_4.2.2.2.1 ++ (ce_X5 kA (g 10) u_4.2.2.2.2.1 ++ (ce_X5 kA (g 11) u_4.2.2.2.2.2.1 ++ (ce_X5 kA (g 12) u_4.2.2.2.2.2.2))))))))))) H := hP
    refine lv_aload_n hx hb dX12_smooth_26 rfl (lv_at hl 0 rfl) ?_
    refine va_get (D := D) (ci := 8) (v := .ref ((g 1) 0)) (C := RX12) (T := TX12) (N := 15) hx hb hUX12 (fun _ h9 => h9) hown hK hP 0 rfl rfl 0 (by decide) (hts (Cond.fieldLink RX12 12 "ReliefBuilder" "panel" "LReliefBuilder$Panel;") (List.mem_of_getElem? (i := 4) rfl)) (fun _ h9 => h9) rfl dX12_smooth_27 ?_
    refine lv_aload_n hx hb dX12_smooth_30 rfl (lv_at hl 0 rfl) ?_
    refine va_get (D := D) (ci := 8) (v := .ref ((g 2) 0)) (C := RX12) (T := TX12) (N := 15) hx hb hUX12 (fun _ h9 => h9) hown hK hP 0 rfl rfl 1 (by decide) (hts (Cond.fieldLink RX12 16 "ReliefBuilder" "spare" "LReliefBuilder$Panel;") (List.mem_of_getElem? (i := 5) rfl)) (fun _ h9 => h9) rfl dX12_smooth_31 ?_
    refine lv_iload_n hx hb dX12_smooth_34 rfl (lv_at hl 1 rfl) ?_
    obtain ⟨u_6, he_7, hf⟩ := os_bd hf
    refine mc_callS ⟨hx, hb, hml, hown, hts⟩ (mm_X11_flatten l D kA N (g 1) (g 2) o_this_panel o_this_spare a1 u_6 he_7) (va_cwS 3 hts gX12_smooth_X11_flatten rfl rfl rfl (by decide +kernel) ⟨Nat.le_of_ble_eq_true rfl, Nat.le_of_ble_eq_true rfl⟩) (wc := (ce_X5 kA (g 1) o_this_panel ++ (ce_X5 kA (g 2) o_this_spare))) rfl hl.1 (As := [.ref ((g 1) 0), .ref ((g 2) 0), .int a1]) (rest := []) rfl (Nat.le_of_ble_eq_true rfl) dX12_smooth_35 ⟨Nat.le_of_ble_eq_true rfl, Nat.le_of_ble_eq_true rfl⟩ hK hP hD hS hA [4, 5, 6, 7, 8, 9, 10, 11] [0, 1, 2, 3, 12, 13, 14, 15, 16, 17, 18, 19, 20, 21, 22, 23, 24, 25, 26, 27, 28, 29, 30, 31, 32, 33, 34, 35, 36, 37, 38, 39, 40, 41] [0, 1, 2, 3, 34, 35, 36, 37, 38, 39, 40, 41, 4, 5, 6, 7, 8, 9, 10, 11, 12, 13, 14, 15, 16, 17, 18, 19, 20, 21, 22, 23, 24, 25, 26, 27, 28, 29, 30, 31, 32, 33] rfl (by decide) rfl (by decide) (by decide) rfl (by decide) (wr := (ce_X12 kA g o_this ++ (ce_X3 kA (g 5) (fun k => g (6 + k)) o_this_history ++ (ce_X5 kA (g 6) u_4.1 ++ (ce_X5 kA (g 7) u_4.2.1 ++ (ce_X5 kA (g 8) u_4.2.2.1 ++ (ce_X5 kA (g 9) u_4.2.2.2.1 ++ (ce_X5 kA (g 10) u_4.2.2.2.2.1 ++ (ce_X5 kA (g 11) u_4.2.2.2.2.2.1 ++ (ce_X5 kA (g 12) u_4.2.2.2.2.2.2)))))))))) (w2 := (ce_X12 kA g o_this ++ (ce_X5 kA (g 1) u_6.2.1 ++ (ce_X5 kA (g 2) u_6.2.2 ++ (ce_X3 kA (g 5) (fun k => g (6 + k)) o_this_history ++ (ce_X5 kA (g 6) u_4.1 ++ (ce_X5 kA (g 7) u_4.2.1 ++ (ce_X5 kA (g 8) u_4.2.2.1 ++ (ce_X5 kA (g 9) u_4.2.2.2.1 ++ (ce_X5 kA (g 10) u_4.2.2.2.2.1 ++ (ce_X5 kA (g 11) u_4.2.2.2.2.2.1 ++ (ce_X5 kA (g 12) u_4.2.2.2.2.2.2)))))))))))) (fun H locs hP hD hS => ?_)
    have hP : va_P D vwCl (ce_X12 kA g o_this ++ (ce_X5 kA (g 1) u_6.2.1 ++ (ce_X5 kA (g 2) u_6.2.2 ++ (ce_X3 kA (g 5) (fun k => g (6 + k)) o_this_history ++ (ce_X5 kA (g 6) u_4.1 ++ (ce_X5 kA (g 7) u_4.2.1 ++ (ce_X5 kA (g 8) u_4.2.2.1 ++ (ce_X5 kA (g 9) u_4.2.2.2.1 ++ (ce_X5 kA (g 10) u_4.2.2.2.2.1 ++ (ce_X5 kA (g 11) u_4.2.2.2.2.2.1 ++ (ce_X5 kA (g 12) u_4.2.2.2.2.2.2))))))))))) H := hP
    refine lv_istore_n (lv' := [(2, .int u_6.1), (0, .ref ((g 0) 0)), (1, .int a1)]) hx hb dX12_smooth_38 rfl hl (by decide) rfl (fun ls hl => ?_)
    refine lv_aload_n hx hb dX12_smooth_39 rfl (lv_at hl 1 rfl) ?_
    refine va_get (D := D) (ci := 8) (v := .ref ((g 5) 0)) (C := RX12) (T := TX12) (N := 15) hx hb hUX12 (fun _ h9 => h9) hown hK hP 0 rfl rfl 4 (by decide) (hts (Cond.fieldLink RX12 30 "ReliefBuilder" "history" "LReliefBuilder$History;") (List.mem_of_getElem? (i := 3) rfl)) (fun _ h9 => h9) rfl dX12_smooth_40 ?_
    refine lv_aload_n hx hb dX12_smooth_43 rfl (lv_at hl 1 rfl) ?_
    refine va_get (D := D) (ci := 8) (v := .ref ((g 1) 0)) (C := RX12) (T := TX12) (N := 15) hx hb hUX12 (fun _ h9 => h9) hown hK hP 0 rfl rfl 0 (by decide) (hts (Cond.fieldLink RX12 12 "ReliefBuilder" "panel" "LReliefBuilder$Panel;") (List.mem_of_getElem? (i := 4) rfl)) (fun _ h9 => h9) rfl dX12_smooth_44 ?_
    obtain ⟨u_8, he_9, hf⟩ := os_bd hf
    refine mc_callV ⟨hx, hb, hml, hown, hts⟩ (mm_X3_close l D kA N (g 5) (fun k => g (6 + k)) (g 1) o_this_history u_4.1 u_4.2.1 u_4.2.2.1 u_4.2.2.2.1 u_4.2.2.2.2.1 u_4.2.2.2.2.2.1 u_4.2.2.2.2.2.2 u_6.2.1 u_8 he_9) (cwV 1 hts gX12_smooth_X3_close rfl rfl rfl (by decide +kernel) ⟨Nat.le_of_ble_eq_true rfl, Nat.le_of_ble_eq_true rfl⟩) (wc := (ce_X3 kA (g 5) (fun k => g (6 + k)) o_this_history ++ (ce_X5 kA (g 6) u_4.1 ++ (ce_X5 kA (g 7) u_4.2.1 ++ (ce_X5 kA (g 8) u_4.2.2.1 ++ (ce_X5 kA (g 9) u_4.2.2.2.1 ++ (ce_X5 kA (g 10) u_4.2.2.2.2.1 ++ (ce_X5 kA (g 11) u_4.2.2.2.2.2.1 ++ (ce_X5 kA (g 12) u_4.2.2.2.2.2.2 ++ (ce_X5 kA (g 1) u_6.2.1)))))))))) (ci := 0) (q0 := 0) rfl rfl rfl hl.1 (As := [.ref ((g 1) 0)]) (rest := []) rfl (Nat.le_of_ble_eq_true rfl) dX12_smooth_47 ⟨Nat.le_of_ble_eq_true rfl, Nat.le_of_ble_eq_true rfl⟩ hK hP hD hS hA [12, 13, 14, 15, 16, 17, 18, 19, 20, 21, 22, 23, 24, 25, 26, 27, 28, 29, 30, 31, 32, 33, 34, 35, 36, 37, 38, 39, 40, 41, 4, 5, 6, 7] [0, 1, 2, 3, 8, 9, 10, 11] [0, 1, 2, 3, 38, 39, 40, 41, 4, 5, 6, 7, 8, 9, 10, 11, 12, 13, 14, 15, 16, 17, 18, 19, 20, 21, 22, 23, 24, 25, 26, 27, 28, 29, 30, 31, 32, 33, 34, 35, 36, 37] rfl (by decide) rfl (by decide) (by decide) rfl (by decide) (wr := (ce_X12 kA g o_this ++ (ce_X5 kA (g 2) u_6.2.2))) (w2 := (ce_X12 kA g o_this ++ (ce_X5 kA (g 1) u_6.2.1 ++ (ce_X5 kA (g 2) u_6.2.2 ++ (ce_X3 kA (g 5) (fun k => g (6 + k)) u_8 ++ (ce_X5 kA (g 6) u_4.1 ++ (ce_X5 kA (g 7) u_4.2.1 ++ (ce_X5 kA (g 8) u_4.2.2.1 ++ (ce_X5 kA (g 9) u_4.2.2.2.1 ++ (ce_X5 kA (g 10) u_4.2.2.2.2.1 ++ (ce_X5 kA (g 11) u_4.2.2.2.2.2.1 ++ (ce_X5 kA (g 12) u_4.2.2.2.2.2.2)))))))))))) (fun H locs hP hD hS => ?_)
    have hP : va_P D vwCl (ce_X12 kA g o_this ++ (ce_X5 kA (g 1) u_6.2.1 ++ (ce_X5 kA (g 2) u_6.2.2 ++ (ce_X3 kA (g 5) (fun k => g (6 + k)) u_8 ++ (ce_X5 kA (g 6) u_4.1 ++ (ce_X5 kA (g 7) u_4.2.1 ++ (ce_X5 kA (g 8) u_4.2.2.1 ++ (ce_X5 kA (g 9) u_4.2.2.2.1 ++ (ce_X5 kA (g 10) u_4.2.2.2.2.1 ++ (ce_X5 kA (g 11) u_4.2.2.2.2.2.1 ++ (ce_X5 kA (g 12) u_4.2.2.2.2.2.2))))))))))) H := hP
    refine lv_iload_n hx hb dX12_smooth_50 rfl (lv_at hl 0 rfl) ?_
    rw [← Option.some.inj hf]
    exact mx_reti (Nat.le_of_ble_eq_true rfl) (Nat.le_of_ble_eq_true rfl) hx hb hr hlk hP hK hD hS dX12_smooth_51
  · rw [if_pos hc_3] at hf
    rw [← Option.some.inj hf]
    exact mx_throw (xc := 2) (own := RX12) (ik := 104) (ic := 106) (by decide) hx hb hst hown (by decide +kernel) (hts (Cond.classLink RX12 104 "java/lang/IllegalArgumentException") (List.mem_of_getElem? (i := 1) rfl)) (hts (Cond.initialized "java/lang/IllegalArgumentException") (List.mem_of_getElem? (i := 2) rfl)) (vx_hat (L := vx_at0 RX12 106 "java/lang/IllegalArgumentException" ["java/lang/RuntimeException", "java/lang/Exception"]) (B := [.declares ⟨"java/lang/RuntimeException", "<init>", "()V"⟩, .declares ⟨"java/lang/Exception", "<init>", "()V"⟩, .declares ⟨"java/lang/Throwable", "<init>", "()V"⟩, .castable "java/lang/IllegalArgumentException" "java/lang/IllegalArgumentException"]) (fun w h => hts w (List.mem_cons_of_mem _ (List.mem_append_right _ h))) (by decide +kernel) (st_bad (xc := 2) hZ.2.2.1.2.2)) (by decide +kernel) hZ hS (hl.1.trans hml.symm) hP hK hD dX12_smooth_7 dX12_smooth_10 dX12_smooth_11 dX12_smooth_14 hx0 (Nat.le_of_ble_eq_true rfl) (Nat.le_of_ble_eq_true rfl) (Nat.le_of_ble_eq_true rfl) (Nat.le_of_ble_eq_true rfl) hlk (Nat.le_of_ble_eq_true rfl) (Nat.le_of_ble_eq_true rfl)
def ff_X12_repairLoss (N : Nat) (o_this : os_T) (o_this_panel : os_T) (o_this_spare : os_T) (o_this_walls : os_T) : Option (Int32 × os_T × os_T) :=
  ((ff_X5_copyFrom N o_this_spare o_this_panel).bind fun u_1 => ((ff_X11_takeDown N o_this_walls u_1).bind fun u_3 => ((ff_X5_sumOfHeights N o_this_panel).bind fun u_5 => ((ff_X5_sumOfHeights N u_3.2.2).bind fun u_7 => some (u_5 - u_7, u_3.2.2, u_3.2.1)))))
set_option maxHeartbeats 4000000 in
set_option maxRecDepth 100000 in
theorem mm_X12_repairLoss (l : Launch) (D : va_G) (kA : Nat → ClassId) (N : Nat) (g : Nat → Nat → Nat) (o_this : os_T) (o_this_panel : os_T) (o_this_spare : os_T) (o_this_walls : os_T) (out : (Int32 × os_T × os_T)) (hf : ff_X12_repairLoss N o_this o_this_panel o_this_spare o_this_walls = some out) : mc_C l D kA yX12_repairLoss wsX12_repairLoss ({ frames := 5, cells := 0, slots := 0, locals := 120 } : Room) [.ref ((g 0) 0)] (ce_X12 kA g o_this ++ (ce_X5 kA (g 1) o_this_panel ++ (ce_X5 kA (g 2) o_this_spare ++ (ce_X11 kA (g 13) o_this_walls)))) (some (.int out.1)) (ce_X12 kA g o_this ++ (ce_X5 kA (g 1) o_this_panel ++ (ce_X5 kA (g 2) out.2.1 ++ (ce_X11 kA (g 13) out.2.2)))) := by
  refine mc_of (cc := cX12_repairLoss) (maxL := 1) (ret := (some .int)) (by decide) rfl (Nat.le_of_ble_eq_true rfl) ?_
  intro p e s m below meth c A B hD hP hS ls hl
  obtain ⟨hx, hb, hr, hlk, hml, hown, hts, hK, hA, hnm⟩ := B
  have hown : s.vm.findClass RX12 = some m.cls := hown
  have hl : lv_has ls 1 [(0, .ref ((g 0) 0))] := hl
  have hUX12 : ∀ w ∈ u_ws RX12 TX12 15, w.before [.ref ((g 0) 0)].toArray s = true := fun w h => hts w (List.mem_cons_of_mem _ (List.mem_append_left _ (List.mem_append_left _ (List.mem_append_right _ h))))
  unfold ff_X12_repairLoss at hf
  refine lv_aload_n hx hb dX12_repairLoss_0 rfl (lv_at hl 0 rfl) ?_
  refine va_get (D := D) (ci := 8) (v := .ref ((g 2) 0)) (C := RX12) (T := TX12) (N := 15) hx hb hUX12 (fun _ h9 => h9) hown hK hP 0 rfl rfl 1 (by decide) (hts (Cond.fieldLink RX12 16 "ReliefBuilder" "spare" "LReliefBuilder$Panel;") (List.mem_of_getElem? (i := 1) rfl)) (fun _ h9 => h9) rfl dX12_repairLoss_1 ?_
  refine lv_aload_n hx hb dX12_repairLoss_4 rfl (lv_at hl 0 rfl) ?_
  refine va_get (D := D) (ci := 8) (v := .ref ((g 1) 0)) (C := RX12) (T := TX12) (N := 15) hx hb hUX12 (fun _ h9 => h9) hown hK hP 0 rfl rfl 0 (by decide) (hts (Cond.fieldLink RX12 12 "ReliefBuilder" "panel" "LReliefBuilder$Panel;") (List.mem_of_getElem? (i := 2) rfl)) (fun _ h9 => h9) rfl dX12_repairLoss_5 ?_
  obtain ⟨u_1, he_2, hf⟩ := os_bd hf
  refine mc_callV ⟨hx, hb, hml, hown, hts⟩ (mm_X5_copyFrom l D kA N (g 2) (g 1) o_this_spare o_this_panel u_1 he_2) (cwV 1 hts gX12_repairLoss_X5_copyFrom rfl rfl rfl (by decide +kernel) ⟨Nat.le_of_ble_eq_true rfl, Nat.le_of_ble_eq_true rfl⟩) (wc := (ce_X5 kA (g 2) o_this_spare ++ (ce_X5 kA (g 1) o_this_panel))) (ci := 2) (q0 := 0) rfl rfl rfl hl.1 (As := [.ref ((g 1) 0)]) (rest := []) rfl (Nat.le_of_ble_eq_true rfl) dX12_repairLoss_8 ⟨Nat.le_of_ble_eq_true rfl, Nat.le_of_ble_eq_true rfl⟩ hK hP hD hS hA [8, 9, 10, 11, 4, 5, 6, 7] [0, 1, 2, 3, 12, 13] [0, 1, 2, 3, 10, 11, 12, 13, 6, 7, 8, 9, 4, 5] rfl (by decide) rfl (by decide) (by decide) rfl (by decide) (wr := (ce_X12 kA g o_this ++ (ce_X11 kA (g 13) o_this_walls))) (w2 := (ce_X12 kA g o_this ++ (ce_X5 kA (g 1) o_this_panel ++ (ce_X5 kA (g 2) u_1 ++ (ce_X11 kA (g 13) o_this_walls))))) (fun H locs hP hD hS => ?_)
  have hP : va_P D vwCl (ce_X12 kA g o_this ++ (ce_X5 kA (g 1) o_this_panel ++ (ce_X5 kA (g 2) u_1 ++ (ce_X11 kA (g 13) o_this_walls)))) H := hP
  refine lv_aload_n hx hb dX12_repairLoss_11 rfl (lv_at hl 0 rfl) ?_
  refine va_get (D := D) (ci := 8) (v := .ref ((g 13) 0)) (C := RX12) (T := TX12) (N := 15) hx hb hUX12 (fun _ h9 => h9) hown hK hP 0 rfl rfl 5 (by decide) (hts (Cond.fieldLink RX12 37 "ReliefBuilder" "walls" "LReliefBuilder$Walls;") (List.mem_of_getElem? (i := 3) rfl)) (fun _ h9 => h9) rfl dX12_repairLoss_12 ?_
  refine lv_aload_n hx hb dX12_repairLoss_15 rfl (lv_at hl 0 rfl) ?_
  refine va_get (D := D) (ci := 8) (v := .ref ((g 2) 0)) (C := RX12) (T := TX12) (N := 15) hx hb hUX12 (fun _ h9 => h9) hown hK hP 0 rfl rfl 1 (by decide) (hts (Cond.fieldLink RX12 16 "ReliefBuilder" "spare" "LReliefBuilder$Panel;") (List.mem_of_getElem? (i := 1) rfl)) (fun _ h9 => h9) rfl dX12_repairLoss_16 ?_
  obtain ⟨u_3, he_4, hf⟩ := os_bd hf
  refine mc_callV ⟨hx, hb, hml, hown, hts⟩ (mm_X11_takeDown l D kA N (g 13) (g 2) o_this_walls u_1 u_3 he_4) (cwV 1 hts gX12_repairLoss_X11_takeDown rfl rfl rfl (by decide +kernel) ⟨Nat.le_of_ble_eq_true rfl, Nat.le_of_ble_eq_true rfl⟩) (wc := (ce_X11 kA (g 13) o_this_walls ++ (ce_X5 kA (g 2) u_1))) (ci := 7) (q0 := 0) rfl rfl rfl hl.1 (As := [.ref ((g 2) 0)]) (rest := []) rfl (Nat.le_of_ble_eq_true rfl) dX12_repairLoss_19 ⟨Nat.le_of_ble_eq_true rfl, Nat.le_of_ble_eq_true rfl⟩ hK hP hD hS hA [12, 13, 8, 9, 10, 11] [0, 1, 2, 3, 4, 5, 6, 7] [0, 1, 2, 3, 4, 5, 6, 7, 10, 11, 12, 13, 8, 9] rfl (by decide) rfl (by decide) (by decide) rfl (by decide) (wr := (ce_X12 kA g o_this ++ (ce_X5 kA (g 1) o_this_panel))) (w2 := (ce_X12 kA g o_this ++ (ce_X5 kA (g 1) o_this_panel ++ (ce_X5 kA (g 2) u_3.2.2 ++ (ce_X11 kA (g 13) u_3.2.1))))) (fun H locs hP hD hS => ?_)
  have hP : va_P D vwCl (ce_X12 kA g o_this ++ (ce_X5 kA (g 1) o_this_panel ++ (ce_X5 kA (g 2) u_3.2.2 ++ (ce_X11 kA (g 13) u_3.2.1)))) H := hP
  refine lv_pop hx hb dX12_repairLoss_22 rfl ?_
  refine lv_aload_n hx hb dX12_repairLoss_23 rfl (lv_at hl 0 rfl) ?_
  refine va_get (D := D) (ci := 8) (v := .ref ((g 1) 0)) (C := RX12) (T := TX12) (N := 15) hx hb hUX12 (fun _ h9 => h9) hown hK hP 0 rfl rfl 0 (by decide) (hts (Cond.fieldLink RX12 12 "ReliefBuilder" "panel" "LReliefBuilder$Panel;") (List.mem_of_getElem? (i := 2) rfl)) (fun _ h9 => h9) rfl dX12_repairLoss_24 ?_
  obtain ⟨u_5, he_6, hf⟩ := os_bd hf
  refine mc_callV ⟨hx, hb, hml, hown, hts⟩ (mm_X5_sumOfHeights l D kA N (g 1) o_this_panel u_5 he_6) (cwV 0 hts gX12_repairLoss_X5_sumOfHeights rfl rfl rfl (by decide +kernel) ⟨Nat.le_of_ble_eq_true rfl, Nat.le_of_ble_eq_true rfl⟩) (wc := (ce_X5 kA (g 1) o_this_panel)) (ci := 2) (q0 := 0) rfl rfl rfl hl.1 (As := []) (rest := []) rfl (Nat.le_of_ble_eq_true rfl) dX12_repairLoss_27 ⟨Nat.le_of_ble_eq_true rfl, Nat.le_of_ble_eq_true rfl⟩ hK hP hD hS hA [4, 5, 6, 7] [0, 1, 2, 3, 8, 9, 10, 11, 12, 13] [0, 1, 2, 3, 10, 11, 12, 13, 4, 5, 6, 7, 8, 9] rfl (by decide) rfl (by decide) (by decide) rfl (by decide) (wr := (ce_X12 kA g o_this ++ (ce_X5 kA (g 2) u_3.2.2 ++ (ce_X11 kA (g 13) u_3.2.1)))) (w2 := (ce_X12 kA g o_this ++ (ce_X5 kA (g 1) o_this_panel ++ (ce_X5 kA (g 2) u_3.2.2 ++ (ce_X11 kA (g 13) u_3.2.1))))) (fun H locs hP hD hS => ?_)
  have hP : va_P D vwCl (ce_X12 kA g o_this ++ (ce_X5 kA (g 1) o_this_panel ++ (ce_X5 kA (g 2) u_3.2.2 ++ (ce_X11 kA (g 13) u_3.2.1)))) H := hP
  refine lv_aload_n hx hb dX12_repairLoss_30 rfl (lv_at hl 0 rfl) ?_
  refine va_get (D := D) (ci := 8) (v := .ref ((g 2) 0)) (C := RX12) (T := TX12) (N := 15) hx hb hUX12 (fun _ h9 => h9) hown hK hP 0 rfl rfl 1 (by decide) (hts (Cond.fieldLink RX12 16 "ReliefBuilder" "spare" "LReliefBuilder$Panel;") (List.mem_of_getElem? (i := 1) rfl)) (fun _ h9 => h9) rfl dX12_repairLoss_31 ?_
  obtain ⟨u_7, he_8, hf⟩ := os_bd hf
  refine mc_callV ⟨hx, hb, hml, hown, hts⟩ (mm_X5_sumOfHeights l D kA N (g 2) u_3.2.2 u_7 he_8) (cwV 0 hts gX12_repairLoss_X5_sumOfHeights rfl rfl rfl (by decide +kernel) ⟨Nat.le_of_ble_eq_true rfl, Nat.le_of_ble_eq_true rfl⟩) (wc := (ce_X5 kA (g 2) u_3.2.2)) (ci := 2) (q0 := 0) rfl rfl rfl hl.1 (As := []) (rest := [.int u_5]) rfl (Nat.le_of_ble_eq_true rfl) dX12_repairLoss_34 ⟨Nat.le_of_ble_eq_true rfl, Nat.le_of_ble_eq_true rfl⟩ hK hP hD hS hA [8, 9, 10, 11] [0, 1, 2, 3, 4, 5, 6, 7, 12, 13] [0, 1, 2, 3, 4, 5, 6, 7, 10, 11, 12, 13, 8, 9] rfl (by decide) rfl (by decide) (by decide) rfl (by decide) (wr := (ce_X12 kA g o_this ++ (ce_X5 kA (g 1) o_this_panel ++ (ce_X11 kA (g 13) u_3.2.1)))) (w2 := (ce_X12 kA g o_this ++ (ce_X5 kA (g 1) o_this_panel ++ (ce_X5 kA (g 2) u_3.2.2 ++ (ce_X11 kA (g 13) u_3.2.1))))) (fun H locs hP hD hS => ?_)
  have hP : va_P D vwCl (ce_X12 kA g o_this ++ (ce_X5 kA (g 1) o_this_panel ++ (ce_X5 kA (g 2) u_3.2.2 ++ (ce_X11 kA (g 13) u_3.2.1)))) H := hP
  refine lv_isub hx hb dX12_repairLoss_37 ?_
  rw [← Option.some.inj hf]
  exact mc_reti hx hb hr hlk hP hK hD hS dX12_repairLoss_38
def ff_X12_overhang (N : Nat) (o_this : os_T) (o_this_panel : os_T) (a1 : Int32) (a2 : Int32) : Option (Nat × Int32) :=
  ((ff_X12_checkCell N o_this o_this_panel a1 a2).bind fun u_1 => (if u_1 = 0 then ((ff_X9_excess N o_this_panel a1 a2).bind fun u_3 => some (0, u_3)) else some (u_1, (0 : Int32))))
set_option maxHeartbeats 4000000 in
set_option maxRecDepth 100000 in
theorem mm_X12_overhang (l : Launch) (hst : l.stackTraces = false) (zz : Nat → Nat → Nat) (D : va_G) (kA : Nat → ClassId) (N : Nat) (g : Nat → Nat → Nat) (o_this : os_T) (o_this_panel : os_T) (a1 : Int32) (a2 : Int32) (out : (Nat × Int32)) (hf : ff_X12_overhang N o_this o_this_panel a1 a2 = some out) : mx_C l zz D kA yX12_overhang wsX12_overhang ({ frames := 7, cells := 1, slots := 6, locals := 112 } : Room) [.ref ((g 0) 0), .int a1, .int a2] (ce_X12 kA g o_this ++ (ce_X5 kA (g 1) o_this_panel)) out.1 (some (.int out.2)) (ce_X12 kA g o_this ++ (ce_X5 kA (g 1) o_this_panel)) := by
  refine mx_of (cc := cX12_overhang) (maxL := 3) (ret := (some .int)) (by decide) rfl (Nat.le_of_ble_eq_true rfl) ?_
  intro p e s m below meth c A B hx0 hZ hD hP hS ls hl
  obtain ⟨hx, hb, hr, hlk, hml, hown, hts, hK, hA, hnm⟩ := B
  have hown : s.vm.findClass RX12 = some m.cls := hown
  have hl : lv_has ls 3 [(0, .ref ((g 0) 0)), (1, .int a1), (2, .int a2)] := hl
  have hUX12 : ∀ w ∈ u_ws RX12 TX12 15, w.before [.ref ((g 0) 0), .int a1, .int a2].toArray s = true := fun w h => hts w (List.mem_cons_of_mem _ (List.mem_append_left _ (List.mem_append_left _ (List.mem_append_right _ h))))
  unfold ff_X12_overhang at hf
  refine lv_aload_n hx hb dX12_overhang_0 rfl (lv_at hl 0 rfl) ?_
  refine lv_iload_n hx hb dX12_overhang_1 rfl (lv_at hl 1 rfl) ?_
  refine lv_iload_n hx hb dX12_overhang_2 rfl (lv_at hl 2 rfl) ?_
  obtain ⟨u_1, he_2, hf⟩ := os_bd hf
  refine mx_callV ⟨hx, hb, hml, hown, hts⟩ (mm_X12_checkCell l hst zz D kA N g o_this o_this_panel a1 a2 u_1 he_2) (cwV 2 hts gX12_overhang_X12_checkCell rfl rfl rfl (by decide +kernel) ⟨Nat.le_of_ble_eq_true rfl, Nat.le_of_ble_eq_true rfl⟩) (wc := (ce_X12 kA g o_this ++ (ce_X5 kA (g 1) o_this_panel))) (ci := 8) (q0 := 0) rfl rfl rfl hl.1 (As := [.int a1, .int a2]) (rest := []) rfl (Nat.le_of_ble_eq_true rfl) dX12_overhang_3 ⟨Nat.le_of_ble_eq_true rfl, Nat.le_of_ble_eq_true rfl⟩ hK hP hD hS hA hZ [0, 1, 2, 3, 4, 5, 6, 7] [] [0, 1, 2, 3, 4, 5, 6, 7] rfl (by decide) rfl (by decide) (by decide) rfl (by decide) (wr := []) (w2 := (ce_X12 kA g o_this ++ (ce_X5 kA (g 1) o_this_panel))) (fun hx9 H locs q9 ce hP hD hS h91 h92 h93 => ?_) (fun hx9 H locs hP hD hS => ?_)
  · rw [if_neg hx9] at hf
    rw [← Option.some.inj hf]
    exact mx_out hx9 hx0 hlk hP hK hD hS h91 h92 h93 (Nat.le_of_ble_eq_true rfl) (Nat.le_of_ble_eq_true rfl)
  · rw [if_pos hx9] at hf
    refine W.widen (k := 1) (n := 6) (Nat.le_of_ble_eq_true rfl) (Nat.le_of_ble_eq_true rfl) ?_
    have hP : va_P D vwCl (ce_X12 kA g o_this ++ (ce_X5 kA (g 1) o_this_panel)) H := hP
    refine lv_aload_n hx hb dX12_overhang_6 rfl (lv_at hl 0 rfl) ?_
    refine va_get (D := D) (ci := 8) (v := .ref ((g 1) 0)) (C := RX12) (T := TX12) (N := 15) hx hb hUX12 (fun _ h9 => h9) hown hK hP 0 rfl rfl 0 (by decide) (hts (Cond.fieldLink RX12 12 "ReliefBuilder" "panel" "LReliefBuilder$Panel;") (List.mem_of_getElem? (i := 1) rfl)) (fun _ h9 => h9) rfl dX12_overhang_7 ?_
    refine lv_iload_n hx hb dX12_overhang_10 rfl (lv_at hl 1 rfl) ?_
    refine lv_iload_n hx hb dX12_overhang_11 rfl (lv_at hl 2 rfl) ?_
    obtain ⟨u_3, he_4, hf⟩ := os_bd hf
    refine mc_callS ⟨hx, hb, hml, hown, hts⟩ (mm_X9_excess l D kA N (g 1) o_this_panel a1 a2 u_3 he_4) (va_cwS 3 hts gX12_overhang_X9_excess rfl rfl rfl (by decide +kernel) ⟨Nat.le_of_ble_eq_true rfl, Nat.le_of_ble_eq_true rfl⟩) (wc := (ce_X5 kA (g 1) o_this_panel)) rfl hl.1 (As := [.ref ((g 1) 0), .int a1, .int a2]) (rest := []) rfl (Nat.le_of_ble_eq_true rfl) dX12_overhang_12 ⟨Nat.le_of_ble_eq_true rfl, Nat.le_of_ble_eq_true rfl⟩ hK hP hD hS hA [4, 5, 6, 7] [0, 1, 2, 3] [0, 1, 2, 3, 4, 5, 6, 7] rfl (by decide) rfl (by decide) (by decide) rfl (by decide) (wr := (ce_X12 kA g o_this)) (w2 := (ce_X12 kA g o_this ++ (ce_X5 kA (g 1) o_this_panel))) (fun H locs hP hD hS => ?_)
    have hP : va_P D vwCl (ce_X12 kA g o_this ++ (ce_X5 kA (g 1) o_this_panel)) H := hP
    rw [← Option.some.inj hf]
    exact mx_reti (Nat.le_of_ble_eq_true rfl) (Nat.le_of_ble_eq_true rfl) hx hb hr hlk hP hK hD hS dX12_overhang_15
def ff_X12_supportOf_b24 (N : Nat) (o_this : os_T) (o_this_panel : os_T) : Option (Nat × Int32) :=
  some (2, (0 : Int32))
def ff_X12_supportOf (N : Nat) (o_this : os_T) (o_this_panel : os_T) (a1 : Int32) (a2 : Int32) (a3 : Int32) : Option (Nat × Int32) :=
  ((ff_X12_checkCell N o_this o_this_panel a1 a2).bind fun u_1 => (if u_1 = 0 then (if a3 < (1 : Int32) then ff_X12_supportOf_b24 N o_this o_this_panel else ((ff_X5_heightAt N o_this_panel a1 a2).bind fun u_4 => (if a3 ≤ u_4 then ((ff_X9_lengthOf N o_this_panel a1 a2 a3).bind fun u_7 => some (0, u_7)) else ff_X12_supportOf_b24 N o_this o_this_panel))) else some (u_1, (0 : Int32))))
set_option maxHeartbeats 4000000 in
set_option maxRecDepth 100000 in
theorem mm_X12_supportOf (l : Launch) (hst : l.stackTraces = false) (zz : Nat → Nat → Nat) (D : va_G) (kA : Nat → ClassId) (N : Nat) (g : Nat → Nat → Nat) (o_this : os_T) (o_this_panel : os_T) (a1 : Int32) (a2 : Int32) (a3 : Int32) (out : (Nat × Int32)) (hf : ff_X12_supportOf N o_this o_this_panel a1 a2 a3 = some out) : mx_C l zz D kA yX12_supportOf wsX12_supportOf ({ frames := 7, cells := 2, slots := 12, locals := 112 } : Room) [.ref ((g 0) 0), .int a1, .int a2, .int a3] (ce_X12 kA g o_this ++ (ce_X5 kA (g 1) o_this_panel)) out.1 (some (.int out.2)) (ce_X12 kA g o_this ++ (ce_X5 kA (g 1) o_this_panel)) := by
  refine mx_of (cc := cX12_supportOf) (maxL := 4) (ret := (some .int)) (by decide) rfl (Nat.le_of_ble_eq_true rfl) ?_
  intro p e s m below meth c A B hx0 hZ hD hP hS ls hl
  obtain ⟨hx, hb, hr, hlk, hml, hown, hts, hK, hA, hnm⟩ := B
  have hown : s.vm.findClass RX12 = some m.cls := hown
  have hl : lv_has ls 4 [(0, .ref ((g 0) 0)), (1, .int a1), (2, .int a2), (3, .int a3)] := hl
  have hUX12 : ∀ w ∈ u_ws RX12 TX12 15, w.before [.ref ((g 0) 0), .int a1, .int a2, .int a3].toArray s = true := fun w h => hts w (List.mem_cons_of_mem _ (List.mem_append_left _ (List.mem_append_left _ (List.mem_append_left _ (List.mem_append_right _ h)))))
  have hB24 : ∀ (H : Heap) (locs : List Loc) (ls : Array Slot), va_P D vwCl (ce_X12 kA g o_this ++ (ce_X5 kA (g 1) o_this_panel)) H → va_D A (ce_X12 kA g o_this ++ (ce_X5 kA (g 1) o_this_panel)) → va_S A s.heap H locs → lv_has ls 4 [] → ff_X12_supportOf_b24 N o_this o_this_panel = some out → W p l e ({ frames := 7, cells := 2, slots := 12, locals := 112 } : Room) s m [.ref ((g 0) 0), .int a1, .int a2, .int a3].toArray below meth c H locs 1 6 (vx_MQ below (mx_Q D kA A out.1 (some (.int out.2)) (ce_X12 kA g o_this ++ (ce_X5 kA (g 1) o_this_panel))) (mx_X D kA A out.1 (ce_X12 kA g o_this ++ (ce_X5 kA (g 1) o_this_panel))) [.ref ((g 0) 0), .int a1, .int a2, .int a3].toArray s 2 12 A) (F0 m 24 ls []) := by
    intro H locs ls hP hD hS hl hf
    unfold ff_X12_supportOf_b24 at hf
    rw [← Option.some.inj hf]
    exact mx_throw (xc := 2) (own := RX12) (ik := 104) (ic := 106) (by decide) hx hb hst hown (by decide +kernel) (hts (Cond.classLink RX12 104 "java/lang/IllegalArgumentException") (List.mem_of_getElem? (i := 1) rfl)) (hts (Cond.initialized "java/lang/IllegalArgumentException") (List.mem_of_getElem? (i := 2) rfl)) (vx_hat (L := vx_at0 RX12 106 "java/lang/IllegalArgumentException" ["java/lang/RuntimeException", "java/lang/Exception"]) (B := [.declares ⟨"java/lang/RuntimeException", "<init>", "()V"⟩, .declares ⟨"java/lang/Exception", "<init>", "()V"⟩, .declares ⟨"java/lang/Throwable", "<init>", "()V"⟩, .castable "java/lang/IllegalArgumentException" "java/lang/IllegalArgumentException"]) (fun w h => hts w (List.mem_cons_of_mem _ (List.mem_append_left _ (List.mem_append_right _ h)))) (by decide +kernel) (st_bad (xc := 2) hZ.2.2.1.2.2)) (by decide +kernel) hZ hS (hl.1.trans hml.symm) hP hK hD dX12_supportOf_24 dX12_supportOf_27 dX12_supportOf_28 dX12_supportOf_31 hx0 (Nat.le_of_ble_eq_true rfl) (Nat.le_of_ble_eq_true rfl) (Nat.le_of_ble_eq_true rfl) (Nat.le_of_ble_eq_true rfl) hlk (Nat.le_of_ble_eq_true rfl) (Nat.le_of_ble_eq_true rfl)
  unfold ff_X12_supportOf at hf
  refine lv_aload_n hx hb dX12_supportOf_0 rfl (lv_at hl 0 rfl) ?_
  refine lv_iload_n hx hb dX12_supportOf_1 rfl (lv_at hl 1 rfl) ?_
  refine lv_iload_n hx hb dX12_supportOf_2 rfl (lv_at hl 2 rfl) ?_
  obtain ⟨u_1, he_2, hf⟩ := os_bd hf
  refine mx_callV ⟨hx, hb, hml, hown, hts⟩ (mm_X12_checkCell l hst zz D kA N g o_this o_this_panel a1 a2 u_1 he_2) (cwV 2 hts gX12_supportOf_X12_checkCell rfl rfl rfl (by decide +kernel) ⟨Nat.le_of_ble_eq_true rfl, Nat.le_of_ble_eq_true rfl⟩) (wc := (ce_X12 kA g o_this ++ (ce_X5 kA (g 1) o_this_panel))) (ci := 8) (q0 := 0) rfl rfl rfl hl.1 (As := [.int a1, .int a2]) (rest := []) rfl (Nat.le_of_ble_eq_true rfl) dX12_supportOf_3 ⟨Nat.le_of_ble_eq_true rfl, Nat.le_of_ble_eq_true rfl⟩ hK hP hD hS hA hZ [0, 1, 2, 3, 4, 5, 6, 7] [] [0, 1, 2, 3, 4, 5, 6, 7] rfl (by decide) rfl (by decide) (by decide) rfl (by decide) (wr := []) (w2 := (ce_X12 kA g o_this ++ (ce_X5 kA (g 1) o_this_panel))) (fun hx9 H locs q9 ce hP hD hS h91 h92 h93 => ?_) (fun hx9 H locs hP hD hS => ?_)
  · rw [if_neg hx9] at hf
    rw [← Option.some.inj hf]
    exact mx_out hx9 hx0 hlk hP hK hD hS h91 h92 h93 (Nat.le_of_ble_eq_true rfl) (Nat.le_of_ble_eq_true rfl)
  · rw [if_pos hx9] at hf
    refine W.widen (k := 1) (n := 6) (Nat.le_of_ble_eq_true rfl) (Nat.le_of_ble_eq_true rfl) ?_
    have hP : va_P D vwCl (ce_X12 kA g o_this ++ (ce_X5 kA (g 1) o_this_panel)) H := hP
    refine lv_iload_n hx hb dX12_supportOf_6 rfl (lv_at hl 3 rfl) ?_
    refine lv_iconst (v := 1) hx hb dX12_supportOf_7 (by decide) ?_
    refine lv_icmp_lt (tgt := 24) hx hb dX12_supportOf_8 (by decide) (fun hc_3 => ?_) (fun hc_3 => ?_)
    · rw [if_pos hc_3] at hf
      exact hB24 _ _ _ hP hD hS (lv_sub hl [] rfl) hf
    · rw [if_neg hc_3] at hf
      refine lv_iload_n hx hb dX12_supportOf_11 rfl (lv_at hl 3 rfl) ?_
      refine lv_aload_n hx hb dX12_supportOf_12 rfl (lv_at hl 0 rfl) ?_
      refine va_get (D := D) (ci := 8) (v := .ref ((g 1) 0)) (C := RX12) (T := TX12) (N := 15) hx hb hUX12 (fun _ h9 => h9) hown hK hP 0 rfl rfl 0 (by decide) (hts (Cond.fieldLink RX12 12 "ReliefBuilder" "panel" "LReliefBuilder$Panel;") (List.mem_of_getElem? (i := 3) rfl)) (fun _ h9 => h9) rfl dX12_supportOf_13 ?_
      refine lv_iload_n hx hb dX12_supportOf_16 rfl (lv_at hl 1 rfl) ?_
      refine lv_iload_n hx hb dX12_supportOf_17 rfl (lv_at hl 2 rfl) ?_
      obtain ⟨u_4, he_5, hf⟩ := os_bd hf
      refine mc_callV ⟨hx, hb, hml, hown, hts⟩ (mm_X5_heightAt l D kA N (g 1) o_this_panel a1 a2 u_4 he_5) (cwV 2 hts gX12_supportOf_X5_heightAt rfl rfl rfl (by decide +kernel) ⟨Nat.le_of_ble_eq_true rfl, Nat.le_of_ble_eq_true rfl⟩) (wc := (ce_X5 kA (g 1) o_this_panel)) (ci := 2) (q0 := 0) rfl rfl rfl hl.1 (As := [.int a1, .int a2]) (rest := [.int a3]) rfl (Nat.le_of_ble_eq_true rfl) dX12_supportOf_18 ⟨Nat.le_of_ble_eq_true rfl, Nat.le_of_ble_eq_true rfl⟩ hK hP hD hS hA [4, 5, 6, 7] [0, 1, 2, 3] [0, 1, 2, 3, 4, 5, 6, 7] rfl (by decide) rfl (by decide) (by decide) rfl (by decide) (wr := (ce_X12 kA g o_this)) (w2 := (ce_X12 kA g o_this ++ (ce_X5 kA (g 1) o_this_panel))) (fun H locs hP hD hS => ?_)
      have hP : va_P D vwCl (ce_X12 kA g o_this ++ (ce_X5 kA (g 1) o_this_panel)) H := hP
      refine lv_icmp_le (tgt := 32) hx hb dX12_supportOf_21 (by decide) (fun hc_6 => ?_) (fun hc_6 => ?_)
      · rw [if_pos hc_6] at hf
        refine lv_aload_n hx hb dX12_supportOf_32 rfl (lv_at hl 0 rfl) ?_
        refine va_get (D := D) (ci := 8) (v := .ref ((g 1) 0)) (C := RX12) (T := TX12) (N := 15) hx hb hUX12 (fun _ h9 => h9) hown hK hP 0 rfl rfl 0 (by decide) (hts (Cond.fieldLink RX12 12 "ReliefBuilder" "panel" "LReliefBuilder$Panel;") (List.mem_of_getElem? (i := 3) rfl)) (fun _ h9 => h9) rfl dX12_supportOf_33 ?_
        refine lv_iload_n hx hb dX12_supportOf_36 rfl (lv_at hl 1 rfl) ?_
        refine lv_iload_n hx hb dX12_supportOf_37 rfl (lv_at hl 2 rfl) ?_
        refine lv_iload_n hx hb dX12_supportOf_38 rfl (lv_at hl 3 rfl) ?_
        obtain ⟨u_7, he_8, hf⟩ := os_bd hf
        refine mc_callS ⟨hx, hb, hml, hown, hts⟩ (mm_X9_lengthOf l D kA N (g 1) o_this_panel a1 a2 a3 u_7 he_8) (va_cwS 4 hts gX12_supportOf_X9_lengthOf rfl rfl rfl (by decide +kernel) ⟨Nat.le_of_ble_eq_true rfl, Nat.le_of_ble_eq_true rfl⟩) (wc := (ce_X5 kA (g 1) o_this_panel)) rfl hl.1 (As := [.ref ((g 1) 0), .int a1, .int a2, .int a3]) (rest := []) rfl (Nat.le_of_ble_eq_true rfl) dX12_supportOf_39 ⟨Nat.le_of_ble_eq_true rfl, Nat.le_of_ble_eq_true rfl⟩ hK hP hD hS hA [4, 5, 6, 7] [0, 1, 2, 3] [0, 1, 2, 3, 4, 5, 6, 7] rfl (by decide) rfl (by decide) (by decide) rfl (by decide) (wr := (ce_X12 kA g o_this)) (w2 := (ce_X12 kA g o_this ++ (ce_X5 kA (g 1) o_this_panel))) (fun H locs hP hD hS => ?_)
        have hP : va_P D vwCl (ce_X12 kA g o_this ++ (ce_X5 kA (g 1) o_this_panel)) H := hP
        rw [← Option.some.inj hf]
        exact mx_reti (Nat.le_of_ble_eq_true rfl) (Nat.le_of_ble_eq_true rfl) hx hb hr hlk hP hK hD hS dX12_supportOf_42
      · rw [if_neg hc_6] at hf
        exact hB24 _ _ _ hP hD hS (lv_sub hl [] rfl) hf
def ff_X12_supportedCells (N : Nat) (o_this : os_T) (o_this_panel : os_T) : Option Int32 :=
  ((ff_X9_countOfCells N o_this_panel).bind fun u_1 => some u_1)
set_option maxHeartbeats 4000000 in
set_option maxRecDepth 100000 in
theorem mm_X12_supportedCells (l : Launch) (D : va_G) (kA : Nat → ClassId) (N : Nat) (g : Nat → Nat → Nat) (o_this : os_T) (o_this_panel : os_T) (out : Int32) (hf : ff_X12_supportedCells N o_this o_this_panel = some out) : mc_C l D kA yX12_supportedCells wsX12_supportedCells ({ frames := 3, cells := 0, slots := 0, locals := 67 } : Room) [.ref ((g 0) 0)] (ce_X12 kA g o_this ++ (ce_X5 kA (g 1) o_this_panel)) (some (.int out)) (ce_X12 kA g o_this ++ (ce_X5 kA (g 1) o_this_panel)) := by
  refine mc_of (cc := cX12_supportedCells) (maxL := 1) (ret := (some .int)) (by decide) rfl (Nat.le_of_ble_eq_true rfl) ?_
  intro p e s m below meth c A B hD hP hS ls hl
  obtain ⟨hx, hb, hr, hlk, hml, hown, hts, hK, hA, hnm⟩ := B
  have hown : s.vm.findClass RX12 = some m.cls := hown
  have hl : lv_has ls 1 [(0, .ref ((g 0) 0))] := hl
  have hUX12 : ∀ w ∈ u_ws RX12 TX12 15, w.before [.ref ((g 0) 0)].toArray s = true := fun w h => hts w (List.mem_cons_of_mem _ (List.mem_append_left _ (List.mem_append_right _ h)))
  unfold ff_X12_supportedCells at hf
  refine lv_aload_n hx hb dX12_supportedCells_0 rfl (lv_at hl 0 rfl) ?_
  refine va_get (D := D) (ci := 8) (v := .ref ((g 1) 0)) (C := RX12) (T := TX12) (N := 15) hx hb hUX12 (fun _ h9 => h9) hown hK hP 0 rfl rfl 0 (by decide) (hts (Cond.fieldLink RX12 12 "ReliefBuilder" "panel" "LReliefBuilder$Panel;") (List.mem_of_getElem? (i := 1) rfl)) (fun _ h9 => h9) rfl dX12_supportedCells_1 ?_
  obtain ⟨u_1, he_2, hf⟩ := os_bd hf
  refine mc_callS ⟨hx, hb, hml, hown, hts⟩ (mm_X9_countOfCells l D kA N (g 1) o_this_panel u_1 he_2) (va_cwS 1 hts gX12_supportedCells_X9_countOfCells rfl rfl rfl (by decide +kernel) ⟨Nat.le_of_ble_eq_true rfl, Nat.le_of_ble_eq_true rfl⟩) (wc := (ce_X5 kA (g 1) o_this_panel)) rfl hl.1 (As := [.ref ((g 1) 0)]) (rest := []) rfl (Nat.le_of_ble_eq_true rfl) dX12_supportedCells_4 ⟨Nat.le_of_ble_eq_true rfl, Nat.le_of_ble_eq_true rfl⟩ hK hP hD hS hA [4, 5, 6, 7] [0, 1, 2, 3] [0, 1, 2, 3, 4, 5, 6, 7] rfl (by decide) rfl (by decide) (by decide) rfl (by decide) (wr := (ce_X12 kA g o_this)) (w2 := (ce_X12 kA g o_this ++ (ce_X5 kA (g 1) o_this_panel))) (fun H locs hP hD hS => ?_)
  have hP : va_P D vwCl (ce_X12 kA g o_this ++ (ce_X5 kA (g 1) o_this_panel)) H := hP
  rw [← Option.some.inj hf]
  exact mc_reti hx hb hr hlk hP hK hD hS dX12_supportedCells_7
def ff_X12_supportVolume (N : Nat) (o_this : os_T) (o_this_panel : os_T) : Option Int32 :=
  ((ff_X9_sumOfLengths N o_this_panel).bind fun u_1 => some u_1)
set_option maxHeartbeats 4000000 in
set_option maxRecDepth 100000 in
theorem mm_X12_supportVolume (l : Launch) (D : va_G) (kA : Nat → ClassId) (N : Nat) (g : Nat → Nat → Nat) (o_this : os_T) (o_this_panel : os_T) (out : Int32) (hf : ff_X12_supportVolume N o_this o_this_panel = some out) : mc_C l D kA yX12_supportVolume wsX12_supportVolume ({ frames := 5, cells := 0, slots := 0, locals := 117 } : Room) [.ref ((g 0) 0)] (ce_X12 kA g o_this ++ (ce_X5 kA (g 1) o_this_panel)) (some (.int out)) (ce_X12 kA g o_this ++ (ce_X5 kA (g 1) o_this_panel)) := by
  refine mc_of (cc := cX12_supportVolume) (maxL := 1) (ret := (some .int)) (by decide) rfl (Nat.le_of_ble_eq_true rfl) ?_
  intro p e s m below meth c A B hD hP hS ls hl
  obtain ⟨hx, hb, hr, hlk, hml, hown, hts, hK, hA, hnm⟩ := B
  have hown : s.vm.findClass RX12 = some m.cls := hown
  have hl : lv_has ls 1 [(0, .ref ((g 0) 0))] := hl
  have hUX12 : ∀ w ∈ u_ws RX12 TX12 15, w.before [.ref ((g 0) 0)].toArray s = true := fun w h => hts w (List.mem_cons_of_mem _ (List.mem_append_left _ (List.mem_append_right _ h)))
  unfold ff_X12_supportVolume at hf
  refine lv_aload_n hx hb dX12_supportVolume_0 rfl (lv_at hl 0 rfl) ?_
  refine va_get (D := D) (ci := 8) (v := .ref ((g 1) 0)) (C := RX12) (T := TX12) (N := 15) hx hb hUX12 (fun _ h9 => h9) hown hK hP 0 rfl rfl 0 (by decide) (hts (Cond.fieldLink RX12 12 "ReliefBuilder" "panel" "LReliefBuilder$Panel;") (List.mem_of_getElem? (i := 1) rfl)) (fun _ h9 => h9) rfl dX12_supportVolume_1 ?_
  obtain ⟨u_1, he_2, hf⟩ := os_bd hf
  refine mc_callS ⟨hx, hb, hml, hown, hts⟩ (mm_X9_sumOfLengths l D kA N (g 1) o_this_panel u_1 he_2) (va_cwS 1 hts gX12_supportVolume_X9_sumOfLengths rfl rfl rfl (by decide +kernel) ⟨Nat.le_of_ble_eq_true rfl, Nat.le_of_ble_eq_true rfl⟩) (wc := (ce_X5 kA (g 1) o_this_panel)) rfl hl.1 (As := [.ref ((g 1) 0)]) (rest := []) rfl (Nat.le_of_ble_eq_true rfl) dX12_supportVolume_4 ⟨Nat.le_of_ble_eq_true rfl, Nat.le_of_ble_eq_true rfl⟩ hK hP hD hS hA [4, 5, 6, 7] [0, 1, 2, 3] [0, 1, 2, 3, 4, 5, 6, 7] rfl (by decide) rfl (by decide) (by decide) rfl (by decide) (wr := (ce_X12 kA g o_this)) (w2 := (ce_X12 kA g o_this ++ (ce_X5 kA (g 1) o_this_panel))) (fun H locs hP hD hS => ?_)
  have hP : va_P D vwCl (ce_X12 kA g o_this ++ (ce_X5 kA (g 1) o_this_panel)) H := hP
  rw [← Option.some.inj hf]
  exact mc_reti hx hb hr hlk hP hK hD hS dX12_supportVolume_7
def ff_X12_ease (N : Nat) (o_this : os_T) (o_this_panel : os_T) (o_this_history : os_T) (o_this_history_panels0 : os_T) (o_this_history_panels1 : os_T) (o_this_history_panels2 : os_T) (o_this_history_panels3 : os_T) (o_this_history_panels4 : os_T) (o_this_history_panels5 : os_T) (o_this_history_panels6 : os_T) : Option (Int32 × os_T × os_T × os_T × os_T × os_T × os_T × os_T × os_T × os_T) :=
  ((ff_X3_open N o_this_history o_this_history_panels0 o_this_history_panels1 o_this_history_panels2 o_this_history_panels3 o_this_history_panels4 o_this_history_panels5 o_this_history_panels6 o_this_panel).bind fun u_1 => ((ff_X9_settle N o_this_panel).bind fun u_3 => ((ff_X3_close N o_this_history u_1.1 u_1.2.1 u_1.2.2.1 u_1.2.2.2.1 u_1.2.2.2.2.1 u_1.2.2.2.2.2.1 u_1.2.2.2.2.2.2 u_3.2).bind fun u_5 => some (u_3.1, u_3.2, u_5, u_1.1, u_1.2.1, u_1.2.2.1, u_1.2.2.2.1, u_1.2.2.2.2.1, u_1.2.2.2.2.2.1, u_1.2.2.2.2.2.2))))
set_option maxHeartbeats 4000000 in
set_option maxRecDepth 100000 in
theorem mm_X12_ease (l : Launch) (D : va_G) (kA : Nat → ClassId) (N : Nat) (g : Nat → Nat → Nat) (o_this : os_T) (o_this_panel : os_T) (o_this_history : os_T) (o_this_history_panels0 : os_T) (o_this_history_panels1 : os_T) (o_this_history_panels2 : os_T) (o_this_history_panels3 : os_T) (o_this_history_panels4 : os_T) (o_this_history_panels5 : os_T) (o_this_history_panels6 : os_T) (out : (Int32 × os_T × os_T × os_T × os_T × os_T × os_T × os_T × os_T × os_T)) (hf : ff_X12_ease N o_this o_this_panel o_this_history o_this_history_panels0 o_this_history_panels1 o_this_history_panels2 o_this_history_panels3 o_this_history_panels4 o_this_history_panels5 o_this_history_panels6 = some out) : mc_C l D kA yX12_ease wsX12_ease ({ frames := 4, cells := 0, slots := 0, locals := 123 } : Room) [.ref ((g 0) 0)] (ce_X12 kA g o_this ++ (ce_X5 kA (g 1) o_this_panel ++ (ce_X3 kA (g 5) (fun k => g (6 + k)) o_this_history ++ (ce_X5 kA (g 6) o_this_history_panels0 ++ (ce_X5 kA (g 7) o_this_history_panels1 ++ (ce_X5 kA (g 8) o_this_history_panels2 ++ (ce_X5 kA (g 9) o_this_history_panels3 ++ (ce_X5 kA (g 10) o_this_history_panels4 ++ (ce_X5 kA (g 11) o_this_history_panels5 ++ (ce_X5 kA (g 12) o_this_history_panels6)))))))))) (some (.int out.1)) (ce_X12 kA g o_this ++ (ce_X5 kA (g 1) out.2.1 ++ (ce_X3 kA (g 5) (fun k => g (6 + k)) out.2.2.1 ++ (ce_X5 kA (g 6) out.2.2.2.1 ++ (ce_X5 kA (g 7) out.2.2.2.2.1 ++ (ce_X5 kA (g 8) out.2.2.2.2.2.1 ++ (ce_X5 kA (g 9) out.2.2.2.2.2.2.1 ++ (ce_X5 kA (g 10) out.2.2.2.2.2.2.2.1 ++ (ce_X5 kA (g 11) out.2.2.2.2.2.2.2.2.1 ++ (ce_X5 kA (g 12) out.2.2.2.2.2.2.2.2.2)))))))))) := by
  refine mc_of (cc := cX12_ease) (maxL := 2) (ret := (some .int)) (by decide) rfl (Nat.le_of_ble_eq_true rfl) ?_
  intro p e s m below meth c A B hD hP hS ls hl
  obtain ⟨hx, hb, hr, hlk, hml, hown, hts, hK, hA, hnm⟩ := B
  have hown : s.vm.findClass RX12 = some m.cls := hown
  have hl : lv_has ls 2 [(0, .ref ((g 0) 0))] := hl
  have hUX12 : ∀ w ∈ u_ws RX12 TX12 15, w.before [.ref ((g 0) 0)].toArray s = true := fun w h => hts w (List.mem_cons_of_mem _ (List.mem_append_left _ (List.mem_append_left _ (List.mem_append_right _ h))))
  unfold ff_X12_ease at hf
  refine lv_aload_n hx hb dX12_ease_0 rfl (lv_at hl 0 rfl) ?_
  refine va_get (D := D) (ci := 8) (v := .ref ((g 5) 0)) (C := RX12) (T := TX12) (N := 15) hx hb hUX12 (fun _ h9 => h9) hown hK hP 0 rfl rfl 4 (by decide) (hts (Cond.fieldLink RX12 30 "ReliefBuilder" "history" "LReliefBuilder$History;") (List.mem_of_getElem? (i := 1) rfl)) (fun _ h9 => h9) rfl dX12_ease_1 ?_
  refine lv_aload_n hx hb dX12_ease_4 rfl (lv_at hl 0 rfl) ?_
  refine va_get (D := D) (ci := 8) (v := .ref ((g 1) 0)) (C := RX12) (T := TX12) (N := 15) hx hb hUX12 (fun _ h9 => h9) hown hK hP 0 rfl rfl 0 (by decide) (hts (Cond.fieldLink RX12 12 "ReliefBuilder" "panel" "LReliefBuilder$Panel;") (List.mem_of_getElem? (i := 2) rfl)) (fun _ h9 => h9) rfl dX12_ease_5 ?_
  obtain ⟨u_1, he_2, hf⟩ := os_bd hf
  refine mc_callV ⟨hx, hb, hml, hown, hts⟩ (mm_X3_open l D kA N (g 5) (fun k => g (6 + k)) (g 1) o_this_history o_this_history_panels0 o_this_history_panels1 o_this_history_panels2 o_this_history_panels3 o_this_history_panels4 o_this_history_panels5 o_this_history_panels6 o_this_panel u_1 he_2) (cwV 1 hts gX12_ease_X3_open rfl rfl rfl (by decide +kernel) ⟨Nat.le_of_ble_eq_true rfl, Nat.le_of_ble_eq_true rfl⟩) (wc := (ce_X3 kA (g 5) (fun k => g (6 + k)) o_this_history ++ (ce_X5 kA (g 6) o_this_history_panels0 ++ (ce_X5 kA (g 7) o_this_history_panels1 ++ (ce_X5 kA (g 8) o_this_history_panels2 ++ (ce_X5 kA (g 9) o_this_history_panels3 ++ (ce_X5 kA (g 10) o_this_history_panels4 ++ (ce_X5 kA (g 11) o_this_history_panels5 ++ (ce_X5 kA (g 12) o_this_history_panels6 ++ (ce_X5 kA (g 1) o_this_panel)))))))))) (ci := 0) (q0 := 0) rfl rfl rfl hl.1 (As := [.ref ((g 1) 0)]) (rest := []) rfl (Nat.le_of_ble_eq_true rfl) dX12_ease_8 ⟨Nat.le_of_ble_eq_true rfl, Nat.le_of_ble_eq_true rfl⟩ hK hP hD hS hA [8, 9, 10, 11, 12, 13, 14, 15, 16, 17, 18, 19, 20, 21, 22, 23, 24, 25, 26, 27, 28, 29, 30, 31, 32, 33, 34, 35, 36, 37, 4, 5, 6, 7] [0, 1, 2, 3] [0, 1, 2, 3, 34, 35, 36, 37, 4, 5, 6, 7, 8, 9, 10, 11, 12, 13, 14, 15, 16, 17, 18, 19, 20, 21, 22, 23, 24, 25, 26, 27, 28, 29, 30, 31, 32, 33] rfl (by decide) rfl (by decide) (by decide) rfl (by decide) (wr := (ce_X12 kA g o_this)) (w2 := (ce_X12 kA g o_this ++ (ce_X5 kA (g 1) o_this_panel ++ (ce_X3 kA (g 5) (fun k => g (6 + k)) o_this_history ++ (ce_X5 kA (g 6) u_1.1 ++ (ce_X5 kA (g 7) u_1.2.1 ++ (ce_X5 kA (g 8) u_1.2.2.1 ++ (ce_X5 kA (g 9) u_1.2.2.2.1 ++ (ce_X5 kA (g 10) u_1.2.2.2.2.1 ++ (ce_X5 kA (g 11) u_1.2.2.2.2.2.1 ++ (ce_X5 kA (g 12) u_1.2.2.2.2.2.2))))))))))) (fun H locs hP hD hS => ?_)
  have hP : va_P D vwCl (ce_X12 kA g o_this ++ (ce_X5 kA (g 1) o_this_panel ++ (ce_X3 kA (g 5) (fun k => g (6 + k)) o_this_history ++ (ce_X5 kA (g 6) u_1.1 ++ (ce_X5 kA (g 7) u_1.2.1 ++ (ce_X5 kA (g 8) u_1.2.2.1 ++ (ce_X5 kA (g 9) u_1.2.2.2.1 ++ (ce_X5 kA (g 10) u_1.2.2.2.2.1 ++ (ce_X5 kA (g 11) u_1.2.2.2.2.2.1 ++ (ce_X5 kA (g 12) u_1.2.2.2.2.2.2)))))))))) H := hP
  refine lv_aload_n hx hb dX12_ease_11 rfl (lv_at hl 0 rfl) ?_
  refine va_get (D := D) (ci := 8) (v := .ref ((g 1) 0)) (C := RX12) (T := TX12) (N := 15) hx hb hUX12 (fun _ h9 => h9) hown hK hP 0 rfl rfl 0 (by decide) (hts (Cond.fieldLink RX12 12 "ReliefBuilder" "panel" "LReliefBuilder$Panel;") (List.mem_of_getElem? (i := 2) rfl)) (fun _ h9 => h9) rfl dX12_ease_12 ?_
  obtain ⟨u_3, he_4, hf⟩ := os_bd hf
  refine mc_callS ⟨hx, hb, hml, hown, hts⟩ (mm_X9_settle l D kA N (g 1) o_this_panel u_3 he_4) (va_cwS 1 hts gX12_ease_X9_settle rfl rfl rfl (by decide +kernel) ⟨Nat.le_of_ble_eq_true rfl, Nat.le_of_ble_eq_true rfl⟩) (wc := (ce_X5 kA (g 1) o_this_panel)) rfl hl.1 (As := [.ref ((g 1) 0)]) (rest := []) rfl (Nat.le_of_ble_eq_true rfl) dX12_ease_15 ⟨Nat.le_of_ble_eq_true rfl, Nat.le_of_ble_eq_true rfl⟩ hK hP hD hS hA [4, 5, 6, 7] [0, 1, 2, 3, 8, 9, 10, 11, 12, 13, 14, 15, 16, 17, 18, 19, 20, 21, 22, 23, 24, 25, 26, 27, 28, 29, 30, 31, 32, 33, 34, 35, 36, 37] [0, 1, 2, 3, 34, 35, 36, 37, 4, 5, 6, 7, 8, 9, 10, 11, 12, 13, 14, 15, 16, 17, 18, 19, 20, 21, 22, 23, 24, 25, 26, 27, 28, 29, 30, 31, 32, 33] rfl (by decide) rfl (by decide) (by decide) rfl (by decide) (wr := (ce_X12 kA g o_this ++ (ce_X3 kA (g 5) (fun k => g (6 + k)) o_this_history ++ (ce_X5 kA (g 6) u_1.1 ++ (ce_X5 kA (g 7) u_1.2.1 ++ (ce_X5 kA (g 8) u_1.2.2.1 ++ (ce_X5 kA (g 9) u_1.2.2.2.1 ++ (ce_X5 kA (g 10) u_1.2.2.2.2.1 ++ (ce_X5 kA (g 11) u_1.2.2.2.2.2.1 ++ (ce_X5 kA (g 12) u_1.2.2.2.2.2.2)))))))))) (w2 := (ce_X12 kA g o_this ++ (ce_X5 kA (g 1) u_3.2 ++ (ce_X3 kA (g 5) (fun k => g (6 + k)) o_this_history ++ (ce_X5 kA (g 6) u_1.1 ++ (ce_X5 kA (g 7) u_1.2.1 ++ (ce_X5 kA (g 8) u_1.2.2.1 ++ (ce_X5 kA (g 9) u_1.2.2.2.1 ++ (ce_X5 kA (g 10) u_1.2.2.2.2.1 ++ (ce_X5 kA (g 11) u_1.2.2.2.2.2.1 ++ (ce_X5 kA (g 12) u_1.2.2.2.2.2.2))))))))))) (fun H locs hP hD hS => ?_)
  have hP : va_P D vwCl (ce_X12 kA g o_this ++ (ce_X5 kA (g 1) u_3.2 ++ (ce_X3 kA (g 5) (fun k => g (6 + k)) o_this_history ++ (ce_X5 kA (g 6) u_1.1 ++ (ce_X5 kA (g 7) u_1.2.1 ++ (ce_X5 kA (g 8) u_1.2.2.1 ++ (ce_X5 kA (g 9) u_1.2.2.2.1 ++ (ce_X5 kA (g 10) u_1.2.2.2.2.1 ++ (ce_X5 kA (g 11) u_1.2.2.2.2.2.1 ++ (ce_X5 kA (g 12) u_1.2.2.2.2.2.2)))))))))) H := hP
  refine lv_istore_n (lv' := [(1, .int u_3.1), (0, .ref ((g 0) 0))]) hx hb dX12_ease_18 rfl hl (by decide) rfl (fun ls hl => ?_)
  refine lv_aload_n hx hb dX12_ease_19 rfl (lv_at hl 1 rfl) ?_
  refine va_get (D := D) (ci := 8) (v := .ref ((g 5) 0)) (C := RX12) (T := TX12) (N := 15) hx hb hUX12 (fun _ h9 => h9) hown hK hP 0 rfl rfl 4 (by decide) (hts (Cond.fieldLink RX12 30 "ReliefBuilder" "history" "LReliefBuilder$History;") (List.mem_of_getElem? (i := 1) rfl)) (fun _ h9 => h9) rfl dX12_ease_20 ?_
  refine lv_aload_n hx hb dX12_ease_23 rfl (lv_at hl 1 rfl) ?_
  refine va_get (D := D) (ci := 8) (v := .ref ((g 1) 0)) (C := RX12) (T := TX12) (N := 15) hx hb hUX12 (fun _ h9 => h9) hown hK hP 0 rfl rfl 0 (by decide) (hts (Cond.fieldLink RX12 12 "ReliefBuilder" "panel" "LReliefBuilder$Panel;") (List.mem_of_getElem? (i := 2) rfl)) (fun _ h9 => h9) rfl dX12_ease_24 ?_
  obtain ⟨u_5, he_6, hf⟩ := os_bd hf
  refine mc_callV ⟨hx, hb, hml, hown, hts⟩ (mm_X3_close l D kA N (g 5) (fun k => g (6 + k)) (g 1) o_this_history u_1.1 u_1.2.1 u_1.2.2.1 u_1.2.2.2.1 u_1.2.2.2.2.1 u_1.2.2.2.2.2.1 u_1.2.2.2.2.2.2 u_3.2 u_5 he_6) (cwV 1 hts gX12_ease_X3_close rfl rfl rfl (by decide +kernel) ⟨Nat.le_of_ble_eq_true rfl, Nat.le_of_ble_eq_true rfl⟩) (wc := (ce_X3 kA (g 5) (fun k => g (6 + k)) o_this_history ++ (ce_X5 kA (g 6) u_1.1 ++ (ce_X5 kA (g 7) u_1.2.1 ++ (ce_X5 kA (g 8) u_1.2.2.1 ++ (ce_X5 kA (g 9) u_1.2.2.2.1 ++ (ce_X5 kA (g 10) u_1.2.2.2.2.1 ++ (ce_X5 kA (g 11) u_1.2.2.2.2.2.1 ++ (ce_X5 kA (g 12) u_1.2.2.2.2.2.2 ++ (ce_X5 kA (g 1) u_3.2)))))))))) (ci := 0) (q0 := 0) rfl rfl rfl hl.1 (As := [.ref ((g 1) 0)]) (rest := []) rfl (Nat.le_of_ble_eq_true rfl) dX12_ease_27 ⟨Nat.le_of_ble_eq_true rfl, Nat.le_of_ble_eq_true rfl⟩ hK hP hD hS hA [8, 9, 10, 11, 12, 13, 14, 15, 16, 17, 18, 19, 20, 21, 22, 23, 24, 25, 26, 27, 28, 29, 30, 31, 32, 33, 34, 35, 36, 37, 4, 5, 6, 7] [0, 1, 2, 3] [0, 1, 2, 3, 34, 35, 36, 37, 4, 5, 6, 7, 8, 9, 10, 11, 12, 13, 14, 15, 16, 17, 18, 19, 20, 21, 22, 23, 24, 25, 26, 27, 28, 29, 30, 31, 32, 33] rfl (by decide) rfl (by decide) (by decide) rfl (by decide) (wr := (ce_X12 kA g o_this)) (w2 := (ce_X12 kA g o_this ++ (ce_X5 kA (g 1) u_3.2 ++ (ce_X3 kA (g 5) (fun k => g (6 + k)) u_5 ++ (ce_X5 kA (g 6) u_1.1 ++ (ce_X5 kA (g 7) u_1.2.1 ++ (ce_X5 kA (g 8) u_1.2.2.1 ++ (ce_X5 kA (g 9) u_1.2.2.2.1 ++ (ce_X5 kA (g 10) u_1.2.2.2.2.1 ++ (ce_X5 kA (g 11) u_1.2.2.2.2.2.1 ++ (ce_X5 kA (g 12) u_1.2.2.2.2.2.2))))))))))) (fun H locs hP hD hS => ?_)
  have hP : va_P D vwCl (ce_X12 kA g o_this ++ (ce_X5 kA (g 1) u_3.2 ++ (ce_X3 kA (g 5) (fun k => g (6 + k)) u_5 ++ (ce_X5 kA (g 6) u_1.1 ++ (ce_X5 kA (g 7) u_1.2.1 ++ (ce_X5 kA (g 8) u_1.2.2.1 ++ (ce_X5 kA (g 9) u_1.2.2.2.1 ++ (ce_X5 kA (g 10) u_1.2.2.2.2.1 ++ (ce_X5 kA (g 11) u_1.2.2.2.2.2.1 ++ (ce_X5 kA (g 12) u_1.2.2.2.2.2.2)))))))))) H := hP
  refine lv_iload_n hx hb dX12_ease_30 rfl (lv_at hl 0 rfl) ?_
  rw [← Option.some.inj hf]
  exact mc_reti hx hb hr hlk hP hK hD hS dX12_ease_31
def ff_X12_safeSlope (N : Nat) (o_this : os_T) (o_this_panel : os_T) : Option Int32 :=
  ((ff_X9_leastSlope N o_this_panel).bind fun u_1 => some u_1)
set_option maxHeartbeats 4000000 in
set_option maxRecDepth 100000 in
theorem mm_X12_safeSlope (l : Launch) (D : va_G) (kA : Nat → ClassId) (N : Nat) (g : Nat → Nat → Nat) (o_this : os_T) (o_this_panel : os_T) (out : Int32) (hf : ff_X12_safeSlope N o_this o_this_panel = some out) : mc_C l D kA yX12_safeSlope wsX12_safeSlope ({ frames := 2, cells := 0, slots := 0, locals := 45 } : Room) [.ref ((g 0) 0)] (ce_X12 kA g o_this ++ (ce_X5 kA (g 1) o_this_panel)) (some (.int out)) (ce_X12 kA g o_this ++ (ce_X5 kA (g 1) o_this_panel)) := by
  refine mc_of (cc := cX12_safeSlope) (maxL := 1) (ret := (some .int)) (by decide) rfl (Nat.le_of_ble_eq_true rfl) ?_
  intro p e s m below meth c A B hD hP hS ls hl
  obtain ⟨hx, hb, hr, hlk, hml, hown, hts, hK, hA, hnm⟩ := B
  have hown : s.vm.findClass RX12 = some m.cls := hown
  have hl : lv_has ls 1 [(0, .ref ((g 0) 0))] := hl
  have hUX12 : ∀ w ∈ u_ws RX12 TX12 15, w.before [.ref ((g 0) 0)].toArray s = true := fun w h => hts w (List.mem_cons_of_mem _ (List.mem_append_left _ (List.mem_append_right _ h)))
  unfold ff_X12_safeSlope at hf
  refine lv_aload_n hx hb dX12_safeSlope_0 rfl (lv_at hl 0 rfl) ?_
  refine va_get (D := D) (ci := 8) (v := .ref ((g 1) 0)) (C := RX12) (T := TX12) (N := 15) hx hb hUX12 (fun _ h9 => h9) hown hK hP 0 rfl rfl 0 (by decide) (hts (Cond.fieldLink RX12 12 "ReliefBuilder" "panel" "LReliefBuilder$Panel;") (List.mem_of_getElem? (i := 1) rfl)) (fun _ h9 => h9) rfl dX12_safeSlope_1 ?_
  obtain ⟨u_1, he_2, hf⟩ := os_bd hf
  refine mc_callS ⟨hx, hb, hml, hown, hts⟩ (mm_X9_leastSlope l D kA N (g 1) o_this_panel u_1 he_2) (va_cwS 1 hts gX12_safeSlope_X9_leastSlope rfl rfl rfl (by decide +kernel) ⟨Nat.le_of_ble_eq_true rfl, Nat.le_of_ble_eq_true rfl⟩) (wc := (ce_X5 kA (g 1) o_this_panel)) rfl hl.1 (As := [.ref ((g 1) 0)]) (rest := []) rfl (Nat.le_of_ble_eq_true rfl) dX12_safeSlope_4 ⟨Nat.le_of_ble_eq_true rfl, Nat.le_of_ble_eq_true rfl⟩ hK hP hD hS hA [4, 5, 6, 7] [0, 1, 2, 3] [0, 1, 2, 3, 4, 5, 6, 7] rfl (by decide) rfl (by decide) (by decide) rfl (by decide) (wr := (ce_X12 kA g o_this)) (w2 := (ce_X12 kA g o_this ++ (ce_X5 kA (g 1) o_this_panel))) (fun H locs hP hD hS => ?_)
  have hP : va_P D vwCl (ce_X12 kA g o_this ++ (ce_X5 kA (g 1) o_this_panel)) H := hP
  rw [← Option.some.inj hf]
  exact mc_reti hx hb hr hlk hP hK hD hS dX12_safeSlope_7
def ff_X12_layerCells (N : Nat) (o_this : os_T) (o_this_panel : os_T) (o_this_layers : os_T) (a1 : Int32) : Option (Nat × Int32) :=
  ((ff_X12_checkLayer N o_this o_this_panel a1).bind fun u_1 => (if u_1 = 0 then ((ff_X4_countOfCells N o_this_layers o_this_panel a1).bind fun u_3 => some (0, u_3)) else some (u_1, (0 : Int32))))
set_option maxHeartbeats 4000000 in
set_option maxRecDepth 100000 in
theorem mm_X12_layerCells (l : Launch) (hst : l.stackTraces = false) (zz : Nat → Nat → Nat) (D : va_G) (kA : Nat → ClassId) (N : Nat) (g : Nat → Nat → Nat) (o_this : os_T) (o_this_panel : os_T) (o_this_layers : os_T) (a1 : Int32) (out : (Nat × Int32)) (hf : ff_X12_layerCells N o_this o_this_panel o_this_layers a1 = some out) : mx_C l zz D kA yX12_layerCells wsX12_layerCells ({ frames := 7, cells := 1, slots := 6, locals := 111 } : Room) [.ref ((g 0) 0), .int a1] (ce_X12 kA g o_this ++ (ce_X5 kA (g 1) o_this_panel ++ (ce_X4 kA (g 14) (g 1) o_this_layers))) out.1 (some (.int out.2)) (ce_X12 kA g o_this ++ (ce_X5 kA (g 1) o_this_panel ++ (ce_X4 kA (g 14) (g 1) o_this_layers))) := by
  refine mx_of (cc := cX12_layerCells) (maxL := 2) (ret := (some .int)) (by decide) rfl (Nat.le_of_ble_eq_true rfl) ?_
  intro p e s m below meth c A B hx0 hZ hD hP hS ls hl
  obtain ⟨hx, hb, hr, hlk, hml, hown, hts, hK, hA, hnm⟩ := B
  have hown : s.vm.findClass RX12 = some m.cls := hown
  have hl : lv_has ls 2 [(0, .ref ((g 0) 0)), (1, .int a1)] := hl
  have hUX12 : ∀ w ∈ u_ws RX12 TX12 15, w.before [.ref ((g 0) 0), .int a1].toArray s = true := fun w h => hts w (List.mem_cons_of_mem _ (List.mem_append_left _ (List.mem_append_left _ (List.mem_append_left _ (List.mem_append_right _ h)))))
  unfold ff_X12_layerCells at hf
  refine lv_aload_n hx hb dX12_layerCells_0 rfl (lv_at hl 0 rfl) ?_
  refine lv_iload_n hx hb dX12_layerCells_1 rfl (lv_at hl 1 rfl) ?_
  obtain ⟨u_1, he_2, hf⟩ := os_bd hf
  refine mx_callV ⟨hx, hb, hml, hown, hts⟩ (mm_X12_checkLayer l hst zz D kA N g o_this o_this_panel a1 u_1 he_2) (cwV 1 hts gX12_layerCells_X12_checkLayer rfl rfl rfl (by decide +kernel) ⟨Nat.le_of_ble_eq_true rfl, Nat.le_of_ble_eq_true rfl⟩) (wc := (ce_X12 kA g o_this ++ (ce_X5 kA (g 1) o_this_panel))) (ci := 8) (q0 := 0) rfl rfl rfl hl.1 (As := [.int a1]) (rest := []) rfl (Nat.le_of_ble_eq_true rfl) dX12_layerCells_2 ⟨Nat.le_of_ble_eq_true rfl, Nat.le_of_ble_eq_true rfl⟩ hK hP hD hS hA hZ [0, 1, 2, 3, 4, 5, 6, 7] [8, 9, 10] [3, 4, 5, 6, 7, 8, 9, 10, 0, 1, 2] rfl (by decide) rfl (by decide) (by decide) rfl (by decide) (wr := (ce_X4 kA (g 14) (g 1) o_this_layers)) (w2 := (ce_X12 kA g o_this ++ (ce_X5 kA (g 1) o_this_panel ++ (ce_X4 kA (g 14) (g 1) o_this_layers)))) (fun hx9 H locs q9 ce hP hD hS h91 h92 h93 => ?_) (fun hx9 H locs hP hD hS => ?_)
  · rw [if_neg hx9] at hf
    rw [← Option.some.inj hf]
    exact mx_out hx9 hx0 hlk hP hK hD hS h91 h92 h93 (Nat.le_of_ble_eq_true rfl) (Nat.le_of_ble_eq_true rfl)
  · rw [if_pos hx9] at hf
    refine W.widen (k := 1) (n := 6) (Nat.le_of_ble_eq_true rfl) (Nat.le_of_ble_eq_true rfl) ?_
    have hP : va_P D vwCl (ce_X12 kA g o_this ++ (ce_X5 kA (g 1) o_this_panel ++ (ce_X4 kA (g 14) (g 1) o_this_layers))) H := hP
    refine lv_aload_n hx hb dX12_layerCells_5 rfl (lv_at hl 0 rfl) ?_
    refine va_get (D := D) (ci := 8) (v := .ref ((g 14) 0)) (C := RX12) (T := TX12) (N := 15) hx hb hUX12 (fun _ h9 => h9) hown hK hP 0 rfl rfl 6 (by decide) (hts (Cond.fieldLink RX12 46 "ReliefBuilder" "layers" "LReliefBuilder$Layers;") (List.mem_of_getElem? (i := 1) rfl)) (fun _ h9 => h9) rfl dX12_layerCells_6 ?_
    refine lv_iload_n hx hb dX12_layerCells_9 rfl (lv_at hl 1 rfl) ?_
    obtain ⟨u_3, he_4, hf⟩ := os_bd hf
    refine mc_callV ⟨hx, hb, hml, hown, hts⟩ (mm_X4_countOfCells l D kA N (g 14) (g 1) o_this_layers o_this_panel a1 u_3 he_4) (cwV 1 hts gX12_layerCells_X4_countOfCells rfl rfl rfl (by decide +kernel) ⟨Nat.le_of_ble_eq_true rfl, Nat.le_of_ble_eq_true rfl⟩) (wc := (ce_X4 kA (g 14) (g 1) o_this_layers ++ (ce_X5 kA (g 1) o_this_panel))) (ci := 1) (q0 := 0) rfl rfl rfl hl.1 (As := [.int a1]) (rest := []) rfl (Nat.le_of_ble_eq_true rfl) dX12_layerCells_10 ⟨Nat.le_of_ble_eq_true rfl, Nat.le_of_ble_eq_true rfl⟩ hK hP hD hS hA [8, 9, 10, 4, 5, 6, 7] [0, 1, 2, 3] [0, 1, 2, 3, 7, 8, 9, 10, 4, 5, 6] rfl (by decide) rfl (by decide) (by decide) rfl (by decide) (wr := (ce_X12 kA g o_this)) (w2 := (ce_X12 kA g o_this ++ (ce_X5 kA (g 1) o_this_panel ++ (ce_X4 kA (g 14) (g 1) o_this_layers)))) (fun H locs hP hD hS => ?_)
    have hP : va_P D vwCl (ce_X12 kA g o_this ++ (ce_X5 kA (g 1) o_this_panel ++ (ce_X4 kA (g 14) (g 1) o_this_layers))) H := hP
    rw [← Option.some.inj hf]
    exact mx_reti (Nat.le_of_ble_eq_true rfl) (Nat.le_of_ble_eq_true rfl) hx hb hr hlk hP hK hD hS dX12_layerCells_13
def ff_X12_runs (N : Nat) (o_this : os_T) (o_this_panel : os_T) (o_this_layers : os_T) (a1 : Int32) : Option (Nat × Int32) :=
  ((ff_X12_checkLayer N o_this o_this_panel a1).bind fun u_1 => (if u_1 = 0 then ((ff_X4_countOfRuns N o_this_layers o_this_panel a1).bind fun u_3 => some (0, u_3)) else some (u_1, (0 : Int32))))
set_option maxHeartbeats 4000000 in
set_option maxRecDepth 100000 in
theorem mm_X12_runs (l : Launch) (hst : l.stackTraces = false) (zz : Nat → Nat → Nat) (D : va_G) (kA : Nat → ClassId) (N : Nat) (g : Nat → Nat → Nat) (o_this : os_T) (o_this_panel : os_T) (o_this_layers : os_T) (a1 : Int32) (out : (Nat × Int32)) (hf : ff_X12_runs N o_this o_this_panel o_this_layers a1 = some out) : mx_C l zz D kA yX12_runs wsX12_runs ({ frames := 7, cells := 1, slots := 6, locals := 111 } : Room) [.ref ((g 0) 0), .int a1] (ce_X12 kA g o_this ++ (ce_X5 kA (g 1) o_this_panel ++ (ce_X4 kA (g 14) (g 1) o_this_layers))) out.1 (some (.int out.2)) (ce_X12 kA g o_this ++ (ce_X5 kA (g 1) o_this_panel ++ (ce_X4 kA (g 14) (g 1) o_this_layers))) := by
  refine mx_of (cc := cX12_runs) (maxL := 2) (ret := (some .int)) (by decide) rfl (Nat.le_of_ble_eq_true rfl) ?_
  intro p e s m below meth c A B hx0 hZ hD hP hS ls hl
  obtain ⟨hx, hb, hr, hlk, hml, hown, hts, hK, hA, hnm⟩ := B
  have hown : s.vm.findClass RX12 = some m.cls := hown
  have hl : lv_has ls 2 [(0, .ref ((g 0) 0)), (1, .int a1)] := hl
  have hUX12 : ∀ w ∈ u_ws RX12 TX12 15, w.before [.ref ((g 0) 0), .int a1].toArray s = true := fun w h => hts w (List.mem_cons_of_mem _ (List.mem_append_left _ (List.mem_append_left _ (List.mem_append_left _ (List.mem_append_right _ h)))))
  unfold ff_X12_runs at hf
  refine lv_aload_n hx hb dX12_runs_0 rfl (lv_at hl 0 rfl) ?_
  refine lv_iload_n hx hb dX12_runs_1 rfl (lv_at hl 1 rfl) ?_
  obtain ⟨u_1, he_2, hf⟩ := os_bd hf
  refine mx_callV ⟨hx, hb, hml, hown, hts⟩ (mm_X12_checkLayer l hst zz D kA N g o_this o_this_panel a1 u_1 he_2) (cwV 1 hts gX12_runs_X12_checkLayer rfl rfl rfl (by decide +kernel) ⟨Nat.le_of_ble_eq_true rfl, Nat.le_of_ble_eq_true rfl⟩) (wc := (ce_X12 kA g o_this ++ (ce_X5 kA (g 1) o_this_panel))) (ci := 8) (q0 := 0) rfl rfl rfl hl.1 (As := [.int a1]) (rest := []) rfl (Nat.le_of_ble_eq_true rfl) dX12_runs_2 ⟨Nat.le_of_ble_eq_true rfl, Nat.le_of_ble_eq_true rfl⟩ hK hP hD hS hA hZ [0, 1, 2, 3, 4, 5, 6, 7] [8, 9, 10] [3, 4, 5, 6, 7, 8, 9, 10, 0, 1, 2] rfl (by decide) rfl (by decide) (by decide) rfl (by decide) (wr := (ce_X4 kA (g 14) (g 1) o_this_layers)) (w2 := (ce_X12 kA g o_this ++ (ce_X5 kA (g 1) o_this_panel ++ (ce_X4 kA (g 14) (g 1) o_this_layers)))) (fun hx9 H locs q9 ce hP hD hS h91 h92 h93 => ?_) (fun hx9 H locs hP hD hS => ?_)
  · rw [if_neg hx9] at hf
    rw [← Option.some.inj hf]
    exact mx_out hx9 hx0 hlk hP hK hD hS h91 h92 h93 (Nat.le_of_ble_eq_true rfl) (Nat.le_of_ble_eq_true rfl)
  · rw [if_pos hx9] at hf
    refine W.widen (k := 1) (n := 6) (Nat.le_of_ble_eq_true rfl) (Nat.le_of_ble_eq_true rfl) ?_
    have hP : va_P D vwCl (ce_X12 kA g o_this ++ (ce_X5 kA (g 1) o_this_panel ++ (ce_X4 kA (g 14) (g 1) o_this_layers))) H := hP
    refine lv_aload_n hx hb dX12_runs_5 rfl (lv_at hl 0 rfl) ?_
    refine va_get (D := D) (ci := 8) (v := .ref ((g 14) 0)) (C := RX12) (T := TX12) (N := 15) hx hb hUX12 (fun _ h9 => h9) hown hK hP 0 rfl rfl 6 (by decide) (hts (Cond.fieldLink RX12 46 "ReliefBuilder" "layers" "LReliefBuilder$Layers;") (List.mem_of_getElem? (i := 1) rfl)) (fun _ h9 => h9) rfl dX12_runs_6 ?_
    refine lv_iload_n hx hb dX12_runs_9 rfl (lv_at hl 1 rfl) ?_
    obtain ⟨u_3, he_4, hf⟩ := os_bd hf
    refine mc_callV ⟨hx, hb, hml, hown, hts⟩ (mm_X4_countOfRuns l D kA N (g 14) (g 1) o_this_layers o_this_panel a1 u_3 he_4) (cwV 1 hts gX12_runs_X4_countOfRuns rfl rfl rfl (by decide +kernel) ⟨Nat.le_of_ble_eq_true rfl, Nat.le_of_ble_eq_true rfl⟩) (wc := (ce_X4 kA (g 14) (g 1) o_this_layers ++ (ce_X5 kA (g 1) o_this_panel))) (ci := 1) (q0 := 0) rfl rfl rfl hl.1 (As := [.int a1]) (rest := []) rfl (Nat.le_of_ble_eq_true rfl) dX12_runs_10 ⟨Nat.le_of_ble_eq_true rfl, Nat.le_of_ble_eq_true rfl⟩ hK hP hD hS hA [8, 9, 10, 4, 5, 6, 7] [0, 1, 2, 3] [0, 1, 2, 3, 7, 8, 9, 10, 4, 5, 6] rfl (by decide) rfl (by decide) (by decide) rfl (by decide) (wr := (ce_X12 kA g o_this)) (w2 := (ce_X12 kA g o_this ++ (ce_X5 kA (g 1) o_this_panel ++ (ce_X4 kA (g 14) (g 1) o_this_layers)))) (fun H locs hP hD hS => ?_)
    have hP : va_P D vwCl (ce_X12 kA g o_this ++ (ce_X5 kA (g 1) o_this_panel ++ (ce_X4 kA (g 14) (g 1) o_this_layers))) H := hP
    rw [← Option.some.inj hf]
    exact mx_reti (Nat.le_of_ble_eq_true rfl) (Nat.le_of_ble_eq_true rfl) hx hb hr hlk hP hK hD hS dX12_runs_13
def ff_X12_rectangles (N : Nat) (o_this : os_T) (o_this_panel : os_T) (o_this_layers : os_T) (a1 : Int32) : Option (Nat × Int32) :=
  ((ff_X12_checkLayer N o_this o_this_panel a1).bind fun u_1 => (if u_1 = 0 then ((ff_X4_countOfBlocks N o_this_layers o_this_panel a1).bind fun u_3 => some (0, u_3)) else some (u_1, (0 : Int32))))
set_option maxHeartbeats 4000000 in
set_option maxRecDepth 100000 in
theorem mm_X12_rectangles (l : Launch) (hst : l.stackTraces = false) (zz : Nat → Nat → Nat) (D : va_G) (kA : Nat → ClassId) (N : Nat) (g : Nat → Nat → Nat) (o_this : os_T) (o_this_panel : os_T) (o_this_layers : os_T) (a1 : Int32) (out : (Nat × Int32)) (hf : ff_X12_rectangles N o_this o_this_panel o_this_layers a1 = some out) : mx_C l zz D kA yX12_rectangles wsX12_rectangles ({ frames := 7, cells := 1, slots := 6, locals := 143 } : Room) [.ref ((g 0) 0), .int a1] (ce_X12 kA g o_this ++ (ce_X5 kA (g 1) o_this_panel ++ (ce_X4 kA (g 14) (g 1) o_this_layers))) out.1 (some (.int out.2)) (ce_X12 kA g o_this ++ (ce_X5 kA (g 1) o_this_panel ++ (ce_X4 kA (g 14) (g 1) o_this_layers))) := by
  refine mx_of (cc := cX12_rectangles) (maxL := 2) (ret := (some .int)) (by decide) rfl (Nat.le_of_ble_eq_true rfl) ?_
  intro p e s m below meth c A B hx0 hZ hD hP hS ls hl
  obtain ⟨hx, hb, hr, hlk, hml, hown, hts, hK, hA, hnm⟩ := B
  have hown : s.vm.findClass RX12 = some m.cls := hown
  have hl : lv_has ls 2 [(0, .ref ((g 0) 0)), (1, .int a1)] := hl
  have hUX12 : ∀ w ∈ u_ws RX12 TX12 15, w.before [.ref ((g 0) 0), .int a1].toArray s = true := fun w h => hts w (List.mem_cons_of_mem _ (List.mem_append_left _ (List.mem_append_left _ (List.mem_append_left _ (List.mem_append_right _ h)))))
  unfold ff_X12_rectangles at hf
  refine lv_aload_n hx hb dX12_rectangles_0 rfl (lv_at hl 0 rfl) ?_
  refine lv_iload_n hx hb dX12_rectangles_1 rfl (lv_at hl 1 rfl) ?_
  obtain ⟨u_1, he_2, hf⟩ := os_bd hf
  refine mx_callV ⟨hx, hb, hml, hown, hts⟩ (mm_X12_checkLayer l hst zz D kA N g o_this o_this_panel a1 u_1 he_2) (cwV 1 hts gX12_rectangles_X12_checkLayer rfl rfl rfl (by decide +kernel) ⟨Nat.le_of_ble_eq_true rfl, Nat.le_of_ble_eq_true rfl⟩) (wc := (ce_X12 kA g o_this ++ (ce_X5 kA (g 1) o_this_panel))) (ci := 8) (q0 := 0) rfl rfl rfl hl.1 (As := [.int a1]) (rest := []) rfl (Nat.le_of_ble_eq_true rfl) dX12_rectangles_2 ⟨Nat.le_of_ble_eq_true rfl, Nat.le_of_ble_eq_true rfl⟩ hK hP hD hS hA hZ [0, 1, 2, 3, 4, 5, 6, 7] [8, 9, 10] [3, 4, 5, 6, 7, 8, 9, 10, 0, 1, 2] rfl (by decide) rfl (by decide) (by decide) rfl (by decide) (wr := (ce_X4 kA (g 14) (g 1) o_this_layers)) (w2 := (ce_X12 kA g o_this ++ (ce_X5 kA (g 1) o_this_panel ++ (ce_X4 kA (g 14) (g 1) o_this_layers)))) (fun hx9 H locs q9 ce hP hD hS h91 h92 h93 => ?_) (fun hx9 H locs hP hD hS => ?_)
  · rw [if_neg hx9] at hf
    rw [← Option.some.inj hf]
    exact mx_out hx9 hx0 hlk hP hK hD hS h91 h92 h93 (Nat.le_of_ble_eq_true rfl) (Nat.le_of_ble_eq_true rfl)
  · rw [if_pos hx9] at hf
    refine W.widen (k := 1) (n := 6) (Nat.le_of_ble_eq_true rfl) (Nat.le_of_ble_eq_true rfl) ?_
    have hP : va_P D vwCl (ce_X12 kA g o_this ++ (ce_X5 kA (g 1) o_this_panel ++ (ce_X4 kA (g 14) (g 1) o_this_layers))) H := hP
    refine lv_aload_n hx hb dX12_rectangles_5 rfl (lv_at hl 0 rfl) ?_
    refine va_get (D := D) (ci := 8) (v := .ref ((g 14) 0)) (C := RX12) (T := TX12) (N := 15) hx hb hUX12 (fun _ h9 => h9) hown hK hP 0 rfl rfl 6 (by decide) (hts (Cond.fieldLink RX12 46 "ReliefBuilder" "layers" "LReliefBuilder$Layers;") (List.mem_of_getElem? (i := 1) rfl)) (fun _ h9 => h9) rfl dX12_rectangles_6 ?_
    refine lv_iload_n hx hb dX12_rectangles_9 rfl (lv_at hl 1 rfl) ?_
    obtain ⟨u_3, he_4, hf⟩ := os_bd hf
    refine mc_callV ⟨hx, hb, hml, hown, hts⟩ (mm_X4_countOfBlocks l D kA N (g 14) (g 1) o_this_layers o_this_panel a1 u_3 he_4) (cwV 1 hts gX12_rectangles_X4_countOfBlocks rfl rfl rfl (by decide +kernel) ⟨Nat.le_of_ble_eq_true rfl, Nat.le_of_ble_eq_true rfl⟩) (wc := (ce_X4 kA (g 14) (g 1) o_this_layers ++ (ce_X5 kA (g 1) o_this_panel))) (ci := 1) (q0 := 0) rfl rfl rfl hl.1 (As := [.int a1]) (rest := []) rfl (Nat.le_of_ble_eq_true rfl) dX12_rectangles_10 ⟨Nat.le_of_ble_eq_true rfl, Nat.le_of_ble_eq_true rfl⟩ hK hP hD hS hA [8, 9, 10, 4, 5, 6, 7] [0, 1, 2, 3] [0, 1, 2, 3, 7, 8, 9, 10, 4, 5, 6] rfl (by decide) rfl (by decide) (by decide) rfl (by decide) (wr := (ce_X12 kA g o_this)) (w2 := (ce_X12 kA g o_this ++ (ce_X5 kA (g 1) o_this_panel ++ (ce_X4 kA (g 14) (g 1) o_this_layers)))) (fun H locs hP hD hS => ?_)
    have hP : va_P D vwCl (ce_X12 kA g o_this ++ (ce_X5 kA (g 1) o_this_panel ++ (ce_X4 kA (g 14) (g 1) o_this_layers))) H := hP
    rw [← Option.some.inj hf]
    exact mx_reti (Nat.le_of_ble_eq_true rfl) (Nat.le_of_ble_eq_true rfl) hx hb hr hlk hP hK hD hS dX12_rectangles_13
def ff_X12_rectangle_b14 (N : Nat) (o_this : os_T) (o_this_panel : os_T) (o_this_layers : os_T) : Option (Nat × Int32) :=
  some (2, (0 : Int32))
def ff_X12_rectangle (N : Nat) (o_this : os_T) (o_this_panel : os_T) (o_this_layers : os_T) (a1 : Int32) (a2 : Int32) (a3 : Int32) : Option (Nat × Int32) :=
  ((ff_X12_checkLayer N o_this o_this_panel a1).bind fun u_1 => (if u_1 = 0 then (if a3 < 0 then ff_X12_rectangle_b14 N o_this o_this_panel o_this_layers else (if a3 ≤ (3 : Int32) then ((ff_X4_cornerOf N o_this_layers o_this_panel a1 a2).bind fun u_5 => (if u_5 = (-1 : Int32) then some (3, (0 : Int32)) else ((ff_X4_sizeOf N o_this_layers o_this_panel a1 u_5 a3).bind fun u_8 => some (0, u_8)))) else ff_X12_rectangle_b14 N o_this o_this_panel o_this_layers)) else some (u_1, (0 : Int32))))
set_option maxHeartbeats 4000000 in
set_option maxRecDepth 100000 in
theorem mm_X12_rectangle (l : Launch) (hst : l.stackTraces = false) (zz : Nat → Nat → Nat) (D : va_G) (kA : Nat → ClassId) (N : Nat) (g : Nat → Nat → Nat) (o_this : os_T) (o_this_panel : os_T) (o_this_layers : os_T) (a1 : Int32) (a2 : Int32) (a3 : Int32) (out : (Nat × Int32)) (hf : ff_X12_rectangle N o_this o_this_panel o_this_layers a1 a2 a3 = some out) : mx_C l zz D kA yX12_rectangle wsX12_rectangle ({ frames := 7, cells := 2, slots := 12, locals := 123 } : Room) [.ref ((g 0) 0), .int a1, .int a2, .int a3] (ce_X12 kA g o_this ++ (ce_X5 kA (g 1) o_this_panel ++ (ce_X4 kA (g 14) (g 1) o_this_layers))) out.1 (some (.int out.2)) (ce_X12 kA g o_this ++ (ce_X5 kA (g 1) o_this_panel ++ (ce_X4 kA (g 14) (g 1) o_this_layers))) := by
  refine mx_of (cc := cX12_rectangle) (maxL := 5) (ret := (some .int)) (by decide) rfl (Nat.le_of_ble_eq_true rfl) ?_
  intro p e s m below meth c A B hx0 hZ hD hP hS ls hl
  obtain ⟨hx, hb, hr, hlk, hml, hown, hts, hK, hA, hnm⟩ := B
  have hown : s.vm.findClass RX12 = some m.cls := hown
  have hl : lv_has ls 5 [(0, .ref ((g 0) 0)), (1, .int a1), (2, .int a2), (3, .int a3)] := hl
  have hUX12 : ∀ w ∈ u_ws RX12 TX12 15, w.before [.ref ((g 0) 0), .int a1, .int a2, .int a3].toArray s = true := fun w h => hts w (List.mem_cons_of_mem _ (List.mem_append_left _ (List.mem_append_left _ (List.mem_append_left _ (List.mem_append_left _ (List.mem_append_right _ h))))))
  have hB14 : ∀ (H : Heap) (locs : List Loc) (ls : Array Slot), va_P D vwCl (ce_X12 kA g o_this ++ (ce_X5 kA (g 1) o_this_panel ++ (ce_X4 kA (g 14) (g 1) o_this_layers))) H → va_D A (ce_X12 kA g o_this ++ (ce_X5 kA (g 1) o_this_panel ++ (ce_X4 kA (g 14) (g 1) o_this_layers))) → va_S A s.heap H locs → lv_has ls 5 [] → ff_X12_rectangle_b14 N o_this o_this_panel o_this_layers = some out → W p l e ({ frames := 7, cells := 2, slots := 12, locals := 123 } : Room) s m [.ref ((g 0) 0), .int a1, .int a2, .int a3].toArray below meth c H locs 1 6 (vx_MQ below (mx_Q D kA A out.1 (some (.int out.2)) (ce_X12 kA g o_this ++ (ce_X5 kA (g 1) o_this_panel ++ (ce_X4 kA (g 14) (g 1) o_this_layers)))) (mx_X D kA A out.1 (ce_X12 kA g o_this ++ (ce_X5 kA (g 1) o_this_panel ++ (ce_X4 kA (g 14) (g 1) o_this_layers)))) [.ref ((g 0) 0), .int a1, .int a2, .int a3].toArray s 2 12 A) (F0 m 14 ls []) := by
    intro H locs ls hP hD hS hl hf
    unfold ff_X12_rectangle_b14 at hf
    rw [← Option.some.inj hf]
    exact mx_throw (xc := 2) (own := RX12) (ik := 104) (ic := 106) (by decide) hx hb hst hown (by decide +kernel) (hts (Cond.classLink RX12 104 "java/lang/IllegalArgumentException") (List.mem_of_getElem? (i := 1) rfl)) (hts (Cond.initialized "java/lang/IllegalArgumentException") (List.mem_of_getElem? (i := 2) rfl)) (vx_hat (L := vx_at0 RX12 106 "java/lang/IllegalArgumentException" ["java/lang/RuntimeException", "java/lang/Exception"]) (B := [.declares ⟨"java/lang/RuntimeException", "<init>", "()V"⟩, .declares ⟨"java/lang/Exception", "<init>", "()V"⟩, .declares ⟨"java/lang/Throwable", "<init>", "()V"⟩, .castable "java/lang/IllegalArgumentException" "java/lang/IllegalArgumentException"]) (fun w h => hts w (List.mem_cons_of_mem _ (List.mem_append_left _ (List.mem_append_right _ h)))) (by decide +kernel) (st_bad (xc := 2) hZ.2.2.1.2.2)) (by decide +kernel) hZ hS (hl.1.trans hml.symm) hP hK hD dX12_rectangle_14 dX12_rectangle_17 dX12_rectangle_18 dX12_rectangle_21 hx0 (Nat.le_of_ble_eq_true rfl) (Nat.le_of_ble_eq_true rfl) (Nat.le_of_ble_eq_true rfl) (Nat.le_of_ble_eq_true rfl) hlk (Nat.le_of_ble_eq_true rfl) (Nat.le_of_ble_eq_true rfl)
  unfold ff_X12_rectangle at hf
  refine lv_aload_n hx hb dX12_rectangle_0 rfl (lv_at hl 0 rfl) ?_
  refine lv_iload_n hx hb dX12_rectangle_1 rfl (lv_at hl 1 rfl) ?_
  obtain ⟨u_1, he_2, hf⟩ := os_bd hf
  refine mx_callV ⟨hx, hb, hml, hown, hts⟩ (mm_X12_checkLayer l hst zz D kA N g o_this o_this_panel a1 u_1 he_2) (cwV 1 hts gX12_rectangle_X12_checkLayer rfl rfl rfl (by decide +kernel) ⟨Nat.le_of_ble_eq_true rfl, Nat.le_of_ble_eq_true rfl⟩) (wc := (ce_X12 kA g o_this ++ (ce_X5 kA (g 1) o_this_panel))) (ci := 8) (q0 := 0) rfl rfl rfl hl.1 (As := [.int a1]) (rest := []) rfl (Nat.le_of_ble_eq_true rfl) dX12_rectangle_2 ⟨Nat.le_of_ble_eq_true rfl, Nat.le_of_ble_eq_true rfl⟩ hK hP hD hS hA hZ [0, 1, 2, 3, 4, 5, 6, 7] [8, 9, 10] [3, 4, 5, 6, 7, 8, 9, 10, 0, 1, 2] rfl (by decide) rfl (by decide) (by decide) rfl (by decide) (wr := (ce_X4 kA (g 14) (g 1) o_this_layers)) (w2 := (ce_X12 kA g o_this ++ (ce_X5 kA (g 1) o_this_panel ++ (ce_X4 kA (g 14) (g 1) o_this_layers)))) (fun hx9 H locs q9 ce hP hD hS h91 h92 h93 => ?_) (fun hx9 H locs hP hD hS => ?_)
  · rw [if_neg hx9] at hf
    rw [← Option.some.inj hf]
    exact mx_out hx9 hx0 hlk hP hK hD hS h91 h92 h93 (Nat.le_of_ble_eq_true rfl) (Nat.le_of_ble_eq_true rfl)
  · rw [if_pos hx9] at hf
    refine W.widen (k := 1) (n := 6) (Nat.le_of_ble_eq_true rfl) (Nat.le_of_ble_eq_true rfl) ?_
    have hP : va_P D vwCl (ce_X12 kA g o_this ++ (ce_X5 kA (g 1) o_this_panel ++ (ce_X4 kA (g 14) (g 1) o_this_layers))) H := hP
    refine lv_iload_n hx hb dX12_rectangle_5 rfl (lv_at hl 3 rfl) ?_
    refine lv_if_lt (tgt := 14) hx hb dX12_rectangle_6 (by decide) (fun hc_3 => ?_) (fun hc_3 => ?_)
    · rw [if_pos hc_3] at hf
      exact hB14 _ _ _ hP hD hS (lv_sub hl [] rfl) hf
    · rw [if_neg hc_3] at hf
      refine lv_iload_n hx hb dX12_rectangle_9 rfl (lv_at hl 3 rfl) ?_
      refine lv_iconst (v := 3) hx hb dX12_rectangle_10 (by decide) ?_
      refine lv_icmp_le (tgt := 22) hx hb dX12_rectangle_11 (by decide) (fun hc_4 => ?_) (fun hc_4 => ?_)
      · rw [if_pos hc_4] at hf
        refine lv_aload_n hx hb dX12_rectangle_22 rfl (lv_at hl 0 rfl) ?_
        refine va_get (D := D) (ci := 8) (v := .ref ((g 14) 0)) (C := RX12) (T := TX12) (N := 15) hx hb hUX12 (fun _ h9 => h9) hown hK hP 0 rfl rfl 6 (by decide) (hts (Cond.fieldLink RX12 46 "ReliefBuilder" "layers" "LReliefBuilder$Layers;") (List.mem_of_getElem? (i := 5) rfl)) (fun _ h9 => h9) rfl dX12_rectangle_23 ?_
        refine lv_iload_n hx hb dX12_rectangle_26 rfl (lv_at hl 1 rfl) ?_
        refine lv_iload_n hx hb dX12_rectangle_27 rfl (lv_at hl 2 rfl) ?_
        obtain ⟨u_5, he_6, hf⟩ := os_bd hf
        refine mc_callV ⟨hx, hb, hml, hown, hts⟩ (mm_X4_cornerOf l D kA N (g 14) (g 1) o_this_layers o_this_panel a1 a2 u_5 he_6) (cwV 2 hts gX12_rectangle_X4_cornerOf rfl rfl rfl (by decide +kernel) ⟨Nat.le_of_ble_eq_true rfl, Nat.le_of_ble_eq_true rfl⟩) (wc := (ce_X4 kA (g 14) (g 1) o_this_layers ++ (ce_X5 kA (g 1) o_this_panel))) (ci := 1) (q0 := 0) rfl rfl rfl hl.1 (As := [.int a1, .int a2]) (rest := []) rfl (Nat.le_of_ble_eq_true rfl) dX12_rectangle_28 ⟨Nat.le_of_ble_eq_true rfl, Nat.le_of_ble_eq_true rfl⟩ hK hP hD hS hA [8, 9, 10, 4, 5, 6, 7] [0, 1, 2, 3] [0, 1, 2, 3, 7, 8, 9, 10, 4, 5, 6] rfl (by decide) rfl (by decide) (by decide) rfl (by decide) (wr := (ce_X12 kA g o_this)) (w2 := (ce_X12 kA g o_this ++ (ce_X5 kA (g 1) o_this_panel ++ (ce_X4 kA (g 14) (g 1) o_this_layers)))) (fun H locs hP hD hS => ?_)
        have hP : va_P D vwCl (ce_X12 kA g o_this ++ (ce_X5 kA (g 1) o_this_panel ++ (ce_X4 kA (g 14) (g 1) o_this_layers))) H := hP
        refine lv_istore (lv' := [(4, .int u_5), (0, .ref ((g 0) 0)), (1, .int a1), (2, .int a2), (3, .int a3)]) hx hb dX12_rectangle_31 hl (by decide) rfl (fun ls hl => ?_)
        refine lv_iload hx hb dX12_rectangle_33 (lv_at hl 0 rfl) ?_
        refine lv_iconst (v := (-1)) hx hb dX12_rectangle_35 (by decide) ?_
        refine lv_icmp_ne (tgt := 47) hx hb dX12_rectangle_36 (by decide) (fun hc_7 => ?_) (fun hc_7 => ?_)
        · rw [if_neg hc_7] at hf
          refine lv_aload_n hx hb dX12_rectangle_47 rfl (lv_at hl 1 rfl) ?_
          refine va_get (D := D) (ci := 8) (v := .ref ((g 14) 0)) (C := RX12) (T := TX12) (N := 15) hx hb hUX12 (fun _ h9 => h9) hown hK hP 0 rfl rfl 6 (by decide) (hts (Cond.fieldLink RX12 46 "ReliefBuilder" "layers" "LReliefBuilder$Layers;") (List.mem_of_getElem? (i := 5) rfl)) (fun _ h9 => h9) rfl dX12_rectangle_48 ?_
          refine lv_iload_n hx hb dX12_rectangle_51 rfl (lv_at hl 2 rfl) ?_
          refine lv_iload hx hb dX12_rectangle_52 (lv_at hl 0 rfl) ?_
          refine lv_iload_n hx hb dX12_rectangle_54 rfl (lv_at hl 4 rfl) ?_
          obtain ⟨u_8, he_9, hf⟩ := os_bd hf
          refine mc_callV ⟨hx, hb, hml, hown, hts⟩ (mm_X4_sizeOf l D kA N (g 14) (g 1) o_this_layers o_this_panel a1 u_5 a3 u_8 he_9) (cwV 3 hts gX12_rectangle_X4_sizeOf rfl rfl rfl (by decide +kernel) ⟨Nat.le_of_ble_eq_true rfl, Nat.le_of_ble_eq_true rfl⟩) (wc := (ce_X4 kA (g 14) (g 1) o_this_layers ++ (ce_X5 kA (g 1) o_this_panel))) (ci := 1) (q0 := 0) rfl rfl rfl hl.1 (As := [.int a1, .int u_5, .int a3]) (rest := []) rfl (Nat.le_of_ble_eq_true rfl) dX12_rectangle_55 ⟨Nat.le_of_ble_eq_true rfl, Nat.le_of_ble_eq_true rfl⟩ hK hP hD hS hA [8, 9, 10, 4, 5, 6, 7] [0, 1, 2, 3] [0, 1, 2, 3, 7, 8, 9, 10, 4, 5, 6] rfl (by decide) rfl (by decide) (by decide) rfl (by decide) (wr := (ce_X12 kA g o_this)) (w2 := (ce_X12 kA g o_this ++ (ce_X5 kA (g 1) o_this_panel ++ (ce_X4 kA (g 14) (g 1) o_this_layers)))) (fun H locs hP hD hS => ?_)
          have hP : va_P D vwCl (ce_X12 kA g o_this ++ (ce_X5 kA (g 1) o_this_panel ++ (ce_X4 kA (g 14) (g 1) o_this_layers))) H := hP
          rw [← Option.some.inj hf]
          exact mx_reti (Nat.le_of_ble_eq_true rfl) (Nat.le_of_ble_eq_true rfl) hx hb hr hlk hP hK hD hS dX12_rectangle_58
        · rw [if_pos hc_7] at hf
          rw [← Option.some.inj hf]
          exact mx_throw (xc := 3) (own := RX12) (ik := 290) (ic := 292) (by decide) hx hb hst hown (by decide +kernel) (hts (Cond.classLink RX12 290 "java/lang/IndexOutOfBoundsException") (List.mem_of_getElem? (i := 3) rfl)) (hts (Cond.initialized "java/lang/IndexOutOfBoundsException") (List.mem_of_getElem? (i := 4) rfl)) (vx_hat (L := vx_at0 RX12 292 "java/lang/IndexOutOfBoundsException" ["java/lang/RuntimeException", "java/lang/Exception"]) (B := [.declares ⟨"java/lang/RuntimeException", "<init>", "()V"⟩, .declares ⟨"java/lang/Exception", "<init>", "()V"⟩, .declares ⟨"java/lang/Throwable", "<init>", "()V"⟩, .castable "java/lang/IndexOutOfBoundsException" "java/lang/IndexOutOfBoundsException"]) (fun w h => hts w (List.mem_cons_of_mem _ (List.mem_append_right _ h))) (by decide +kernel) (st_bad (xc := 3) hZ.2.2.1.2.2)) (by decide +kernel) hZ hS (hl.1.trans hml.symm) hP hK hD dX12_rectangle_39 dX12_rectangle_42 dX12_rectangle_43 dX12_rectangle_46 hx0 (Nat.le_of_ble_eq_true rfl) (Nat.le_of_ble_eq_true rfl) (Nat.le_of_ble_eq_true rfl) (Nat.le_of_ble_eq_true rfl) hlk (Nat.le_of_ble_eq_true rfl) (Nat.le_of_ble_eq_true rfl)
      · rw [if_neg hc_4] at hf
        exact hB14 _ _ _ hP hD hS (lv_sub hl [] rfl) hf
def ff_X12_rectangleAt (N : Nat) (o_this : os_T) (o_this_panel : os_T) (o_this_layers : os_T) (a1 : Int32) (a2 : Int32) (a3 : Int32) : Option (Nat × Int32) :=
  ((ff_X12_checkCell N o_this o_this_panel a2 a3).bind fun u_1 => (if u_1 = 0 then ((ff_X12_checkLayer N o_this o_this_panel a1).bind fun u_3 => (if u_3 = 0 then ((ff_X4_blockAt N o_this_layers o_this_panel a1 a2 a3).bind fun u_5 => some (0, u_5)) else some (u_3, (0 : Int32)))) else some (u_1, (0 : Int32))))
set_option maxHeartbeats 4000000 in
set_option maxRecDepth 100000 in
theorem mm_X12_rectangleAt (l : Launch) (hst : l.stackTraces = false) (zz : Nat → Nat → Nat) (D : va_G) (kA : Nat → ClassId) (N : Nat) (g : Nat → Nat → Nat) (o_this : os_T) (o_this_panel : os_T) (o_this_layers : os_T) (a1 : Int32) (a2 : Int32) (a3 : Int32) (out : (Nat × Int32)) (hf : ff_X12_rectangleAt N o_this o_this_panel o_this_layers a1 a2 a3 = some out) : mx_C l zz D kA yX12_rectangleAt wsX12_rectangleAt ({ frames := 7, cells := 2, slots := 12, locals := 149 } : Room) [.ref ((g 0) 0), .int a1, .int a2, .int a3] (ce_X12 kA g o_this ++ (ce_X5 kA (g 1) o_this_panel ++ (ce_X4 kA (g 14) (g 1) o_this_layers))) out.1 (some (.int out.2)) (ce_X12 kA g o_this ++ (ce_X5 kA (g 1) o_this_panel ++ (ce_X4 kA (g 14) (g 1) o_this_layers))) := by
  refine mx_of (cc := cX12_rectangleAt) (maxL := 4) (ret := (some .int)) (by decide) rfl (Nat.le_of_ble_eq_true rfl) ?_
  intro p e s m below meth c A B hx0 hZ hD hP hS ls hl
  obtain ⟨hx, hb, hr, hlk, hml, hown, hts, hK, hA, hnm⟩ := B
  have hown : s.vm.findClass RX12 = some m.cls := hown
  have hl : lv_has ls 4 [(0, .ref ((g 0) 0)), (1, .int a1), (2, .int a2), (3, .int a3)] := hl
  have hUX12 : ∀ w ∈ u_ws RX12 TX12 15, w.before [.ref ((g 0) 0), .int a1, .int a2, .int a3].toArray s = true := fun w h => hts w (List.mem_cons_of_mem _ (List.mem_append_left _ (List.mem_append_left _ (List.mem_append_left _ (List.mem_append_left _ (List.mem_append_right _ h))))))
  unfold ff_X12_rectangleAt at hf
  refine lv_aload_n hx hb dX12_rectangleAt_0 rfl (lv_at hl 0 rfl) ?_
  refine lv_iload_n hx hb dX12_rectangleAt_1 rfl (lv_at hl 2 rfl) ?_
  refine lv_iload_n hx hb dX12_rectangleAt_2 rfl (lv_at hl 3 rfl) ?_
  obtain ⟨u_1, he_2, hf⟩ := os_bd hf
  refine mx_callV ⟨hx, hb, hml, hown, hts⟩ (mm_X12_checkCell l hst zz D kA N g o_this o_this_panel a2 a3 u_1 he_2) (cwV 2 hts gX12_rectangleAt_X12_checkCell rfl rfl rfl (by decide +kernel) ⟨Nat.le_of_ble_eq_true rfl, Nat.le_of_ble_eq_true rfl⟩) (wc := (ce_X12 kA g o_this ++ (ce_X5 kA (g 1) o_this_panel))) (ci := 8) (q0 := 0) rfl rfl rfl hl.1 (As := [.int a2, .int a3]) (rest := []) rfl (Nat.le_of_ble_eq_true rfl) dX12_rectangleAt_3 ⟨Nat.le_of_ble_eq_true rfl, Nat.le_of_ble_eq_true rfl⟩ hK hP hD hS hA hZ [0, 1, 2, 3, 4, 5, 6, 7] [8, 9, 10] [3, 4, 5, 6, 7, 8, 9, 10, 0, 1, 2] rfl (by decide) rfl (by decide) (by decide) rfl (by decide) (wr := (ce_X4 kA (g 14) (g 1) o_this_layers)) (w2 := (ce_X12 kA g o_this ++ (ce_X5 kA (g 1) o_this_panel ++ (ce_X4 kA (g 14) (g 1) o_this_layers)))) (fun hx9 H locs q9 ce hP hD hS h91 h92 h93 => ?_) (fun hx9 H locs hP hD hS => ?_)
  · rw [if_neg hx9] at hf
    rw [← Option.some.inj hf]
    exact mx_out hx9 hx0 hlk hP hK hD hS h91 h92 h93 (Nat.le_of_ble_eq_true rfl) (Nat.le_of_ble_eq_true rfl)
  · rw [if_pos hx9] at hf
    refine W.widen (k := 1) (n := 6) (Nat.le_of_ble_eq_true rfl) (Nat.le_of_ble_eq_true rfl) ?_
    have hP : va_P D vwCl (ce_X12 kA g o_this ++ (ce_X5 kA (g 1) o_this_panel ++ (ce_X4 kA (g 14) (g 1) o_this_layers))) H := hP
    refine lv_aload_n hx hb dX12_rectangleAt_6 rfl (lv_at hl 0 rfl) ?_
    refine lv_iload_n hx hb dX12_rectangleAt_7 rfl (lv_at hl 1 rfl) ?_
    obtain ⟨u_3, he_4, hf⟩ := os_bd hf
    refine mx_callV ⟨hx, hb, hml, hown, hts⟩ (mm_X12_checkLayer l hst zz D kA N g o_this o_this_panel a1 u_3 he_4) (cwV 1 hts gX12_rectangleAt_X12_checkLayer rfl rfl rfl (by decide +kernel) ⟨Nat.le_of_ble_eq_true rfl, Nat.le_of_ble_eq_true rfl⟩) (wc := (ce_X12 kA g o_this ++ (ce_X5 kA (g 1) o_this_panel))) (ci := 8) (q0 := 0) rfl rfl rfl hl.1 (As := [.int a1]) (rest := []) rfl (Nat.le_of_ble_eq_true rfl) dX12_rectangleAt_8 ⟨Nat.le_of_ble_eq_true rfl, Nat.le_of_ble_eq_true rfl⟩ hK hP hD hS hA hZ [0, 1, 2, 3, 4, 5, 6, 7] [8, 9, 10] [3, 4, 5, 6, 7, 8, 9, 10, 0, 1, 2] rfl (by decide) rfl (by decide) (by decide) rfl (by decide) (wr := (ce_X4 kA (g 14) (g 1) o_this_layers)) (w2 := (ce_X12 kA g o_this ++ (ce_X5 kA (g 1) o_this_panel ++ (ce_X4 kA (g 14) (g 1) o_this_layers)))) (fun hx9 H locs q9 ce hP hD hS h91 h92 h93 => ?_) (fun hx9 H locs hP hD hS => ?_)
    · rw [if_neg hx9] at hf
      rw [← Option.some.inj hf]
      exact mx_out hx9 hx0 hlk hP hK hD hS h91 h92 h93 (Nat.le_of_ble_eq_true rfl) (Nat.le_of_ble_eq_true rfl)
    · rw [if_pos hx9] at hf
      refine W.widen (k := 2) (n := 12) (Nat.le_of_ble_eq_true rfl) (Nat.le_of_ble_eq_true rfl) ?_
      have hP : va_P D vwCl (ce_X12 kA g o_this ++ (ce_X5 kA (g 1) o_this_panel ++ (ce_X4 kA (g 14) (g 1) o_this_layers))) H := hP
      refine lv_aload_n hx hb dX12_rectangleAt_11 rfl (lv_at hl 0 rfl) ?_
      refine va_get (D := D) (ci := 8) (v := .ref ((g 14) 0)) (C := RX12) (T := TX12) (N := 15) hx hb hUX12 (fun _ h9 => h9) hown hK hP 0 rfl rfl 6 (by decide) (hts (Cond.fieldLink RX12 46 "ReliefBuilder" "layers" "LReliefBuilder$Layers;") (List.mem_of_getElem? (i := 1) rfl)) (fun _ h9 => h9) rfl dX12_rectangleAt_12 ?_
      refine lv_iload_n hx hb dX12_rectangleAt_15 rfl (lv_at hl 1 rfl) ?_
      refine lv_iload_n hx hb dX12_rectangleAt_16 rfl (lv_at hl 2 rfl) ?_
      refine lv_iload_n hx hb dX12_rectangleAt_17 rfl (lv_at hl 3 rfl) ?_
      obtain ⟨u_5, he_6, hf⟩ := os_bd hf
      refine mc_callV ⟨hx, hb, hml, hown, hts⟩ (mm_X4_blockAt l D kA N (g 14) (g 1) o_this_layers o_this_panel a1 a2 a3 u_5 he_6) (cwV 3 hts gX12_rectangleAt_X4_blockAt rfl rfl rfl (by decide +kernel) ⟨Nat.le_of_ble_eq_true rfl, Nat.le_of_ble_eq_true rfl⟩) (wc := (ce_X4 kA (g 14) (g 1) o_this_layers ++ (ce_X5 kA (g 1) o_this_panel))) (ci := 1) (q0 := 0) rfl rfl rfl hl.1 (As := [.int a1, .int a2, .int a3]) (rest := []) rfl (Nat.le_of_ble_eq_true rfl) dX12_rectangleAt_18 ⟨Nat.le_of_ble_eq_true rfl, Nat.le_of_ble_eq_true rfl⟩ hK hP hD hS hA [8, 9, 10, 4, 5, 6, 7] [0, 1, 2, 3] [0, 1, 2, 3, 7, 8, 9, 10, 4, 5, 6] rfl (by decide) rfl (by decide) (by decide) rfl (by decide) (wr := (ce_X12 kA g o_this)) (w2 := (ce_X12 kA g o_this ++ (ce_X5 kA (g 1) o_this_panel ++ (ce_X4 kA (g 14) (g 1) o_this_layers)))) (fun H locs hP hD hS => ?_)
      have hP : va_P D vwCl (ce_X12 kA g o_this ++ (ce_X5 kA (g 1) o_this_panel ++ (ce_X4 kA (g 14) (g 1) o_this_layers))) H := hP
      rw [← Option.some.inj hf]
      exact mx_reti (Nat.le_of_ble_eq_true rfl) (Nat.le_of_ble_eq_true rfl) hx hb hr hlk hP hK hD hS dX12_rectangleAt_21
def ff_X12_largest (N : Nat) (o_this : os_T) (o_this_panel : os_T) (o_this_layers : os_T) (a1 : Int32) : Option (Nat × Int32) :=
  ((ff_X12_checkLayer N o_this o_this_panel a1).bind fun u_1 => (if u_1 = 0 then ((ff_X4_largestBlock N o_this_layers o_this_panel a1).bind fun u_3 => some (0, u_3)) else some (u_1, (0 : Int32))))
set_option maxHeartbeats 4000000 in
set_option maxRecDepth 100000 in
theorem mm_X12_largest (l : Launch) (hst : l.stackTraces = false) (zz : Nat → Nat → Nat) (D : va_G) (kA : Nat → ClassId) (N : Nat) (g : Nat → Nat → Nat) (o_this : os_T) (o_this_panel : os_T) (o_this_layers : os_T) (a1 : Int32) (out : (Nat × Int32)) (hf : ff_X12_largest N o_this o_this_panel o_this_layers a1 = some out) : mx_C l zz D kA yX12_largest wsX12_largest ({ frames := 7, cells := 1, slots := 6, locals := 125 } : Room) [.ref ((g 0) 0), .int a1] (ce_X12 kA g o_this ++ (ce_X5 kA (g 1) o_this_panel ++ (ce_X4 kA (g 14) (g 1) o_this_layers))) out.1 (some (.int out.2)) (ce_X12 kA g o_this ++ (ce_X5 kA (g 1) o_this_panel ++ (ce_X4 kA (g 14) (g 1) o_this_layers))) := by
  refine mx_of (cc := cX12_largest) (maxL := 2) (ret := (some .int)) (by decide) rfl (Nat.le_of_ble_eq_true rfl) ?_
  intro p e s m below meth c A B hx0 hZ hD hP hS ls hl
  obtain ⟨hx, hb, hr, hlk, hml, hown, hts, hK, hA, hnm⟩ := B
  have hown : s.vm.findClass RX12 = some m.cls := hown
  have hl : lv_has ls 2 [(0, .ref ((g 0) 0)), (1, .int a1)] := hl
  have hUX12 : ∀ w ∈ u_ws RX12 TX12 15, w.before [.ref ((g 0) 0), .int a1].toArray s = true := fun w h => hts w (List.mem_cons_of_mem _ (List.mem_append_left _ (List.mem_append_left _ (List.mem_append_left _ (List.mem_append_right _ h)))))
  unfold ff_X12_largest at hf
  refine lv_aload_n hx hb dX12_largest_0 rfl (lv_at hl 0 rfl) ?_
  refine lv_iload_n hx hb dX12_largest_1 rfl (lv_at hl 1 rfl) ?_
  obtain ⟨u_1, he_2, hf⟩ := os_bd hf
  refine mx_callV ⟨hx, hb, hml, hown, hts⟩ (mm_X12_checkLayer l hst zz D kA N g o_this o_this_panel a1 u_1 he_2) (cwV 1 hts gX12_largest_X12_checkLayer rfl rfl rfl (by decide +kernel) ⟨Nat.le_of_ble_eq_true rfl, Nat.le_of_ble_eq_true rfl⟩) (wc := (ce_X12 kA g o_this ++ (ce_X5 kA (g 1) o_this_panel))) (ci := 8) (q0 := 0) rfl rfl rfl hl.1 (As := [.int a1]) (rest := []) rfl (Nat.le_of_ble_eq_true rfl) dX12_largest_2 ⟨Nat.le_of_ble_eq_true rfl, Nat.le_of_ble_eq_true rfl⟩ hK hP hD hS hA hZ [0, 1, 2, 3, 4, 5, 6, 7] [8, 9, 10] [3, 4, 5, 6, 7, 8, 9, 10, 0, 1, 2] rfl (by decide) rfl (by decide) (by decide) rfl (by decide) (wr := (ce_X4 kA (g 14) (g 1) o_this_layers)) (w2 := (ce_X12 kA g o_this ++ (ce_X5 kA (g 1) o_this_panel ++ (ce_X4 kA (g 14) (g 1) o_this_layers)))) (fun hx9 H locs q9 ce hP hD hS h91 h92 h93 => ?_) (fun hx9 H locs hP hD hS => ?_)
  · rw [if_neg hx9] at hf
    rw [← Option.some.inj hf]
    exact mx_out hx9 hx0 hlk hP hK hD hS h91 h92 h93 (Nat.le_of_ble_eq_true rfl) (Nat.le_of_ble_eq_true rfl)
  · rw [if_pos hx9] at hf
    refine W.widen (k := 1) (n := 6) (Nat.le_of_ble_eq_true rfl) (Nat.le_of_ble_eq_true rfl) ?_
    have hP : va_P D vwCl (ce_X12 kA g o_this ++ (ce_X5 kA (g 1) o_this_panel ++ (ce_X4 kA (g 14) (g 1) o_this_layers))) H := hP
    refine lv_aload_n hx hb dX12_largest_5 rfl (lv_at hl 0 rfl) ?_
    refine va_get (D := D) (ci := 8) (v := .ref ((g 14) 0)) (C := RX12) (T := TX12) (N := 15) hx hb hUX12 (fun _ h9 => h9) hown hK hP 0 rfl rfl 6 (by decide) (hts (Cond.fieldLink RX12 46 "ReliefBuilder" "layers" "LReliefBuilder$Layers;") (List.mem_of_getElem? (i := 1) rfl)) (fun _ h9 => h9) rfl dX12_largest_6 ?_
    refine lv_iload_n hx hb dX12_largest_9 rfl (lv_at hl 1 rfl) ?_
    obtain ⟨u_3, he_4, hf⟩ := os_bd hf
    refine mc_callV ⟨hx, hb, hml, hown, hts⟩ (mm_X4_largestBlock l D kA N (g 14) (g 1) o_this_layers o_this_panel a1 u_3 he_4) (cwV 1 hts gX12_largest_X4_largestBlock rfl rfl rfl (by decide +kernel) ⟨Nat.le_of_ble_eq_true rfl, Nat.le_of_ble_eq_true rfl⟩) (wc := (ce_X4 kA (g 14) (g 1) o_this_layers ++ (ce_X5 kA (g 1) o_this_panel))) (ci := 1) (q0 := 0) rfl rfl rfl hl.1 (As := [.int a1]) (rest := []) rfl (Nat.le_of_ble_eq_true rfl) dX12_largest_10 ⟨Nat.le_of_ble_eq_true rfl, Nat.le_of_ble_eq_true rfl⟩ hK hP hD hS hA [8, 9, 10, 4, 5, 6, 7] [0, 1, 2, 3] [0, 1, 2, 3, 7, 8, 9, 10, 4, 5, 6] rfl (by decide) rfl (by decide) (by decide) rfl (by decide) (wr := (ce_X12 kA g o_this)) (w2 := (ce_X12 kA g o_this ++ (ce_X5 kA (g 1) o_this_panel ++ (ce_X4 kA (g 14) (g 1) o_this_layers)))) (fun H locs hP hD hS => ?_)
    have hP : va_P D vwCl (ce_X12 kA g o_this ++ (ce_X5 kA (g 1) o_this_panel ++ (ce_X4 kA (g 14) (g 1) o_this_layers))) H := hP
    rw [← Option.some.inj hf]
    exact mx_reti (Nat.le_of_ble_eq_true rfl) (Nat.le_of_ble_eq_true rfl) hx hb hr hlk hP hK hD hS dX12_largest_13
def ff_X12_shortest (N : Nat) (o_this : os_T) (o_this_panel : os_T) (o_this_layers : os_T) (a1 : Int32) : Option (Nat × Int32) :=
  ((ff_X12_checkLayer N o_this o_this_panel a1).bind fun u_1 => (if u_1 = 0 then ((ff_X4_shortestRun N o_this_layers o_this_panel a1).bind fun u_3 => some (0, u_3)) else some (u_1, (0 : Int32))))
set_option maxHeartbeats 4000000 in
set_option maxRecDepth 100000 in
theorem mm_X12_shortest (l : Launch) (hst : l.stackTraces = false) (zz : Nat → Nat → Nat) (D : va_G) (kA : Nat → ClassId) (N : Nat) (g : Nat → Nat → Nat) (o_this : os_T) (o_this_panel : os_T) (o_this_layers : os_T) (a1 : Int32) (out : (Nat × Int32)) (hf : ff_X12_shortest N o_this o_this_panel o_this_layers a1 = some out) : mx_C l zz D kA yX12_shortest wsX12_shortest ({ frames := 7, cells := 1, slots := 6, locals := 111 } : Room) [.ref ((g 0) 0), .int a1] (ce_X12 kA g o_this ++ (ce_X5 kA (g 1) o_this_panel ++ (ce_X4 kA (g 14) (g 1) o_this_layers))) out.1 (some (.int out.2)) (ce_X12 kA g o_this ++ (ce_X5 kA (g 1) o_this_panel ++ (ce_X4 kA (g 14) (g 1) o_this_layers))) := by
  refine mx_of (cc := cX12_shortest) (maxL := 2) (ret := (some .int)) (by decide) rfl (Nat.le_of_ble_eq_true rfl) ?_
  intro p e s m below meth c A B hx0 hZ hD hP hS ls hl
  obtain ⟨hx, hb, hr, hlk, hml, hown, hts, hK, hA, hnm⟩ := B
  have hown : s.vm.findClass RX12 = some m.cls := hown
  have hl : lv_has ls 2 [(0, .ref ((g 0) 0)), (1, .int a1)] := hl
  have hUX12 : ∀ w ∈ u_ws RX12 TX12 15, w.before [.ref ((g 0) 0), .int a1].toArray s = true := fun w h => hts w (List.mem_cons_of_mem _ (List.mem_append_left _ (List.mem_append_left _ (List.mem_append_left _ (List.mem_append_right _ h)))))
  unfold ff_X12_shortest at hf
  refine lv_aload_n hx hb dX12_shortest_0 rfl (lv_at hl 0 rfl) ?_
  refine lv_iload_n hx hb dX12_shortest_1 rfl (lv_at hl 1 rfl) ?_
  obtain ⟨u_1, he_2, hf⟩ := os_bd hf
  refine mx_callV ⟨hx, hb, hml, hown, hts⟩ (mm_X12_checkLayer l hst zz D kA N g o_this o_this_panel a1 u_1 he_2) (cwV 1 hts gX12_shortest_X12_checkLayer rfl rfl rfl (by decide +kernel) ⟨Nat.le_of_ble_eq_true rfl, Nat.le_of_ble_eq_true rfl⟩) (wc := (ce_X12 kA g o_this ++ (ce_X5 kA (g 1) o_this_panel))) (ci := 8) (q0 := 0) rfl rfl rfl hl.1 (As := [.int a1]) (rest := []) rfl (Nat.le_of_ble_eq_true rfl) dX12_shortest_2 ⟨Nat.le_of_ble_eq_true rfl, Nat.le_of_ble_eq_true rfl⟩ hK hP hD hS hA hZ [0, 1, 2, 3, 4, 5, 6, 7] [8, 9, 10] [3, 4, 5, 6, 7, 8, 9, 10, 0, 1, 2] rfl (by decide) rfl (by decide) (by decide) rfl (by decide) (wr := (ce_X4 kA (g 14) (g 1) o_this_layers)) (w2 := (ce_X12 kA g o_this ++ (ce_X5 kA (g 1) o_this_panel ++ (ce_X4 kA (g 14) (g 1) o_this_layers)))) (fun hx9 H locs q9 ce hP hD hS h91 h92 h93 => ?_) (fun hx9 H locs hP hD hS => ?_)
  · rw [if_neg hx9] at hf
    rw [← Option.some.inj hf]
    exact mx_out hx9 hx0 hlk hP hK hD hS h91 h92 h93 (Nat.le_of_ble_eq_true rfl) (Nat.le_of_ble_eq_true rfl)
  · rw [if_pos hx9] at hf
    refine W.widen (k := 1) (n := 6) (Nat.le_of_ble_eq_true rfl) (Nat.le_of_ble_eq_true rfl) ?_
    have hP : va_P D vwCl (ce_X12 kA g o_this ++ (ce_X5 kA (g 1) o_this_panel ++ (ce_X4 kA (g 14) (g 1) o_this_layers))) H := hP
    refine lv_aload_n hx hb dX12_shortest_5 rfl (lv_at hl 0 rfl) ?_
    refine va_get (D := D) (ci := 8) (v := .ref ((g 14) 0)) (C := RX12) (T := TX12) (N := 15) hx hb hUX12 (fun _ h9 => h9) hown hK hP 0 rfl rfl 6 (by decide) (hts (Cond.fieldLink RX12 46 "ReliefBuilder" "layers" "LReliefBuilder$Layers;") (List.mem_of_getElem? (i := 1) rfl)) (fun _ h9 => h9) rfl dX12_shortest_6 ?_
    refine lv_iload_n hx hb dX12_shortest_9 rfl (lv_at hl 1 rfl) ?_
    obtain ⟨u_3, he_4, hf⟩ := os_bd hf
    refine mc_callV ⟨hx, hb, hml, hown, hts⟩ (mm_X4_shortestRun l D kA N (g 14) (g 1) o_this_layers o_this_panel a1 u_3 he_4) (cwV 1 hts gX12_shortest_X4_shortestRun rfl rfl rfl (by decide +kernel) ⟨Nat.le_of_ble_eq_true rfl, Nat.le_of_ble_eq_true rfl⟩) (wc := (ce_X4 kA (g 14) (g 1) o_this_layers ++ (ce_X5 kA (g 1) o_this_panel))) (ci := 1) (q0 := 0) rfl rfl rfl hl.1 (As := [.int a1]) (rest := []) rfl (Nat.le_of_ble_eq_true rfl) dX12_shortest_10 ⟨Nat.le_of_ble_eq_true rfl, Nat.le_of_ble_eq_true rfl⟩ hK hP hD hS hA [8, 9, 10, 4, 5, 6, 7] [0, 1, 2, 3] [0, 1, 2, 3, 7, 8, 9, 10, 4, 5, 6] rfl (by decide) rfl (by decide) (by decide) rfl (by decide) (wr := (ce_X12 kA g o_this)) (w2 := (ce_X12 kA g o_this ++ (ce_X5 kA (g 1) o_this_panel ++ (ce_X4 kA (g 14) (g 1) o_this_layers)))) (fun H locs hP hD hS => ?_)
    have hP : va_P D vwCl (ce_X12 kA g o_this ++ (ce_X5 kA (g 1) o_this_panel ++ (ce_X4 kA (g 14) (g 1) o_this_layers))) H := hP
    rw [← Option.some.inj hf]
    exact mx_reti (Nat.le_of_ble_eq_true rfl) (Nat.le_of_ble_eq_true rfl) hx hb hr hlk hP hK hD hS dX12_shortest_13
def ff_X12_parts (N : Nat) (o_this : os_T) (o_this_panel : os_T) (o_this_layers : os_T) (a1 : Int32) : Option (Nat × Int32 × os_T) :=
  ((ff_X12_checkLayer N o_this o_this_panel a1).bind fun u_1 => (if u_1 = 0 then ((ff_X4_countOfParts N o_this_layers o_this_panel a1).bind fun u_3 => some (0, u_3.1, u_3.2)) else some (u_1, (0 : Int32), o_this_layers)))
set_option maxHeartbeats 4000000 in
set_option maxRecDepth 100000 in
theorem mm_X12_parts (l : Launch) (hst : l.stackTraces = false) (zz : Nat → Nat → Nat) (D : va_G) (kA : Nat → ClassId) (N : Nat) (g : Nat → Nat → Nat) (o_this : os_T) (o_this_panel : os_T) (o_this_layers : os_T) (a1 : Int32) (out : (Nat × Int32 × os_T)) (hf : ff_X12_parts N o_this o_this_panel o_this_layers a1 = some out) : mx_C l zz D kA yX12_parts wsX12_parts ({ frames := 7, cells := 1, slots := 6, locals := 123 } : Room) [.ref ((g 0) 0), .int a1] (ce_X12 kA g o_this ++ (ce_X5 kA (g 1) o_this_panel ++ (ce_X4 kA (g 14) (g 1) o_this_layers))) out.1 (some (.int out.2.1)) (ce_X12 kA g o_this ++ (ce_X5 kA (g 1) o_this_panel ++ (ce_X4 kA (g 14) (g 1) out.2.2))) := by
  refine mx_of (cc := cX12_parts) (maxL := 2) (ret := (some .int)) (by decide) rfl (Nat.le_of_ble_eq_true rfl) ?_
  intro p e s m below meth c A B hx0 hZ hD hP hS ls hl
  obtain ⟨hx, hb, hr, hlk, hml, hown, hts, hK, hA, hnm⟩ := B
  have hown : s.vm.findClass RX12 = some m.cls := hown
  have hl : lv_has ls 2 [(0, .ref ((g 0) 0)), (1, .int a1)] := hl
  have hUX12 : ∀ w ∈ u_ws RX12 TX12 15, w.before [.ref ((g 0) 0), .int a1].toArray s = true := fun w h => hts w (List.mem_cons_of_mem _ (List.mem_append_left _ (List.mem_append_left _ (List.mem_append_left _ (List.mem_append_right _ h)))))
  unfold ff_X12_parts at hf
  refine lv_aload_n hx hb dX12_parts_0 rfl (lv_at hl 0 rfl) ?_
  refine lv_iload_n hx hb dX12_parts_1 rfl (lv_at hl 1 rfl) ?_
  obtain ⟨u_1, he_2, hf⟩ := os_bd hf
  refine mx_callV ⟨hx, hb, hml, hown, hts⟩ (mm_X12_checkLayer l hst zz D kA N g o_this o_this_panel a1 u_1 he_2) (cwV 1 hts gX12_parts_X12_checkLayer rfl rfl rfl (by decide +kernel) ⟨Nat.le_of_ble_eq_true rfl, Nat.le_of_ble_eq_true rfl⟩) (wc := (ce_X12 kA g o_this ++ (ce_X5 kA (g 1) o_this_panel))) (ci := 8) (q0 := 0) rfl rfl rfl hl.1 (As := [.int a1]) (rest := []) rfl (Nat.le_of_ble_eq_true rfl) dX12_parts_2 ⟨Nat.le_of_ble_eq_true rfl, Nat.le_of_ble_eq_true rfl⟩ hK hP hD hS hA hZ [0, 1, 2, 3, 4, 5, 6, 7] [8, 9, 10] [3, 4, 5, 6, 7, 8, 9, 10, 0, 1, 2] rfl (by decide) rfl (by decide) (by decide) rfl (by decide) (wr := (ce_X4 kA (g 14) (g 1) o_this_layers)) (w2 := (ce_X12 kA g o_this ++ (ce_X5 kA (g 1) o_this_panel ++ (ce_X4 kA (g 14) (g 1) o_this_layers)))) (fun hx9 H locs q9 ce hP hD hS h91 h92 h93 => ?_) (fun hx9 H locs hP hD hS => ?_)
  · rw [if_neg hx9] at hf
    rw [← Option.some.inj hf]
    exact mx_out hx9 hx0 hlk hP hK hD hS h91 h92 h93 (Nat.le_of_ble_eq_true rfl) (Nat.le_of_ble_eq_true rfl)
  · rw [if_pos hx9] at hf
    refine W.widen (k := 1) (n := 6) (Nat.le_of_ble_eq_true rfl) (Nat.le_of_ble_eq_true rfl) ?_
    have hP : va_P D vwCl (ce_X12 kA g o_this ++ (ce_X5 kA (g 1) o_this_panel ++ (ce_X4 kA (g 14) (g 1) o_this_layers))) H := hP
    refine lv_aload_n hx hb dX12_parts_5 rfl (lv_at hl 0 rfl) ?_
    refine va_get (D := D) (ci := 8) (v := .ref ((g 14) 0)) (C := RX12) (T := TX12) (N := 15) hx hb hUX12 (fun _ h9 => h9) hown hK hP 0 rfl rfl 6 (by decide) (hts (Cond.fieldLink RX12 46 "ReliefBuilder" "layers" "LReliefBuilder$Layers;") (List.mem_of_getElem? (i := 1) rfl)) (fun _ h9 => h9) rfl dX12_parts_6 ?_
    refine lv_iload_n hx hb dX12_parts_9 rfl (lv_at hl 1 rfl) ?_
    obtain ⟨u_3, he_4, hf⟩ := os_bd hf
    refine mc_callV ⟨hx, hb, hml, hown, hts⟩ (mm_X4_countOfParts l D kA N (g 14) (g 1) o_this_layers o_this_panel a1 u_3 he_4) (cwV 1 hts gX12_parts_X4_countOfParts rfl rfl rfl (by decide +kernel) ⟨Nat.le_of_ble_eq_true rfl, Nat.le_of_ble_eq_true rfl⟩) (wc := (ce_X4 kA (g 14) (g 1) o_this_layers ++ (ce_X5 kA (g 1) o_this_panel))) (ci := 1) (q0 := 0) rfl rfl rfl hl.1 (As := [.int a1]) (rest := []) rfl (Nat.le_of_ble_eq_true rfl) dX12_parts_10 ⟨Nat.le_of_ble_eq_true rfl, Nat.le_of_ble_eq_true rfl⟩ hK hP hD hS hA [8, 9, 10, 4, 5, 6, 7] [0, 1, 2, 3] [0, 1, 2, 3, 7, 8, 9, 10, 4, 5, 6] rfl (by decide) rfl (by decide) (by decide) rfl (by decide) (wr := (ce_X12 kA g o_this)) (w2 := (ce_X12 kA g o_this ++ (ce_X5 kA (g 1) o_this_panel ++ (ce_X4 kA (g 14) (g 1) u_3.2)))) (fun H locs hP hD hS => ?_)
    have hP : va_P D vwCl (ce_X12 kA g o_this ++ (ce_X5 kA (g 1) o_this_panel ++ (ce_X4 kA (g 14) (g 1) u_3.2))) H := hP
    rw [← Option.some.inj hf]
    exact mx_reti (Nat.le_of_ble_eq_true rfl) (Nat.le_of_ble_eq_true rfl) hx hb hr hlk hP hK hD hS dX12_parts_13
def ff_X12_outline (N : Nat) (o_this : os_T) (o_this_panel : os_T) (o_this_layers : os_T) (a1 : Int32) : Option (Nat × Int32) :=
  ((ff_X12_checkLayer N o_this o_this_panel a1).bind fun u_1 => (if u_1 = 0 then ((ff_X4_countOfSides N o_this_layers o_this_panel a1).bind fun u_3 => some (0, u_3)) else some (u_1, (0 : Int32))))
set_option maxHeartbeats 4000000 in
set_option maxRecDepth 100000 in
theorem mm_X12_outline (l : Launch) (hst : l.stackTraces = false) (zz : Nat → Nat → Nat) (D : va_G) (kA : Nat → ClassId) (N : Nat) (g : Nat → Nat → Nat) (o_this : os_T) (o_this_panel : os_T) (o_this_layers : os_T) (a1 : Int32) (out : (Nat × Int32)) (hf : ff_X12_outline N o_this o_this_panel o_this_layers a1 = some out) : mx_C l zz D kA yX12_outline wsX12_outline ({ frames := 7, cells := 1, slots := 6, locals := 111 } : Room) [.ref ((g 0) 0), .int a1] (ce_X12 kA g o_this ++ (ce_X5 kA (g 1) o_this_panel ++ (ce_X4 kA (g 14) (g 1) o_this_layers))) out.1 (some (.int out.2)) (ce_X12 kA g o_this ++ (ce_X5 kA (g 1) o_this_panel ++ (ce_X4 kA (g 14) (g 1) o_this_layers))) := by
  refine mx_of (cc := cX12_outline) (maxL := 2) (ret := (some .int)) (by decide) rfl (Nat.le_of_ble_eq_true rfl) ?_
  intro p e s m below meth c A B hx0 hZ hD hP hS ls hl
  obtain ⟨hx, hb, hr, hlk, hml, hown, hts, hK, hA, hnm⟩ := B
  have hown : s.vm.findClass RX12 = some m.cls := hown
  have hl : lv_has ls 2 [(0, .ref ((g 0) 0)), (1, .int a1)] := hl
  have hUX12 : ∀ w ∈ u_ws RX12 TX12 15, w.before [.ref ((g 0) 0), .int a1].toArray s = true := fun w h => hts w (List.mem_cons_of_mem _ (List.mem_append_left _ (List.mem_append_left _ (List.mem_append_left _ (List.mem_append_right _ h)))))
  unfold ff_X12_outline at hf
  refine lv_aload_n hx hb dX12_outline_0 rfl (lv_at hl 0 rfl) ?_
  refine lv_iload_n hx hb dX12_outline_1 rfl (lv_at hl 1 rfl) ?_
  obtain ⟨u_1, he_2, hf⟩ := os_bd hf
  refine mx_callV ⟨hx, hb, hml, hown, hts⟩ (mm_X12_checkLayer l hst zz D kA N g o_this o_this_panel a1 u_1 he_2) (cwV 1 hts gX12_outline_X12_checkLayer rfl rfl rfl (by decide +kernel) ⟨Nat.le_of_ble_eq_true rfl, Nat.le_of_ble_eq_true rfl⟩) (wc := (ce_X12 kA g o_this ++ (ce_X5 kA (g 1) o_this_panel))) (ci := 8) (q0 := 0) rfl rfl rfl hl.1 (As := [.int a1]) (rest := []) rfl (Nat.le_of_ble_eq_true rfl) dX12_outline_2 ⟨Nat.le_of_ble_eq_true rfl, Nat.le_of_ble_eq_true rfl⟩ hK hP hD hS hA hZ [0, 1, 2, 3, 4, 5, 6, 7] [8, 9, 10] [3, 4, 5, 6, 7, 8, 9, 10, 0, 1, 2] rfl (by decide) rfl (by decide) (by decide) rfl (by decide) (wr := (ce_X4 kA (g 14) (g 1) o_this_layers)) (w2 := (ce_X12 kA g o_this ++ (ce_X5 kA (g 1) o_this_panel ++ (ce_X4 kA (g 14) (g 1) o_this_layers)))) (fun hx9 H locs q9 ce hP hD hS h91 h92 h93 => ?_) (fun hx9 H locs hP hD hS => ?_)
  · rw [if_neg hx9] at hf
    rw [← Option.some.inj hf]
    exact mx_out hx9 hx0 hlk hP hK hD hS h91 h92 h93 (Nat.le_of_ble_eq_true rfl) (Nat.le_of_ble_eq_true rfl)
  · rw [if_pos hx9] at hf
    refine W.widen (k := 1) (n := 6) (Nat.le_of_ble_eq_true rfl) (Nat.le_of_ble_eq_true rfl) ?_
    have hP : va_P D vwCl (ce_X12 kA g o_this ++ (ce_X5 kA (g 1) o_this_panel ++ (ce_X4 kA (g 14) (g 1) o_this_layers))) H := hP
    refine lv_aload_n hx hb dX12_outline_5 rfl (lv_at hl 0 rfl) ?_
    refine va_get (D := D) (ci := 8) (v := .ref ((g 14) 0)) (C := RX12) (T := TX12) (N := 15) hx hb hUX12 (fun _ h9 => h9) hown hK hP 0 rfl rfl 6 (by decide) (hts (Cond.fieldLink RX12 46 "ReliefBuilder" "layers" "LReliefBuilder$Layers;") (List.mem_of_getElem? (i := 1) rfl)) (fun _ h9 => h9) rfl dX12_outline_6 ?_
    refine lv_iload_n hx hb dX12_outline_9 rfl (lv_at hl 1 rfl) ?_
    obtain ⟨u_3, he_4, hf⟩ := os_bd hf
    refine mc_callV ⟨hx, hb, hml, hown, hts⟩ (mm_X4_countOfSides l D kA N (g 14) (g 1) o_this_layers o_this_panel a1 u_3 he_4) (cwV 1 hts gX12_outline_X4_countOfSides rfl rfl rfl (by decide +kernel) ⟨Nat.le_of_ble_eq_true rfl, Nat.le_of_ble_eq_true rfl⟩) (wc := (ce_X4 kA (g 14) (g 1) o_this_layers ++ (ce_X5 kA (g 1) o_this_panel))) (ci := 1) (q0 := 0) rfl rfl rfl hl.1 (As := [.int a1]) (rest := []) rfl (Nat.le_of_ble_eq_true rfl) dX12_outline_10 ⟨Nat.le_of_ble_eq_true rfl, Nat.le_of_ble_eq_true rfl⟩ hK hP hD hS hA [8, 9, 10, 4, 5, 6, 7] [0, 1, 2, 3] [0, 1, 2, 3, 7, 8, 9, 10, 4, 5, 6] rfl (by decide) rfl (by decide) (by decide) rfl (by decide) (wr := (ce_X12 kA g o_this)) (w2 := (ce_X12 kA g o_this ++ (ce_X5 kA (g 1) o_this_panel ++ (ce_X4 kA (g 14) (g 1) o_this_layers)))) (fun H locs hP hD hS => ?_)
    have hP : va_P D vwCl (ce_X12 kA g o_this ++ (ce_X5 kA (g 1) o_this_panel ++ (ce_X4 kA (g 14) (g 1) o_this_layers))) H := hP
    rw [← Option.some.inj hf]
    exact mx_reti (Nat.le_of_ble_eq_true rfl) (Nat.le_of_ble_eq_true rfl) hx hb hr hlk hP hK hD hS dX12_outline_13
def ff_X12_hollows (N : Nat) (o_this : os_T) (o_this_panel : os_T) (o_this_layers : os_T) (a1 : Int32) : Option (Nat × Int32 × os_T) :=
  ((ff_X12_checkLayer N o_this o_this_panel a1).bind fun u_1 => (if u_1 = 0 then ((ff_X4_countOfHollows N o_this_layers o_this_panel a1).bind fun u_3 => some (0, u_3.1, u_3.2)) else some (u_1, (0 : Int32), o_this_layers)))
set_option maxHeartbeats 4000000 in
set_option maxRecDepth 100000 in
theorem mm_X12_hollows (l : Launch) (hst : l.stackTraces = false) (zz : Nat → Nat → Nat) (D : va_G) (kA : Nat → ClassId) (N : Nat) (g : Nat → Nat → Nat) (o_this : os_T) (o_this_panel : os_T) (o_this_layers : os_T) (a1 : Int32) (out : (Nat × Int32 × os_T)) (hf : ff_X12_hollows N o_this o_this_panel o_this_layers a1 = some out) : mx_C l zz D kA yX12_hollows wsX12_hollows ({ frames := 7, cells := 1, slots := 6, locals := 123 } : Room) [.ref ((g 0) 0), .int a1] (ce_X12 kA g o_this ++ (ce_X5 kA (g 1) o_this_panel ++ (ce_X4 kA (g 14) (g 1) o_this_layers))) out.1 (some (.int out.2.1)) (ce_X12 kA g o_this ++ (ce_X5 kA (g 1) o_this_panel ++ (ce_X4 kA (g 14) (g 1) out.2.2))) := by
  refine mx_of (cc := cX12_hollows) (maxL := 2) (ret := (some .int)) (by decide) rfl (Nat.le_of_ble_eq_true rfl) ?_
  intro p e s m below meth c A B hx0 hZ hD hP hS ls hl
  obtain ⟨hx, hb, hr, hlk, hml, hown, hts, hK, hA, hnm⟩ := B
  have hown : s.vm.findClass RX12 = some m.cls := hown
  have hl : lv_has ls 2 [(0, .ref ((g 0) 0)), (1, .int a1)] := hl
  have hUX12 : ∀ w ∈ u_ws RX12 TX12 15, w.before [.ref ((g 0) 0), .int a1].toArray s = true := fun w h => hts w (List.mem_cons_of_mem _ (List.mem_append_left _ (List.mem_append_left _ (List.mem_append_left _ (List.mem_append_right _ h)))))
  unfold ff_X12_hollows at hf
  refine lv_aload_n hx hb dX12_hollows_0 rfl (lv_at hl 0 rfl) ?_
  refine lv_iload_n hx hb dX12_hollows_1 rfl (lv_at hl 1 rfl) ?_
  obtain ⟨u_1, he_2, hf⟩ := os_bd hf
  refine mx_callV ⟨hx, hb, hml, hown, hts⟩ (mm_X12_checkLayer l hst zz D kA N g o_this o_this_panel a1 u_1 he_2) (cwV 1 hts gX12_hollows_X12_checkLayer rfl rfl rfl (by decide +kernel) ⟨Nat.le_of_ble_eq_true rfl, Nat.le_of_ble_eq_true rfl⟩) (wc := (ce_X12 kA g o_this ++ (ce_X5 kA (g 1) o_this_panel))) (ci := 8) (q0 := 0) rfl rfl rfl hl.1 (As := [.int a1]) (rest := []) rfl (Nat.le_of_ble_eq_true rfl) dX12_hollows_2 ⟨Nat.le_of_ble_eq_true rfl, Nat.le_of_ble_eq_true rfl⟩ hK hP hD hS hA hZ [0, 1, 2, 3, 4, 5, 6, 7] [8, 9, 10] [3, 4, 5, 6, 7, 8, 9, 10, 0, 1, 2] rfl (by decide) rfl (by decide) (by decide) rfl (by decide) (wr := (ce_X4 kA (g 14) (g 1) o_this_layers)) (w2 := (ce_X12 kA g o_this ++ (ce_X5 kA (g 1) o_this_panel ++ (ce_X4 kA (g 14) (g 1) o_this_layers)))) (fun hx9 H locs q9 ce hP hD hS h91 h92 h93 => ?_) (fun hx9 H locs hP hD hS => ?_)
  · rw [if_neg hx9] at hf
    rw [← Option.some.inj hf]
    exact mx_out hx9 hx0 hlk hP hK hD hS h91 h92 h93 (Nat.le_of_ble_eq_true rfl) (Nat.le_of_ble_eq_true rfl)
  · rw [if_pos hx9] at hf
    refine W.widen (k := 1) (n := 6) (Nat.le_of_ble_eq_true rfl) (Nat.le_of_ble_eq_true rfl) ?_
    have hP : va_P D vwCl (ce_X12 kA g o_this ++ (ce_X5 kA (g 1) o_this_panel ++ (ce_X4 kA (g 14) (g 1) o_this_layers))) H := hP
    refine lv_aload_n hx hb dX12_hollows_5 rfl (lv_at hl 0 rfl) ?_
    refine va_get (D := D) (ci := 8) (v := .ref ((g 14) 0)) (C := RX12) (T := TX12) (N := 15) hx hb hUX12 (fun _ h9 => h9) hown hK hP 0 rfl rfl 6 (by decide) (hts (Cond.fieldLink RX12 46 "ReliefBuilder" "layers" "LReliefBuilder$Layers;") (List.mem_of_getElem? (i := 1) rfl)) (fun _ h9 => h9) rfl dX12_hollows_6 ?_
    refine lv_iload_n hx hb dX12_hollows_9 rfl (lv_at hl 1 rfl) ?_
    obtain ⟨u_3, he_4, hf⟩ := os_bd hf
    refine mc_callV ⟨hx, hb, hml, hown, hts⟩ (mm_X4_countOfHollows l D kA N (g 14) (g 1) o_this_layers o_this_panel a1 u_3 he_4) (cwV 1 hts gX12_hollows_X4_countOfHollows rfl rfl rfl (by decide +kernel) ⟨Nat.le_of_ble_eq_true rfl, Nat.le_of_ble_eq_true rfl⟩) (wc := (ce_X4 kA (g 14) (g 1) o_this_layers ++ (ce_X5 kA (g 1) o_this_panel))) (ci := 1) (q0 := 0) rfl rfl rfl hl.1 (As := [.int a1]) (rest := []) rfl (Nat.le_of_ble_eq_true rfl) dX12_hollows_10 ⟨Nat.le_of_ble_eq_true rfl, Nat.le_of_ble_eq_true rfl⟩ hK hP hD hS hA [8, 9, 10, 4, 5, 6, 7] [0, 1, 2, 3] [0, 1, 2, 3, 7, 8, 9, 10, 4, 5, 6] rfl (by decide) rfl (by decide) (by decide) rfl (by decide) (wr := (ce_X12 kA g o_this)) (w2 := (ce_X12 kA g o_this ++ (ce_X5 kA (g 1) o_this_panel ++ (ce_X4 kA (g 14) (g 1) u_3.2)))) (fun H locs hP hD hS => ?_)
    have hP : va_P D vwCl (ce_X12 kA g o_this ++ (ce_X5 kA (g 1) o_this_panel ++ (ce_X4 kA (g 14) (g 1) u_3.2))) H := hP
    rw [← Option.some.inj hf]
    exact mx_reti (Nat.le_of_ble_eq_true rfl) (Nat.le_of_ble_eq_true rfl) hx hb hr hlk hP hK hD hS dX12_hollows_13
def ff_X12_allRectangles_c4 (N : Nat) (o_this : os_T) (o_this_panel : os_T) (o_this_layers : os_T) (k4 : (Int32 × Int32) → Option Int32) (x1 : Int32) (x2 : Int32) : Option Int32 :=
  (if (os_I o_this_panel 2) < x2 then some x1 else ((ff_X4_countOfBlocks N o_this_layers o_this_panel x2).bind fun u_2 => k4 (x1 + u_2, x2 + 1)))
def ff_X12_allRectangles_l4 (N : Nat) (o_this : os_T) (o_this_panel : os_T) (o_this_layers : os_T) : Nat → (Int32 × Int32) → Option Int32 := os_loop (fun k4 s1 => ff_X12_allRectangles_c4 N o_this o_this_panel o_this_layers k4 s1.1 s1.2)
def ff_X12_allRectangles (N : Nat) (o_this : os_T) (o_this_panel : os_T) (o_this_layers : os_T) : Option Int32 :=
  ff_X12_allRectangles_l4 N o_this o_this_panel o_this_layers N ((0 : Int32), (1 : Int32))
set_option maxHeartbeats 4000000 in
set_option maxRecDepth 100000 in
theorem mm_X12_allRectangles (l : Launch) (D : va_G) (kA : Nat → ClassId) (N : Nat) (g : Nat → Nat → Nat) (o_this : os_T) (o_this_panel : os_T) (o_this_layers : os_T) (out : Int32) (hf : ff_X12_allRectangles N o_this o_this_panel o_this_layers = some out) : mc_C l D kA yX12_allRectangles wsX12_allRectangles ({ frames := 6, cells := 0, slots := 0, locals := 143 } : Room) [.ref ((g 0) 0)] (ce_X12 kA g o_this ++ (ce_X5 kA (g 1) o_this_panel ++ (ce_X4 kA (g 14) (g 1) o_this_layers))) (some (.int out)) (ce_X12 kA g o_this ++ (ce_X5 kA (g 1) o_this_panel ++ (ce_X4 kA (g 14) (g 1) o_this_layers))) := by
  refine mc_of (cc := cX12_allRectangles) (maxL := 3) (ret := (some .int)) (by decide) rfl (Nat.le_of_ble_eq_true rfl) ?_
  intro p e s m below meth c A B hD hP hS ls hl
  obtain ⟨hx, hb, hr, hlk, hml, hown, hts, hK, hA, hnm⟩ := B
  have hown : s.vm.findClass RX12 = some m.cls := hown
  have hl : lv_has ls 3 [(0, .ref ((g 0) 0))] := hl
  have hUX12 : ∀ w ∈ u_ws RX12 TX12 15, w.before [.ref ((g 0) 0)].toArray s = true := fun w h => hts w (List.mem_cons_of_mem _ (List.mem_append_left _ (List.mem_append_left _ (List.mem_append_right _ h))))
  have hUX5 : ∀ w ∈ u_ws RX5 TX5 10, w.before [.ref ((g 0) 0)].toArray s = true := fun w h => hts w (List.mem_cons_of_mem _ (List.mem_append_left _ (List.mem_append_right _ h)))
  have hL4 : ∀ (n : Nat) (x1 : Int32) (x2 : Int32) (H : Heap) (locs : List Loc) (ls : Array Slot), va_P D vwCl (ce_X12 kA g o_this ++ (ce_X5 kA (g 1) o_this_panel ++ (ce_X4 kA (g 14) (g 1) o_this_layers))) H → va_D A (ce_X12 kA g o_this ++ (ce_X5 kA (g 1) o_this_panel ++ (ce_X4 kA (g 14) (g 1) o_this_layers))) → va_S A s.heap H locs → lv_has ls 3 [(0, .ref ((g 0) 0)), (1, .int x1), (2, .int x2)] → ff_X12_allRectangles_l4 N o_this o_this_panel o_this_layers n (x1, x2) = some out → W p l e ({ frames := 6, cells := 0, slots := 0, locals := 143 } : Room) s m [.ref ((g 0) 0)].toArray below meth c H locs 0 0 (MQ below (mc_Q D kA A (some (.int out)) (ce_X12 kA g o_this ++ (ce_X5 kA (g 1) o_this_panel ++ (ce_X4 kA (g 14) (g 1) o_this_layers)))) [.ref ((g 0) 0)].toArray s 0 0 A) (F0 m 4 ls []) := by
    intro n
    induction n with
    | zero => intro x1 x2 H locs ls _ _ _ _ hf; cases hf
    | succ n hk4 =>
      intro x1 x2 H locs ls hP hD hS hl hf
      have hf : ff_X12_allRectangles_c4 N o_this o_this_panel o_this_layers (ff_X12_allRectangles_l4 N o_this o_this_panel o_this_layers n) x1 x2 = some out := hf
      generalize hke : ff_X12_allRectangles_l4 N o_this o_this_panel o_this_layers n = k4 at hk4 hf
      unfold ff_X12_allRectangles_c4 at hf
      refine lv_iload_n hx hb dX12_allRectangles_4 rfl (lv_at hl 2 rfl) ?_
      refine lv_aload_n hx hb dX12_allRectangles_5 rfl (lv_at hl 0 rfl) ?_
      refine va_get (D := D) (ci := 8) (v := .ref ((g 1) 0)) (C := RX12) (T := TX12) (N := 15) hx hb hUX12 (fun _ h9 => h9) hown hK hP 0 rfl rfl 0 (by decide) (hts (Cond.fieldLink RX12 12 "ReliefBuilder" "panel" "LReliefBuilder$Panel;") (List.mem_of_getElem? (i := 1) rfl)) (fun _ h9 => h9) rfl dX12_allRectangles_6 ?_
      refine va_get (D := D) (ci := 2) (v := .int (os_I o_this_panel 2)) (C := RX5) (T := TX5) (N := 10) hx hb hUX5 (fun _ h9 => h9) hown hK hP 4 rfl rfl 2 (by decide) (hts (Cond.fieldLink RX12 253 "ReliefBuilder$Panel" "greatest" "I") (List.mem_of_getElem? (i := 2) rfl)) (fun _ h9 => h9) rfl dX12_allRectangles_9 ?_
      refine lv_icmp_gt (tgt := 32) hx hb dX12_allRectangles_12 (by decide) (fun hc_1 => ?_) (fun hc_1 => ?_)
      · rw [if_pos hc_1] at hf
        refine lv_iload_n hx hb dX12_allRectangles_32 rfl (lv_at hl 1 rfl) ?_
        rw [← Option.some.inj hf]
        exact mc_reti hx hb hr hlk hP hK hD hS dX12_allRectangles_33
      · rw [if_neg hc_1] at hf
        refine lv_iload_n hx hb dX12_allRectangles_15 rfl (lv_at hl 1 rfl) ?_
        refine lv_aload_n hx hb dX12_allRectangles_16 rfl (lv_at hl 0 rfl) ?_
        refine va_get (D := D) (ci := 8) (v := .ref ((g 14) 0)) (C := RX12) (T := TX12) (N := 15) hx hb hUX12 (fun _ h9 => h9) hown hK hP 0 rfl rfl 6 (by decide) (hts (Cond.fieldLink RX12 46 "ReliefBuilder" "layers" "LReliefBuilder$Layers;") (List.mem_of_getElem? (i := 3) rfl)) (fun _ h9 => h9) rfl dX12_allRectangles_17 ?_
        refine lv_iload_n hx hb dX12_allRectangles_20 rfl (lv_at hl 2 rfl) ?_
        obtain ⟨u_2, he_3, hf⟩ := os_bd hf
        refine mc_callV ⟨hx, hb, hml, hown, hts⟩ (mm_X4_countOfBlocks l D kA N (g 14) (g 1) o_this_layers o_this_panel x2 u_2 he_3) (cwV 1 hts gX12_allRectangles_X4_countOfBlocks rfl rfl rfl (by decide +kernel) ⟨Nat.le_of_ble_eq_true rfl, Nat.le_of_ble_eq_true rfl⟩) (wc := (ce_X4 kA (g 14) (g 1) o_this_layers ++ (ce_X5 kA (g 1) o_this_panel))) (ci := 1) (q0 := 0) rfl rfl rfl hl.1 (As := [.int x2]) (rest := [.int x1]) rfl (Nat.le_of_ble_eq_true rfl) dX12_allRectangles_21 ⟨Nat.le_of_ble_eq_true rfl, Nat.le_of_ble_eq_true rfl⟩ hK hP hD hS hA [8, 9, 10, 4, 5, 6, 7] [0, 1, 2, 3] [0, 1, 2, 3, 7, 8, 9, 10, 4, 5, 6] rfl (by decide) rfl (by decide) (by decide) rfl (by decide) (wr := (ce_X12 kA g o_this)) (w2 := (ce_X12 kA g o_this ++ (ce_X5 kA (g 1) o_this_panel ++ (ce_X4 kA (g 14) (g 1) o_this_layers)))) (fun H locs hP hD hS => ?_)
        have hP : va_P D vwCl (ce_X12 kA g o_this ++ (ce_X5 kA (g 1) o_this_panel ++ (ce_X4 kA (g 14) (g 1) o_this_layers))) H := hP
        refine lv_iadd hx hb dX12_allRectangles_24 ?_
        refine lv_istore_n (lv' := [(1, .int (x1 + u_2)), (0, .ref ((g 0) 0)), (2, .int x2)]) hx hb dX12_allRectangles_25 rfl hl (by decide) rfl (fun ls hl => ?_)
        refine lv_iinc (v := x2 + 1) (lv' := [(2, .int (x2 + 1)), (1, .int (x1 + u_2)), (0, .ref ((g 0) 0))]) hx hb dX12_allRectangles_26 hl (k := 2) rfl rfl (by decide) rfl (fun ls hl => ?_)
        refine lv_goto (tgt := 4) hx hb dX12_allRectangles_29 (by decide) ?_
        exact hk4 (x1 + u_2) (x2 + 1) _ _ _ hP hD hS (lv_sub hl [2, 1, 0] rfl) hf
  unfold ff_X12_allRectangles at hf
  refine lv_iconst (v := 0) hx hb dX12_allRectangles_0 (by decide) ?_
  refine lv_istore_n (lv' := [(1, .int (0 : Int32)), (0, .ref ((g 0) 0))]) hx hb dX12_allRectangles_1 rfl hl (by decide) rfl (fun ls hl => ?_)
  refine lv_iconst (v := 1) hx hb dX12_allRectangles_2 (by decide) ?_
  refine lv_istore_n (lv' := [(2, .int (1 : Int32)), (1, .int (0 : Int32)), (0, .ref ((g 0) 0))]) hx hb dX12_allRectangles_3 rfl hl (by decide) rfl (fun ls hl => ?_)
  exact hL4 N (0 : Int32) (1 : Int32) _ _ _ hP hD hS (lv_sub hl [2, 1, 0] rfl) hf
def ff_X12_setTone (N : Nat) (o_this : os_T) (o_this_panel : os_T) (o_this_history : os_T) (o_this_history_panels0 : os_T) (o_this_history_panels1 : os_T) (o_this_history_panels2 : os_T) (o_this_history_panels3 : os_T) (o_this_history_panels4 : os_T) (o_this_history_panels5 : os_T) (o_this_history_panels6 : os_T) (a1 : Int32) (a2 : Int32) (a3 : Int32) : Option (Nat × Int32 × os_T × os_T × os_T × os_T × os_T × os_T × os_T × os_T × os_T) :=
  ((ff_X12_checkCell N o_this o_this_panel a1 a2).bind fun u_1 => (if u_1 = 0 then ((ff_X12_checkTone N o_this a3).bind fun u_3 => (if u_3 = 0 then ((ff_X3_open N o_this_history o_this_history_panels0 o_this_history_panels1 o_this_history_panels2 o_this_history_panels3 o_this_history_panels4 o_this_history_panels5 o_this_history_panels6 o_this_panel).bind fun u_5 => ((ff_X5_paint N o_this_panel a1 a2 a3).bind fun u_7 => ((ff_X3_close N o_this_history u_5.1 u_5.2.1 u_5.2.2.1 u_5.2.2.2.1 u_5.2.2.2.2.1 u_5.2.2.2.2.2.1 u_5.2.2.2.2.2.2 u_7).bind fun u_9 => ((ff_X5_heightAt N u_7 a1 a2).bind fun u_11 => some (0, u_11, u_7, u_9, u_5.1, u_5.2.1, u_5.2.2.1, u_5.2.2.2.1, u_5.2.2.2.2.1, u_5.2.2.2.2.2.1, u_5.2.2.2.2.2.2))))) else some (u_3, (0 : Int32), o_this_panel, o_this_history, o_this_history_panels0, o_this_history_panels1, o_this_history_panels2, o_this_history_panels3, o_this_history_panels4, o_this_history_panels5, o_this_history_panels6))) else some (u_1, (0 : Int32), o_this_panel, o_this_history, o_this_history_panels0, o_this_history_panels1, o_this_history_panels2, o_this_history_panels3, o_this_history_panels4, o_this_history_panels5, o_this_history_panels6)))
set_option maxHeartbeats 4000000 in
set_option maxRecDepth 100000 in
theorem mm_X12_setTone (l : Launch) (hst : l.stackTraces = false) (zz : Nat → Nat → Nat) (D : va_G) (kA : Nat → ClassId) (N : Nat) (g : Nat → Nat → Nat) (o_this : os_T) (o_this_panel : os_T) (o_this_history : os_T) (o_this_history_panels0 : os_T) (o_this_history_panels1 : os_T) (o_this_history_panels2 : os_T) (o_this_history_panels3 : os_T) (o_this_history_panels4 : os_T) (o_this_history_panels5 : os_T) (o_this_history_panels6 : os_T) (a1 : Int32) (a2 : Int32) (a3 : Int32) (out : (Nat × Int32 × os_T × os_T × os_T × os_T × os_T × os_T × os_T × os_T × os_T)) (hf : ff_X12_setTone N o_this o_this_panel o_this_history o_this_history_panels0 o_this_history_panels1 o_this_history_panels2 o_this_history_panels3 o_this_history_panels4 o_this_history_panels5 o_this_history_panels6 a1 a2 a3 = some out) : mx_C l zz D kA yX12_setTone wsX12_setTone ({ frames := 7, cells := 2, slots := 12, locals := 123 } : Room) [.ref ((g 0) 0), .int a1, .int a2, .int a3] (ce_X12 kA g o_this ++ (ce_X5 kA (g 1) o_this_panel ++ (ce_X3 kA (g 5) (fun k => g (6 + k)) o_this_history ++ (ce_X5 kA (g 6) o_this_history_panels0 ++ (ce_X5 kA (g 7) o_this_history_panels1 ++ (ce_X5 kA (g 8) o_this_history_panels2 ++ (ce_X5 kA (g 9) o_this_history_panels3 ++ (ce_X5 kA (g 10) o_this_history_panels4 ++ (ce_X5 kA (g 11) o_this_history_panels5 ++ (ce_X5 kA (g 12) o_this_history_panels6)))))))))) out.1 (some (.int out.2.1)) (ce_X12 kA g o_this ++ (ce_X5 kA (g 1) out.2.2.1 ++ (ce_X3 kA (g 5) (fun k => g (6 + k)) out.2.2.2.1 ++ (ce_X5 kA (g 6) out.2.2.2.2.1 ++ (ce_X5 kA (g 7) out.2.2.2.2.2.1 ++ (ce_X5 kA (g 8) out.2.2.2.2.2.2.1 ++ (ce_X5 kA (g 9) out.2.2.2.2.2.2.2.1 ++ (ce_X5 kA (g 10) out.2.2.2.2.2.2.2.2.1 ++ (ce_X5 kA (g 11) out.2.2.2.2.2.2.2.2.2.1 ++ (ce_X5 kA (g 12) out.2.2.2.2.2.2.2.2.2.2)))))))))) := by
  refine mx_of (cc := cX12_setTone) (maxL := 4) (ret := (some .int)) (by decide) rfl (Nat.le_of_ble_eq_true rfl) ?_
  intro p e s m below meth c A B hx0 hZ hD hP hS ls hl
  obtain ⟨hx, hb, hr, hlk, hml, hown, hts, hK, hA, hnm⟩ := B
  have hown : s.vm.findClass RX12 = some m.cls := hown
  have hl : lv_has ls 4 [(0, .ref ((g 0) 0)), (1, .int a1), (2, .int a2), (3, .int a3)] := hl
  have hUX12 : ∀ w ∈ u_ws RX12 TX12 15, w.before [.ref ((g 0) 0), .int a1, .int a2, .int a3].toArray s = true := fun w h => hts w (List.mem_cons_of_mem _ (List.mem_append_left _ (List.mem_append_left _ (List.mem_append_left _ (List.mem_append_left _ (List.mem_append_right _ h))))))
  unfold ff_X12_setTone at hf
  refine lv_aload_n hx hb dX12_setTone_0 rfl (lv_at hl 0 rfl) ?_
  refine lv_iload_n hx hb dX12_setTone_1 rfl (lv_at hl 1 rfl) ?_
  refine lv_iload_n hx hb dX12_setTone_2 rfl (lv_at hl 2 rfl) ?_
  obtain ⟨u_1, he_2, hf⟩ := os_bd hf
  refine mx_callV ⟨hx, hb, hml, hown, hts⟩ (mm_X12_checkCell l hst zz D kA N g o_this o_this_panel a1 a2 u_1 he_2) (cwV 2 hts gX12_setTone_X12_checkCell rfl rfl rfl (by decide +kernel) ⟨Nat.le_of_ble_eq_true rfl, Nat.le_of_ble_eq_true rfl⟩) (wc := (ce_X12 kA g o_this ++ (ce_X5 kA (g 1) o_this_panel))) (ci := 8) (q0 := 0) rfl rfl rfl hl.1 (As := [.int a1, .int a2]) (rest := []) rfl (Nat.le_of_ble_eq_true rfl) dX12_setTone_3 ⟨Nat.le_of_ble_eq_true rfl, Nat.le_of_ble_eq_true rfl⟩ hK hP hD hS hA hZ [0, 1, 2, 3, 4, 5, 6, 7] [8, 9, 10, 11, 12, 13, 14, 15, 16, 17, 18, 19, 20, 21, 22, 23, 24, 25, 26, 27, 28, 29, 30, 31, 32, 33, 34, 35, 36, 37] [30, 31, 32, 33, 34, 35, 36, 37, 0, 1, 2, 3, 4, 5, 6, 7, 8, 9, 10, 11, 12, 13, 14, 15, 16, 17, 18, 19, 20, 21, 22, 23, 24, 25, 26, 27, 28, 29] rfl (by decide) rfl (by decide) (by decide) rfl (by decide) (wr := (ce_X3 kA (g 5) (fun k => g (6 + k)) o_this_history ++ (ce_X5 kA (g 6) o_this_history_panels0 ++ (ce_X5 kA (g 7) o_this_history_panels1 ++ (ce_X5 kA (g 8) o_this_history_panels2 ++ (ce_X5 kA (g 9) o_this_history_panels3 ++ (ce_X5 kA (g 10) o_this_history_panels4 ++ (ce_X5 kA (g 11) o_this_history_panels5 ++ (ce_X5 kA (g 12) o_this_history_panels6))))))))) (w2 := (ce_X12 kA g o_this ++ (ce_X5 kA (g 1) o_this_panel ++ (ce_X3 kA (g 5) (fun k => g (6 + k)) o_this_history ++ (ce_X5 kA (g 6) o_this_history_panels0 ++ (ce_X5 kA (g 7) o_this_history_panels1 ++ (ce_X5 kA (g 8) o_this_history_panels2 ++ (ce_X5 kA (g 9) o_this_history_panels3 ++ (ce_X5 kA (g 10) o_this_history_panels4 ++ (ce_X5 kA (g 11) o_this_history_panels5 ++ (ce_X5 kA (g 12) o_this_history_panels6))))))))))) (fun hx9 H locs q9 ce hP hD hS h91 h92 h93 => ?_) (fun hx9 H locs hP hD hS => ?_)
  · rw [if_neg hx9] at hf
    rw [← Option.some.inj hf]
    exact mx_out hx9 hx0 hlk hP hK hD hS h91 h92 h93 (Nat.le_of_ble_eq_true rfl) (Nat.le_of_ble_eq_true rfl)
  · rw [if_pos hx9] at hf
    refine W.widen (k := 1) (n := 6) (Nat.le_of_ble_eq_true rfl) (Nat.le_of_ble_eq_true rfl) ?_
    have hP : va_P D vwCl (ce_X12 kA g o_this ++ (ce_X5 kA (g 1) o_this_panel ++ (ce_X3 kA (g 5) (fun k => g (6 + k)) o_this_history ++ (ce_X5 kA (g 6) o_this_history_panels0 ++ (ce_X5 kA (g 7) o_this_history_panels1 ++ (ce_X5 kA (g 8) o_this_history_panels2 ++ (ce_X5 kA (g 9) o_this_history_panels3 ++ (ce_X5 kA (g 10) o_this_history_panels4 ++ (ce_X5 kA (g 11) o_this_history_panels5 ++ (ce_X5 kA (g 12) o_this_history_panels6)))))))))) H := hP
    refine lv_aload_n hx hb dX12_setTone_6 rfl (lv_at hl 0 rfl) ?_
    refine lv_iload_n hx hb dX12_setTone_7 rfl (lv_at hl 3 rfl) ?_
    obtain ⟨u_3, he_4, hf⟩ := os_bd hf
    refine mx_callV ⟨hx, hb, hml, hown, hts⟩ (mm_X12_checkTone l hst zz D kA N g o_this a3 u_3 he_4) (cwV 1 hts gX12_setTone_X12_checkTone rfl rfl rfl (by decide +kernel) ⟨Nat.le_of_ble_eq_true rfl, Nat.le_of_ble_eq_true rfl⟩) (wc := (ce_X12 kA g o_this)) (ci := 8) (q0 := 0) rfl rfl rfl hl.1 (As := [.int a3]) (rest := []) rfl (Nat.le_of_ble_eq_true rfl) dX12_setTone_8 ⟨Nat.le_of_ble_eq_true rfl, Nat.le_of_ble_eq_true rfl⟩ hK hP hD hS hA hZ [0, 1, 2, 3] [4, 5, 6, 7, 8, 9, 10, 11, 12, 13, 14, 15, 16, 17, 18, 19, 20, 21, 22, 23, 24, 25, 26, 27, 28, 29, 30, 31, 32, 33, 34, 35, 36, 37] [34, 35, 36, 37, 0, 1, 2, 3, 4, 5, 6, 7, 8, 9, 10, 11, 12, 13, 14, 15, 16, 17, 18, 19, 20, 21, 22, 23, 24, 25, 26, 27, 28, 29, 30, 31, 32, 33] rfl (by decide) rfl (by decide) (by decide) rfl (by decide) (wr := (ce_X5 kA (g 1) o_this_panel ++ (ce_X3 kA (g 5) (fun k => g (6 + k)) o_this_history ++ (ce_X5 kA (g 6) o_this_history_panels0 ++ (ce_X5 kA (g 7) o_this_history_panels1 ++ (ce_X5 kA (g 8) o_this_history_panels2 ++ (ce_X5 kA (g 9) o_this_history_panels3 ++ (ce_X5 kA (g 10) o_this_history_panels4 ++ (ce_X5 kA (g 11) o_this_history_panels5 ++ (ce_X5 kA (g 12) o_this_history_panels6)))))))))) (w2 := (ce_X12 kA g o_this ++ (ce_X5 kA (g 1) o_this_panel ++ (ce_X3 kA (g 5) (fun k => g (6 + k)) o_this_history ++ (ce_X5 kA (g 6) o_this_history_panels0 ++ (ce_X5 kA (g 7) o_this_history_panels1 ++ (ce_X5 kA (g 8) o_this_history_panels2 ++ (ce_X5 kA (g 9) o_this_history_panels3 ++ (ce_X5 kA (g 10) o_this_history_panels4 ++ (ce_X5 kA (g 11) o_this_history_panels5 ++ (ce_X5 kA (g 12) o_this_history_panels6))))))))))) (fun hx9 H locs q9 ce hP hD hS h91 h92 h93 => ?_) (fun hx9 H locs hP hD hS => ?_)
    · rw [if_neg hx9] at hf
      rw [← Option.some.inj hf]
      exact mx_out hx9 hx0 hlk hP hK hD hS h91 h92 h93 (Nat.le_of_ble_eq_true rfl) (Nat.le_of_ble_eq_true rfl)
    · rw [if_pos hx9] at hf
      refine W.widen (k := 2) (n := 12) (Nat.le_of_ble_eq_true rfl) (Nat.le_of_ble_eq_true rfl) ?_
      have hP : va_P D vwCl (ce_X12 kA g o_this ++ (ce_X5 kA (g 1) o_this_panel ++ (ce_X3 kA (g 5) (fun k => g (6 + k)) o_this_history ++ (ce_X5 kA (g 6) o_this_history_panels0 ++ (ce_X5 kA (g 7) o_this_history_panels1 ++ (ce_X5 kA (g 8) o_this_history_panels2 ++ (ce_X5 kA (g 9) o_this_history_panels3 ++ (ce_X5 kA (g 10) o_this_history_panels4 ++ (ce_X5 kA (g 11) o_this_history_panels5 ++ (ce_X5 kA (g 12) o_this_history_panels6)))))))))) H := hP
      refine lv_aload_n hx hb dX12_setTone_11 rfl (lv_at hl 0 rfl) ?_
      refine va_get (D := D) (ci := 8) (v := .ref ((g 5) 0)) (C := RX12) (T := TX12) (N := 15) hx hb hUX12 (fun _ h9 => h9) hown hK hP 0 rfl rfl 4 (by decide) (hts (Cond.fieldLink RX12 30 "ReliefBuilder" "history" "LReliefBuilder$History;") (List.mem_of_getElem? (i := 1) rfl)) (fun _ h9 => h9) rfl dX12_setTone_12 ?_
      refine lv_aload_n hx hb dX12_setTone_15 rfl (lv_at hl 0 rfl) ?_
      refine va_get (D := D) (ci := 8) (v := .ref ((g 1) 0)) (C := RX12) (T := TX12) (N := 15) hx hb hUX12 (fun _ h9 => h9) hown hK hP 0 rfl rfl 0 (by decide) (hts (Cond.fieldLink RX12 12 "ReliefBuilder" "panel" "LReliefBuilder$Panel;") (List.mem_of_getElem? (i := 2) rfl)) (fun _ h9 => h9) rfl dX12_setTone_16 ?_
      obtain ⟨u_5, he_6, hf⟩ := os_bd hf
      refine mc_callV ⟨hx, hb, hml, hown, hts⟩ (mm_X3_open l D kA N (g 5) (fun k => g (6 + k)) (g 1) o_this_history o_this_history_panels0 o_this_history_panels1 o_this_history_panels2 o_this_history_panels3 o_this_history_panels4 o_this_history_panels5 o_this_history_panels6 o_this_panel u_5 he_6) (cwV 1 hts gX12_setTone_X3_open rfl rfl rfl (by decide +kernel) ⟨Nat.le_of_ble_eq_true rfl, Nat.le_of_ble_eq_true rfl⟩) (wc := (ce_X3 kA (g 5) (fun k => g (6 + k)) o_this_history ++ (ce_X5 kA (g 6) o_this_history_panels0 ++ (ce_X5 kA (g 7) o_this_history_panels1 ++ (ce_X5 kA (g 8) o_this_history_panels2 ++ (ce_X5 kA (g 9) o_this_history_panels3 ++ (ce_X5 kA (g 10) o_this_history_panels4 ++ (ce_X5 kA (g 11) o_this_history_panels5 ++ (ce_X5 kA (g 12) o_this_history_panels6 ++ (ce_X5 kA (g 1) o_this_panel)))))))))) (ci := 0) (q0 := 0) rfl rfl rfl hl.1 (As := [.ref ((g 1) 0)]) (rest := []) rfl (Nat.le_of_ble_eq_true rfl) dX12_setTone_19 ⟨Nat.le_of_ble_eq_true rfl, Nat.le_of_ble_eq_true rfl⟩ hK hP hD hS hA [8, 9, 10, 11, 12, 13, 14, 15, 16, 17, 18, 19, 20, 21, 22, 23, 24, 25, 26, 27, 28, 29, 30, 31, 32, 33, 34, 35, 36, 37, 4, 5, 6, 7] [0, 1, 2, 3] [0, 1, 2, 3, 34, 35, 36, 37, 4, 5, 6, 7, 8, 9, 10, 11, 12, 13, 14, 15, 16, 17, 18, 19, 20, 21, 22, 23, 24, 25, 26, 27, 28, 29, 30, 31, 32, 33] rfl (by decide) rfl (by decide) (by decide) rfl (by decide) (wr := (ce_X12 kA g o_this)) (w2 := (ce_X12 kA g o_this ++ (ce_X5 kA (g 1) o_this_panel ++ (ce_X3 kA (g 5) (fun k => g (6 + k)) o_this_history ++ (ce_X5 kA (g 6) u_5.1 ++ (ce_X5 kA (g 7) u_5.2.1 ++ (ce_X5 kA (g 8) u_5.2.2.1 ++ (ce_X5 kA (g 9) u_5.2.2.2.1 ++ (ce_X5 kA (g 10) u_5.2.2.2.2.1 ++ (ce_X5 kA (g 11) u_5.2.2.2.2.2.1 ++ (ce_X5 kA (g 12) u_5.2.2.2.2.2.2))))))))))) (fun H locs hP hD hS => ?_)
      have hP : va_P D vwCl (ce_X12 kA g o_this ++ (ce_X5 kA (g 1) o_this_panel ++ (ce_X3 kA (g 5) (fun k => g (6 + k)) o_this_history ++ (ce_X5 kA (g 6) u_5.1 ++ (ce_X5 kA (g 7) u_5.2.1 ++ (ce_X5 kA (g 8) u_5.2.2.1 ++ (ce_X5 kA (g 9) u_5.2.2.2.1 ++ (ce_X5 kA (g 10) u_5.2.2.2.2.1 ++ (ce_X5 kA (g 11) u_5.2.2.2.2.2.1 ++ (ce_X5 kA (g 12) u_5.2.2.2.2.2.2)))))))))) H := hP
      refine lv_aload_n hx hb dX12_setTone_22 rfl (lv_at hl 0 rfl) ?_
      refine va_get (D := D) (ci := 8) (v := .ref ((g 1) 0)) (C := RX12) (T := TX12) (N := 15) hx hb hUX12 (fun _ h9 => h9) hown hK hP 0 rfl rfl 0 (by decide) (hts (Cond.fieldLink RX12 12 "ReliefBuilder" "panel" "LReliefBuilder$Panel;") (List.mem_of_getElem? (i := 2) rfl)) (fun _ h9 => h9) rfl dX12_setTone_23 ?_
      refine lv_iload_n hx hb dX12_setTone_26 rfl (lv_at hl 1 rfl) ?_
      refine lv_iload_n hx hb dX12_setTone_27 rfl (lv_at hl 2 rfl) ?_
      refine lv_iload_n hx hb dX12_setTone_28 rfl (lv_at hl 3 rfl) ?_
      obtain ⟨u_7, he_8, hf⟩ := os_bd hf
      refine mc_callV ⟨hx, hb, hml, hown, hts⟩ (mm_X5_paint l D kA N (g 1) o_this_panel a1 a2 a3 u_7 he_8) (cwV 3 hts gX12_setTone_X5_paint rfl rfl rfl (by decide +kernel) ⟨Nat.le_of_ble_eq_true rfl, Nat.le_of_ble_eq_true rfl⟩) (wc := (ce_X5 kA (g 1) o_this_panel)) (ci := 2) (q0 := 0) rfl rfl rfl hl.1 (As := [.int a1, .int a2, .int a3]) (rest := []) rfl (Nat.le_of_ble_eq_true rfl) dX12_setTone_29 ⟨Nat.le_of_ble_eq_true rfl, Nat.le_of_ble_eq_true rfl⟩ hK hP hD hS hA [4, 5, 6, 7] [0, 1, 2, 3, 8, 9, 10, 11, 12, 13, 14, 15, 16, 17, 18, 19, 20, 21, 22, 23, 24, 25, 26, 27, 28, 29, 30, 31, 32, 33, 34, 35, 36, 37] [0, 1, 2, 3, 34, 35, 36, 37, 4, 5, 6, 7, 8, 9, 10, 11, 12, 13, 14, 15, 16, 17, 18, 19, 20, 21, 22, 23, 24, 25, 26, 27, 28, 29, 30, 31, 32, 33] rfl (by decide) rfl (by decide) (by decide) rfl (by decide) (wr := (ce_X12 kA g o_this ++ (ce_X3 kA (g 5) (fun k => g (6 + k)) o_this_history ++ (ce_X5 kA (g 6) u_5.1 ++ (ce_X5 kA (g 7) u_5.2.1 ++ (ce_X5 kA (g 8) u_5.2.2.1 ++ (ce_X5 kA (g 9) u_5.2.2.2.1 ++ (ce_X5 kA (g 10) u_5.2.2.2.2.1 ++ (ce_X5 kA (g 11) u_5.2.2.2.2.2.1 ++ (ce_X5 kA (g 12) u_5.2.2.2.2.2.2)))))))))) (w2 := (ce_X12 kA g o_this ++ (ce_X5 kA (g 1) u_7 ++ (ce_X3 kA (g 5) (fun k => g (6 + k)) o_this_history ++ (ce_X5 kA (g 6) u_5.1 ++ (ce_X5 kA (g 7) u_5.2.1 ++ (ce_X5 kA (g 8) u_5.2.2.1 ++ (ce_X5 kA (g 9) u_5.2.2.2.1 ++ (ce_X5 kA (g 10) u_5.2.2.2.2.1 ++ (ce_X5 kA (g 11) u_5.2.2.2.2.2.1 ++ (ce_X5 kA (g 12) u_5.2.2.2.2.2.2))))))))))) (fun H locs hP hD hS => ?_)
      have hP : va_P D vwCl (ce_X12 kA g o_this ++ (ce_X5 kA (g 1) u_7 ++ (ce_X3 kA (g 5) (fun k => g (6 + k)) o_this_history ++ (ce_X5 kA (g 6) u_5.1 ++ (ce_X5 kA (g 7) u_5.2.1 ++ (ce_X5 kA (g 8) u_5.2.2.1 ++ (ce_X5 kA (g 9) u_5.2.2.2.1 ++ (ce_X5 kA (g 10) u_5.2.2.2.2.1 ++ (ce_X5 kA (g 11) u_5.2.2.2.2.2.1 ++ (ce_X5 kA (g 12) u_5.2.2.2.2.2.2)))))))))) H := hP
      refine lv_aload_n hx hb dX12_setTone_32 rfl (lv_at hl 0 rfl) ?_
      refine va_get (D := D) (ci := 8) (v := .ref ((g 5) 0)) (C := RX12) (T := TX12) (N := 15) hx hb hUX12 (fun _ h9 => h9) hown hK hP 0 rfl rfl 4 (by decide) (hts (Cond.fieldLink RX12 30 "ReliefBuilder" "history" "LReliefBuilder$History;") (List.mem_of_getElem? (i := 1) rfl)) (fun _ h9 => h9) rfl dX12_setTone_33 ?_
      refine lv_aload_n hx hb dX12_setTone_36 rfl (lv_at hl 0 rfl) ?_
      refine va_get (D := D) (ci := 8) (v := .ref ((g 1) 0)) (C := RX12) (T := TX12) (N := 15) hx hb hUX12 (fun _ h9 => h9) hown hK hP 0 rfl rfl 0 (by decide) (hts (Cond.fieldLink RX12 12 "ReliefBuilder" "panel" "LReliefBuilder$Panel;") (List.mem_of_getElem? (i := 2) rfl)) (fun _ h9 => h9) rfl dX12_setTone_37 ?_
      obtain ⟨u_9, he_10, hf⟩ := os_bd hf
      refine mc_callV ⟨hx, hb, hml, hown, hts⟩ (mm_X3_close l D kA N (g 5) (fun k => g (6 + k)) (g 1) o_this_history u_5.1 u_5.2.1 u_5.2.2.1 u_5.2.2.2.1 u_5.2.2.2.2.1 u_5.2.2.2.2.2.1 u_5.2.2.2.2.2.2 u_7 u_9 he_10) (cwV 1 hts gX12_setTone_X3_close rfl rfl rfl (by decide +kernel) ⟨Nat.le_of_ble_eq_true rfl, Nat.le_of_ble_eq_true rfl⟩) (wc := (ce_X3 kA (g 5) (fun k => g (6 + k)) o_this_history ++ (ce_X5 kA (g 6) u_5.1 ++ (ce_X5 kA (g 7) u_5.2.1 ++ (ce_X5 kA (g 8) u_5.2.2.1 ++ (ce_X5 kA (g 9) u_5.2.2.2.1 ++ (ce_X5 kA (g 10) u_5.2.2.2.2.1 ++ (ce_X5 kA (g 11) u_5.2.2.2.2.2.1 ++ (ce_X5 kA (g 12) u_5.2.2.2.2.2.2 ++ (ce_X5 kA (g 1) u_7)))))))))) (ci := 0) (q0 := 0) rfl rfl rfl hl.1 (As := [.ref ((g 1) 0)]) (rest := []) rfl (Nat.le_of_ble_eq_true rfl) dX12_setTone_40 ⟨Nat.le_of_ble_eq_true rfl, Nat.le_of_ble_eq_true rfl⟩ hK hP hD hS hA [8, 9, 10, 11, 12, 13, 14, 15, 16, 17, 18, 19, 20, 21, 22, 23, 24, 25, 26, 27, 28, 29, 30, 31, 32, 33, 34, 35, 36, 37, 4, 5, 6, 7] [0, 1, 2, 3] [0, 1, 2, 3, 34, 35, 36, 37, 4, 5, 6, 7, 8, 9, 10, 11, 12, 13, 14, 15, 16, 17, 18, 19, 20, 21, 22, 23, 24, 25, 26, 27, 28, 29, 30, 31, 32, 33] rfl (by decide) rfl (by decide) (by decide) rfl (by decide) (wr := (ce_X12 kA g o_this)) (w2 := (ce_X12 kA g o_this ++ (ce_X5 kA (g 1) u_7 ++ (ce_X3 kA (g 5) (fun k => g (6 + k)) u_9 ++ (ce_X5 kA (g 6) u_5.1 ++ (ce_X5 kA (g 7) u_5.2.1 ++ (ce_X5 kA (g 8) u_5.2.2.1 ++ (ce_X5 kA (g 9) u_5.2.2.2.1 ++ (ce_X5 kA (g 10) u_5.2.2.2.2.1 ++ (ce_X5 kA (g 11) u_5.2.2.2.2.2.1 ++ (ce_X5 kA (g 12) u_5.2.2.2.2.2.2))))))))))) (fun H locs hP hD hS => ?_)
      have hP : va_P D vwCl (ce_X12 kA g o_this ++ (ce_X5 kA (g 1) u_7 ++ (ce_X3 kA (g 5) (fun k => g (6 + k)) u_9 ++ (ce_X5 kA (g 6) u_5.1 ++ (ce_X5 kA (g 7) u_5.2.1 ++ (ce_X5 kA (g 8) u_5.2.2.1 ++ (ce_X5 kA (g 9) u_5.2.2.2.1 ++ (ce_X5 kA (g 10) u_5.2.2.2.2.1 ++ (ce_X5 kA (g 11) u_5.2.2.2.2.2.1 ++ (ce_X5 kA (g 12) u_5.2.2.2.2.2.2)))))))))) H := hP
      refine lv_aload_n hx hb dX12_setTone_43 rfl (lv_at hl 0 rfl) ?_
      refine va_get (D := D) (ci := 8) (v := .ref ((g 1) 0)) (C := RX12) (T := TX12) (N := 15) hx hb hUX12 (fun _ h9 => h9) hown hK hP 0 rfl rfl 0 (by decide) (hts (Cond.fieldLink RX12 12 "ReliefBuilder" "panel" "LReliefBuilder$Panel;") (List.mem_of_getElem? (i := 2) rfl)) (fun _ h9 => h9) rfl dX12_setTone_44 ?_
      refine lv_iload_n hx hb dX12_setTone_47 rfl (lv_at hl 1 rfl) ?_
      refine lv_iload_n hx hb dX12_setTone_48 rfl (lv_at hl 2 rfl) ?_
      obtain ⟨u_11, he_12, hf⟩ := os_bd hf
      refine mc_callV ⟨hx, hb, hml, hown, hts⟩ (mm_X5_heightAt l D kA N (g 1) u_7 a1 a2 u_11 he_12) (cwV 2 hts gX12_setTone_X5_heightAt rfl rfl rfl (by decide +kernel) ⟨Nat.le_of_ble_eq_true rfl, Nat.le_of_ble_eq_true rfl⟩) (wc := (ce_X5 kA (g 1) u_7)) (ci := 2) (q0 := 0) rfl rfl rfl hl.1 (As := [.int a1, .int a2]) (rest := []) rfl (Nat.le_of_ble_eq_true rfl) dX12_setTone_49 ⟨Nat.le_of_ble_eq_true rfl, Nat.le_of_ble_eq_true rfl⟩ hK hP hD hS hA [4, 5, 6, 7] [0, 1, 2, 3, 8, 9, 10, 11, 12, 13, 14, 15, 16, 17, 18, 19, 20, 21, 22, 23, 24, 25, 26, 27, 28, 29, 30, 31, 32, 33, 34, 35, 36, 37] [0, 1, 2, 3, 34, 35, 36, 37, 4, 5, 6, 7, 8, 9, 10, 11, 12, 13, 14, 15, 16, 17, 18, 19, 20, 21, 22, 23, 24, 25, 26, 27, 28, 29, 30, 31, 32, 33] rfl (by decide) rfl (by decide) (by decide) rfl (by decide) (wr := (ce_X12 kA g o_this ++ (ce_X3 kA (g 5) (fun k => g (6 + k)) u_9 ++ (ce_X5 kA (g 6) u_5.1 ++ (ce_X5 kA (g 7) u_5.2.1 ++ (ce_X5 kA (g 8) u_5.2.2.1 ++ (ce_X5 kA (g 9) u_5.2.2.2.1 ++ (ce_X5 kA (g 10) u_5.2.2.2.2.1 ++ (ce_X5 kA (g 11) u_5.2.2.2.2.2.1 ++ (ce_X5 kA (g 12) u_5.2.2.2.2.2.2)))))))))) (w2 := (ce_X12 kA g o_this ++ (ce_X5 kA (g 1) u_7 ++ (ce_X3 kA (g 5) (fun k => g (6 + k)) u_9 ++ (ce_X5 kA (g 6) u_5.1 ++ (ce_X5 kA (g 7) u_5.2.1 ++ (ce_X5 kA (g 8) u_5.2.2.1 ++ (ce_X5 kA (g 9) u_5.2.2.2.1 ++ (ce_X5 kA (g 10) u_5.2.2.2.2.1 ++ (ce_X5 kA (g 11) u_5.2.2.2.2.2.1 ++ (ce_X5 kA (g 12) u_5.2.2.2.2.2.2))))))))))) (fun H locs hP hD hS => ?_)
      have hP : va_P D vwCl (ce_X12 kA g o_this ++ (ce_X5 kA (g 1) u_7 ++ (ce_X3 kA (g 5) (fun k => g (6 + k)) u_9 ++ (ce_X5 kA (g 6) u_5.1 ++ (ce_X5 kA (g 7) u_5.2.1 ++ (ce_X5 kA (g 8) u_5.2.2.1 ++ (ce_X5 kA (g 9) u_5.2.2.2.1 ++ (ce_X5 kA (g 10) u_5.2.2.2.2.1 ++ (ce_X5 kA (g 11) u_5.2.2.2.2.2.1 ++ (ce_X5 kA (g 12) u_5.2.2.2.2.2.2)))))))))) H := hP
      rw [← Option.some.inj hf]
      exact mx_reti (Nat.le_of_ble_eq_true rfl) (Nat.le_of_ble_eq_true rfl) hx hb hr hlk hP hK hD hS dX12_setTone_52
def ff_X12_checkAllowed (N : Nat) (o_this : os_T) (o_this_panel : os_T) (a1 : Int32) : Option Nat :=
  ((ff_X5_allows N o_this_panel a1).bind fun u_1 => (if u_1 = 0 then some 2 else some 0))
set_option maxHeartbeats 4000000 in
set_option maxRecDepth 100000 in
theorem mm_X12_checkAllowed (l : Launch) (hst : l.stackTraces = false) (zz : Nat → Nat → Nat) (D : va_G) (kA : Nat → ClassId) (N : Nat) (g : Nat → Nat → Nat) (o_this : os_T) (o_this_panel : os_T) (a1 : Int32) (out : Nat) (hf : ff_X12_checkAllowed N o_this o_this_panel a1 = some out) : mx_C l zz D kA yX12_checkAllowed wsX12_checkAllowed ({ frames := 6, cells := 1, slots := 6, locals := 90 } : Room) [.ref ((g 0) 0), .int a1] (ce_X12 kA g o_this ++ (ce_X5 kA (g 1) o_this_panel)) out none (ce_X12 kA g o_this ++ (ce_X5 kA (g 1) o_this_panel)) := by
  refine mx_of (cc := cX12_checkAllowed) (maxL := 2) (ret := none) (by decide) rfl (Nat.le_of_ble_eq_true rfl) ?_
  intro p e s m below meth c A B hx0 hZ hD hP hS ls hl
  obtain ⟨hx, hb, hr, hlk, hml, hown, hts, hK, hA, hnm⟩ := B
  have hown : s.vm.findClass RX12 = some m.cls := hown
  have hl : lv_has ls 2 [(0, .ref ((g 0) 0)), (1, .int a1)] := hl
  have hUX12 : ∀ w ∈ u_ws RX12 TX12 15, w.before [.ref ((g 0) 0), .int a1].toArray s = true := fun w h => hts w (List.mem_cons_of_mem _ (List.mem_append_left _ (List.mem_append_left _ (List.mem_append_right _ h))))
  unfold ff_X12_checkAllowed at hf
  refine lv_aload_n hx hb dX12_checkAllowed_0 rfl (lv_at hl 0 rfl) ?_
  refine va_get (D := D) (ci := 8) (v := .ref ((g 1) 0)) (C := RX12) (T := TX12) (N := 15) hx hb hUX12 (fun _ h9 => h9) hown hK hP 0 rfl rfl 0 (by decide) (hts (Cond.fieldLink RX12 12 "ReliefBuilder" "panel" "LReliefBuilder$Panel;") (List.mem_of_getElem? (i := 3) rfl)) (fun _ h9 => h9) rfl dX12_checkAllowed_1 ?_
  refine lv_iload_n hx hb dX12_checkAllowed_4 rfl (lv_at hl 1 rfl) ?_
  obtain ⟨u_1, he_2, hf⟩ := os_bd hf
  refine mc_callV ⟨hx, hb, hml, hown, hts⟩ (mm_X5_allows l D kA N (g 1) o_this_panel a1 u_1 he_2) (cwV 1 hts gX12_checkAllowed_X5_allows rfl rfl rfl (by decide +kernel) ⟨Nat.le_of_ble_eq_true rfl, Nat.le_of_ble_eq_true rfl⟩) (wc := (ce_X5 kA (g 1) o_this_panel)) (ci := 2) (q0 := 0) rfl rfl rfl hl.1 (As := [.int a1]) (rest := []) rfl (Nat.le_of_ble_eq_true rfl) dX12_checkAllowed_5 ⟨Nat.le_of_ble_eq_true rfl, Nat.le_of_ble_eq_true rfl⟩ hK hP hD hS hA [4, 5, 6, 7] [0, 1, 2, 3] [0, 1, 2, 3, 4, 5, 6, 7] rfl (by decide) rfl (by decide) (by decide) rfl (by decide) (wr := (ce_X12 kA g o_this)) (w2 := (ce_X12 kA g o_this ++ (ce_X5 kA (g 1) o_this_panel))) (fun H locs hP hD hS => ?_)
  have hP : va_P D vwCl (ce_X12 kA g o_this ++ (ce_X5 kA (g 1) o_this_panel)) H := hP
  refine lv_if_ne (tgt := 19) hx hb dX12_checkAllowed_8 (by decide) (fun hc_3 => ?_) (fun hc_3 => ?_)
  · rw [if_neg hc_3] at hf
    rw [← Option.some.inj hf]
    exact mx_retv (Nat.le_of_ble_eq_true rfl) (Nat.le_of_ble_eq_true rfl) hx hb hr hlk hP hK hD hS dX12_checkAllowed_19
  · rw [if_pos hc_3] at hf
    rw [← Option.some.inj hf]
    exact mx_throw (xc := 2) (own := RX12) (ik := 104) (ic := 106) (by decide) hx hb hst hown (by decide +kernel) (hts (Cond.classLink RX12 104 "java/lang/IllegalArgumentException") (List.mem_of_getElem? (i := 1) rfl)) (hts (Cond.initialized "java/lang/IllegalArgumentException") (List.mem_of_getElem? (i := 2) rfl)) (vx_hat (L := vx_at0 RX12 106 "java/lang/IllegalArgumentException" ["java/lang/RuntimeException", "java/lang/Exception"]) (B := [.declares ⟨"java/lang/RuntimeException", "<init>", "()V"⟩, .declares ⟨"java/lang/Exception", "<init>", "()V"⟩, .declares ⟨"java/lang/Throwable", "<init>", "()V"⟩, .castable "java/lang/IllegalArgumentException" "java/lang/IllegalArgumentException"]) (fun w h => hts w (List.mem_cons_of_mem _ (List.mem_append_right _ h))) (by decide +kernel) (st_bad (xc := 2) hZ.2.2.1.2.2)) (by decide +kernel) hZ hS (hl.1.trans hml.symm) hP hK hD dX12_checkAllowed_11 dX12_checkAllowed_14 dX12_checkAllowed_15 dX12_checkAllowed_18 hx0 (Nat.le_of_ble_eq_true rfl) (Nat.le_of_ble_eq_true rfl) (Nat.le_of_ble_eq_true rfl) (Nat.le_of_ble_eq_true rfl) hlk (Nat.le_of_ble_eq_true rfl) (Nat.le_of_ble_eq_true rfl)
def ff_X12_setHeight (N : Nat) (o_this : os_T) (o_this_panel : os_T) (o_this_history : os_T) (o_this_history_panels0 : os_T) (o_this_history_panels1 : os_T) (o_this_history_panels2 : os_T) (o_this_history_panels3 : os_T) (o_this_history_panels4 : os_T) (o_this_history_panels5 : os_T) (o_this_history_panels6 : os_T) (a1 : Int32) (a2 : Int32) (a3 : Int32) : Option (Nat × Int32 × os_T × os_T × os_T × os_T × os_T × os_T × os_T × os_T × os_T) :=
  ((ff_X12_checkCell N o_this o_this_panel a1 a2).bind fun u_1 => (if u_1 = 0 then ((ff_X12_checkAllowed N o_this o_this_panel a3).bind fun u_3 => (if u_3 = 0 then ((ff_X5_heightAt N o_this_panel a1 a2).bind fun u_5 => ((ff_X3_open N o_this_history o_this_history_panels0 o_this_history_panels1 o_this_history_panels2 o_this_history_panels3 o_this_history_panels4 o_this_history_panels5 o_this_history_panels6 o_this_panel).bind fun u_7 => ((ff_X5_build N o_this_panel a1 a2 a3).bind fun u_9 => ((ff_X3_close N o_this_history u_7.1 u_7.2.1 u_7.2.2.1 u_7.2.2.2.1 u_7.2.2.2.2.1 u_7.2.2.2.2.2.1 u_7.2.2.2.2.2.2 u_9.2).bind fun u_11 => some (0, u_5, u_9.2, u_11, u_7.1, u_7.2.1, u_7.2.2.1, u_7.2.2.2.1, u_7.2.2.2.2.1, u_7.2.2.2.2.2.1, u_7.2.2.2.2.2.2))))) else some (u_3, (0 : Int32), o_this_panel, o_this_history, o_this_history_panels0, o_this_history_panels1, o_this_history_panels2, o_this_history_panels3, o_this_history_panels4, o_this_history_panels5, o_this_history_panels6))) else some (u_1, (0 : Int32), o_this_panel, o_this_history, o_this_history_panels0, o_this_history_panels1, o_this_history_panels2, o_this_history_panels3, o_this_history_panels4, o_this_history_panels5, o_this_history_panels6)))
set_option maxHeartbeats 4000000 in
set_option maxRecDepth 100000 in
theorem mm_X12_setHeight (l : Launch) (hst : l.stackTraces = false) (zz : Nat → Nat → Nat) (D : va_G) (kA : Nat → ClassId) (N : Nat) (g : Nat → Nat → Nat) (o_this : os_T) (o_this_panel : os_T) (o_this_history : os_T) (o_this_history_panels0 : os_T) (o_this_history_panels1 : os_T) (o_this_history_panels2 : os_T) (o_this_history_panels3 : os_T) (o_this_history_panels4 : os_T) (o_this_history_panels5 : os_T) (o_this_history_panels6 : os_T) (a1 : Int32) (a2 : Int32) (a3 : Int32) (out : (Nat × Int32 × os_T × os_T × os_T × os_T × os_T × os_T × os_T × os_T × os_T)) (hf : ff_X12_setHeight N o_this o_this_panel o_this_history o_this_history_panels0 o_this_history_panels1 o_this_history_panels2 o_this_history_panels3 o_this_history_panels4 o_this_history_panels5 o_this_history_panels6 a1 a2 a3 = some out) : mx_C l zz D kA yX12_setHeight wsX12_setHeight ({ frames := 7, cells := 2, slots := 12, locals := 123 } : Room) [.ref ((g 0) 0), .int a1, .int a2, .int a3] (ce_X12 kA g o_this ++ (ce_X5 kA (g 1) o_this_panel ++ (ce_X3 kA (g 5) (fun k => g (6 + k)) o_this_history ++ (ce_X5 kA (g 6) o_this_history_panels0 ++ (ce_X5 kA (g 7) o_this_history_panels1 ++ (ce_X5 kA (g 8) o_this_history_panels2 ++ (ce_X5 kA (g 9) o_this_history_panels3 ++ (ce_X5 kA (g 10) o_this_history_panels4 ++ (ce_X5 kA (g 11) o_this_history_panels5 ++ (ce_X5 kA (g 12) o_this_history_panels6)))))))))) out.1 (some (.int out.2.1)) (ce_X12 kA g o_this ++ (ce_X5 kA (g 1) out.2.2.1 ++ (ce_X3 kA (g 5) (fun k => g (6 + k)) out.2.2.2.1 ++ (ce_X5 kA (g 6) out.2.2.2.2.1 ++ (ce_X5 kA (g 7) out.2.2.2.2.2.1 ++ (ce_X5 kA (g 8) out.2.2.2.2.2.2.1 ++ (ce_X5 kA (g 9) out.2.2.2.2.2.2.2.1 ++ (ce_X5 kA (g 10) out.2.2.2.2.2.2.2.2.1 ++ (ce_X5 kA (g 11) out.2.2.2.2.2.2.2.2.2.1 ++ (ce_X5 kA (g 12) out.2.2.2.2.2.2.2.2.2.2)))))))))) := by
  refine mx_of (cc := cX12_setHeight) (maxL := 5) (ret := (some .int)) (by decide) rfl (Nat.le_of_ble_eq_true rfl) ?_
  intro p e s m below meth c A B hx0 hZ hD hP hS ls hl
  obtain ⟨hx, hb, hr, hlk, hml, hown, hts, hK, hA, hnm⟩ := B
  have hown : s.vm.findClass RX12 = some m.cls := hown
  have hl : lv_has ls 5 [(0, .ref ((g 0) 0)), (1, .int a1), (2, .int a2), (3, .int a3)] := hl
  have hUX12 : ∀ w ∈ u_ws RX12 TX12 15, w.before [.ref ((g 0) 0), .int a1, .int a2, .int a3].toArray s = true := fun w h => hts w (List.mem_cons_of_mem _ (List.mem_append_left _ (List.mem_append_left _ (List.mem_append_left _ (List.mem_append_left _ (List.mem_append_right _ h))))))
  unfold ff_X12_setHeight at hf
  refine lv_aload_n hx hb dX12_setHeight_0 rfl (lv_at hl 0 rfl) ?_
  refine lv_iload_n hx hb dX12_setHeight_1 rfl (lv_at hl 1 rfl) ?_
  refine lv_iload_n hx hb dX12_setHeight_2 rfl (lv_at hl 2 rfl) ?_
  obtain ⟨u_1, he_2, hf⟩ := os_bd hf
  refine mx_callV ⟨hx, hb, hml, hown, hts⟩ (mm_X12_checkCell l hst zz D kA N g o_this o_this_panel a1 a2 u_1 he_2) (cwV 2 hts gX12_setHeight_X12_checkCell rfl rfl rfl (by decide +kernel) ⟨Nat.le_of_ble_eq_true rfl, Nat.le_of_ble_eq_true rfl⟩) (wc := (ce_X12 kA g o_this ++ (ce_X5 kA (g 1) o_this_panel))) (ci := 8) (q0 := 0) rfl rfl rfl hl.1 (As := [.int a1, .int a2]) (rest := []) rfl (Nat.le_of_ble_eq_true rfl) dX12_setHeight_3 ⟨Nat.le_of_ble_eq_true rfl, Nat.le_of_ble_eq_true rfl⟩ hK hP hD hS hA hZ [0, 1, 2, 3, 4, 5, 6, 7] [8, 9, 10, 11, 12, 13, 14, 15, 16, 17, 18, 19, 20, 21, 22, 23, 24, 25, 26, 27, 28, 29, 30, 31, 32, 33, 34, 35, 36, 37] [30, 31, 32, 33, 34, 35, 36, 37, 0, 1, 2, 3, 4, 5, 6, 7, 8, 9, 10, 11, 12, 13, 14, 15, 16, 17, 18, 19, 20, 21, 22, 23, 24, 25, 26, 27, 28, 29] rfl (by decide) rfl (by decide) (by decide) rfl (by decide) (wr := (ce_X3 kA (g 5) (fun k => g (6 + k)) o_this_history ++ (ce_X5 kA (g 6) o_this_history_panels0 ++ (ce_X5 kA (g 7) o_this_history_panels1 ++ (ce_X5 kA (g 8) o_this_history_panels2 ++ (ce_X5 kA (g 9) o_this_history_panels3 ++ (ce_X5 kA (g 10) o_this_history_panels4 ++ (ce_X5 kA (g 11) o_this_history_panels5 ++ (ce_X5 kA (g 12) o_this_history_panels6))))))))) (w2 := (ce_X12 kA g o_this ++ (ce_X5 kA (g 1) o_this_panel ++ (ce_X3 kA (g 5) (fun k => g (6 + k)) o_this_history ++ (ce_X5 kA (g 6) o_this_history_panels0 ++ (ce_X5 kA (g 7) o_this_history_panels1 ++ (ce_X5 kA (g 8) o_this_history_panels2 ++ (ce_X5 kA (g 9) o_this_history_panels3 ++ (ce_X5 kA (g 10) o_this_history_panels4 ++ (ce_X5 kA (g 11) o_this_history_panels5 ++ (ce_X5 kA (g 12) o_this_history_panels6))))))))))) (fun hx9 H locs q9 ce hP hD hS h91 h92 h93 => ?_) (fun hx9 H locs hP hD hS => ?_)
  · rw [if_neg hx9] at hf
    rw [← Option.some.inj hf]
    exact mx_out hx9 hx0 hlk hP hK hD hS h91 h92 h93 (Nat.le_of_ble_eq_true rfl) (Nat.le_of_ble_eq_true rfl)
  · rw [if_pos hx9] at hf
    refine W.widen (k := 1) (n := 6) (Nat.le_of_ble_eq_true rfl) (Nat.le_of_ble_eq_true rfl) ?_
    have hP : va_P D vwCl (ce_X12 kA g o_this ++ (ce_X5 kA (g 1) o_this_panel ++ (ce_X3 kA (g 5) (fun k => g (6 + k)) o_this_history ++ (ce_X5 kA (g 6) o_this_history_panels0 ++ (ce_X5 kA (g 7) o_this_history_panels1 ++ (ce_X5 kA (g 8) o_this_history_panels2 ++ (ce_X5 kA (g 9) o_this_history_panels3 ++ (ce_X5 kA (g 10) o_this_history_panels4 ++ (ce_X5 kA (g 11) o_this_history_panels5 ++ (ce_X5 kA (g 12) o_this_history_panels6)))))))))) H := hP
    refine lv_aload_n hx hb dX12_setHeight_6 rfl (lv_at hl 0 rfl) ?_
    refine lv_iload_n hx hb dX12_setHeight_7 rfl (lv_at hl 3 rfl) ?_
    obtain ⟨u_3, he_4, hf⟩ := os_bd hf
    refine mx_callV ⟨hx, hb, hml, hown, hts⟩ (mm_X12_checkAllowed l hst zz D kA N g o_this o_this_panel a3 u_3 he_4) (cwV 1 hts gX12_setHeight_X12_checkAllowed rfl rfl rfl (by decide +kernel) ⟨Nat.le_of_ble_eq_true rfl, Nat.le_of_ble_eq_true rfl⟩) (wc := (ce_X12 kA g o_this ++ (ce_X5 kA (g 1) o_this_panel))) (ci := 8) (q0 := 0) rfl rfl rfl hl.1 (As := [.int a3]) (rest := []) rfl (Nat.le_of_ble_eq_true rfl) dX12_setHeight_8 ⟨Nat.le_of_ble_eq_true rfl, Nat.le_of_ble_eq_true rfl⟩ hK hP hD hS hA hZ [0, 1, 2, 3, 4, 5, 6, 7] [8, 9, 10, 11, 12, 13, 14, 15, 16, 17, 18, 19, 20, 21, 22, 23, 24, 25, 26, 27, 28, 29, 30, 31, 32, 33, 34, 35, 36, 37] [30, 31, 32, 33, 34, 35, 36, 37, 0, 1, 2, 3, 4, 5, 6, 7, 8, 9, 10, 11, 12, 13, 14, 15, 16, 17, 18, 19, 20, 21, 22, 23, 24, 25, 26, 27, 28, 29] rfl (by decide) rfl (by decide) (by decide) rfl (by decide) (wr := (ce_X3 kA (g 5) (fun k => g (6 + k)) o_this_history ++ (ce_X5 kA (g 6) o_this_history_panels0 ++ (ce_X5 kA (g 7) o_this_history_panels1 ++ (ce_X5 kA (g 8) o_this_history_panels2 ++ (ce_X5 kA (g 9) o_this_history_panels3 ++ (ce_X5 kA (g 10) o_this_history_panels4 ++ (ce_X5 kA (g 11) o_this_history_panels5 ++ (ce_X5 kA (g 12) o_this_history_panels6))))))))) (w2 := (ce_X12 kA g o_this ++ (ce_X5 kA (g 1) o_this_panel ++ (ce_X3 kA (g 5) (fun k => g (6 + k)) o_this_history ++ (ce_X5 kA (g 6) o_this_history_panels0 ++ (ce_X5 kA (g 7) o_this_history_panels1 ++ (ce_X5 kA (g 8) o_this_history_panels2 ++ (ce_X5 kA (g 9) o_this_history_panels3 ++ (ce_X5 kA (g 10) o_this_history_panels4 ++ (ce_X5 kA (g 11) o_this_history_panels5 ++ (ce_X5 kA (g 12) o_this_history_panels6))))))))))) (fun hx9 H locs q9 ce hP hD hS h91 h92 h93 => ?_) (fun hx9 H locs hP hD hS => ?_)
    · rw [if_neg hx9] at hf
      rw [← Option.some.inj hf]
      exact mx_out hx9 hx0 hlk hP hK hD hS h91 h92 h93 (Nat.le_of_ble_eq_true rfl) (Nat.le_of_ble_eq_true rfl)
    · rw [if_pos hx9] at hf
      refine W.widen (k := 2) (n := 12) (Nat.le_of_ble_eq_true rfl) (Nat.le_of_ble_eq_true rfl) ?_
      have hP : va_P D vwCl (ce_X12 kA g o_this ++ (ce_X5 kA (g 1) o_this_panel ++ (ce_X3 kA (g 5) (fun k => g (6 + k)) o_this_history ++ (ce_X5 kA (g 6) o_this_history_panels0 ++ (ce_X5 kA (g 7) o_this_history_panels1 ++ (ce_X5 kA (g 8) o_this_history_panels2 ++ (ce_X5 kA (g 9) o_this_history_panels3 ++ (ce_X5 kA (g 10) o_this_history_panels4 ++ (ce_X5 kA (g 11) o_this_history_panels5 ++ (ce_X5 kA (g 12) o_this_history_panels6)))))))))) H := hP
      refine lv_aload_n hx hb dX12_setHeight_11 rfl (lv_at hl 0 rfl) ?_
      refine va_get (D := D) (ci := 8) (v := .ref ((g 1) 0)) (C := RX12) (T := TX12) (N := 15) hx hb hUX12 (fun _ h9 => h9) hown hK hP 0 rfl rfl 0 (by decide) (hts (Cond.fieldLink RX12 12 "ReliefBuilder" "panel" "LReliefBuilder$Panel;") (List.mem_of_getElem? (i := 1) rfl)) (fun _ h9 => h9) rfl dX12_setHeight_12 ?_
      refine lv_iload_n hx hb dX12_setHeight_15 rfl (lv_at hl 1 rfl) ?_
      refine lv_iload_n hx hb dX12_setHeight_16 rfl (lv_at hl 2 rfl) ?_
      obtain ⟨u_5, he_6, hf⟩ := os_bd hf
      refine mc_callV ⟨hx, hb, hml, hown, hts⟩ (mm_X5_heightAt l D kA N (g 1) o_this_panel a1 a2 u_5 he_6) (cwV 2 hts gX12_setHeight_X5_heightAt rfl rfl rfl (by decide +kernel) ⟨Nat.le_of_ble_eq_true rfl, Nat.le_of_ble_eq_true rfl⟩) (wc := (ce_X5 kA (g 1) o_this_panel)) (ci := 2) (q0 := 0) rfl rfl rfl hl.1 (As := [.int a1, .int a2]) (rest := []) rfl (Nat.le_of_ble_eq_true rfl) dX12_setHeight_17 ⟨Nat.le_of_ble_eq_true rfl, Nat.le_of_ble_eq_true rfl⟩ hK hP hD hS hA [4, 5, 6, 7] [0, 1, 2, 3, 8, 9, 10, 11, 12, 13, 14, 15, 16, 17, 18, 19, 20, 21, 22, 23, 24, 25, 26, 27, 28, 29, 30, 31, 32, 33, 34, 35, 36, 37] [0, 1, 2, 3, 34, 35, 36, 37, 4, 5, 6, 7, 8, 9, 10, 11, 12, 13, 14, 15, 16, 17, 18, 19, 20, 21, 22, 23, 24, 25, 26, 27, 28, 29, 30, 31, 32, 33] rfl (by decide) rfl (by decide) (by decide) rfl (by decide) (wr := (ce_X12 kA g o_this ++ (ce_X3 kA (g 5) (fun k => g (6 + k)) o_this_history ++ (ce_X5 kA (g 6) o_this_history_panels0 ++ (ce_X5 kA (g 7) o_this_history_panels1 ++ (ce_X5 kA (g 8) o_this_history_panels2 ++ (ce_X5 kA (g 9) o_this_history_panels3 ++ (ce_X5 kA (g 10) o_this_history_panels4 ++ (ce_X5 kA (g 11) o_this_history_panels5 ++ (ce_X5 kA (g 12) o_this_history_panels6)))))))))) (w2 := (ce_X12 kA g o_this ++ (ce_X5 kA (g 1) o_this_panel ++ (ce_X3 kA (g 5) (fun k => g (6 + k)) o_this_history ++ (ce_X5 kA (g 6) o_this_history_panels0 ++ (ce_X5 kA (g 7) o_this_history_panels1 ++ (ce_X5 kA (g 8) o_this_history_panels2 ++ (ce_X5 kA (g 9) o_this_history_panels3 ++ (ce_X5 kA (g 10) o_this_history_panels4 ++ (ce_X5 kA (g 11) o_this_history_panels5 ++ (ce_X5 kA (g 12) o_this_history_panels6))))))))))) (fun H locs hP hD hS => ?_)
      have hP : va_P D vwCl (ce_X12 kA g o_this ++ (ce_X5 kA (g 1) o_this_panel ++ (ce_X3 kA (g 5) (fun k => g (6 + k)) o_this_history ++ (ce_X5 kA (g 6) o_this_history_panels0 ++ (ce_X5 kA (g 7) o_this_history_panels1 ++ (ce_X5 kA (g 8) o_this_history_panels2 ++ (ce_X5 kA (g 9) o_this_history_panels3 ++ (ce_X5 kA (g 10) o_this_history_panels4 ++ (ce_X5 kA (g 11) o_this_history_panels5 ++ (ce_X5 kA (g 12) o_this_history_panels6)))))))))) H := hP
      refine lv_istore (lv' := [(4, .int u_5), (0, .ref ((g 0) 0)), (1, .int a1), (2, .int a2), (3, .int a3)]) hx hb dX12_setHeight_20 hl (by decide) rfl (fun ls hl => ?_)
      refine lv_aload_n hx hb dX12_setHeight_22 rfl (lv_at hl 1 rfl) ?_
      refine va_get (D := D) (ci := 8) (v := .ref ((g 5) 0)) (C := RX12) (T := TX12) (N := 15) hx hb hUX12 (fun _ h9 => h9) hown hK hP 0 rfl rfl 4 (by decide) (hts (Cond.fieldLink RX12 30 "ReliefBuilder" "history" "LReliefBuilder$History;") (List.mem_of_getElem? (i := 2) rfl)) (fun _ h9 => h9) rfl dX12_setHeight_23 ?_
      refine lv_aload_n hx hb dX12_setHeight_26 rfl (lv_at hl 1 rfl) ?_
      refine va_get (D := D) (ci := 8) (v := .ref ((g 1) 0)) (C := RX12) (T := TX12) (N := 15) hx hb hUX12 (fun _ h9 => h9) hown hK hP 0 rfl rfl 0 (by decide) (hts (Cond.fieldLink RX12 12 "ReliefBuilder" "panel" "LReliefBuilder$Panel;") (List.mem_of_getElem? (i := 1) rfl)) (fun _ h9 => h9) rfl dX12_setHeight_27 ?_
      obtain ⟨u_7, he_8, hf⟩ := os_bd hf
      refine mc_callV ⟨hx, hb, hml, hown, hts⟩ (mm_X3_open l D kA N (g 5) (fun k => g (6 + k)) (g 1) o_this_history o_this_history_panels0 o_this_history_panels1 o_this_history_panels2 o_this_history_panels3 o_this_history_panels4 o_this_history_panels5 o_this_history_panels6 o_this_panel u_7 he_8) (cwV 1 hts gX12_setHeight_X3_open rfl rfl rfl (by decide +kernel) ⟨Nat.le_of_ble_eq_true rfl, Nat.le_of_ble_eq_true rfl⟩) (wc := (ce_X3 kA (g 5) (fun k => g (6 + k)) o_this_history ++ (ce_X5 kA (g 6) o_this_history_panels0 ++ (ce_X5 kA (g 7) o_this_history_panels1 ++ (ce_X5 kA (g 8) o_this_history_panels2 ++ (ce_X5 kA (g 9) o_this_history_panels3 ++ (ce_X5 kA (g 10) o_this_history_panels4 ++ (ce_X5 kA (g 11) o_this_history_panels5 ++ (ce_X5 kA (g 12) o_this_history_panels6 ++ (ce_X5 kA (g 1) o_this_panel)))))))))) (ci := 0) (q0 := 0) rfl rfl rfl hl.1 (As := [.ref ((g 1) 0)]) (rest := []) rfl (Nat.le_of_ble_eq_true rfl) dX12_setHeight_30 ⟨Nat.le_of_ble_eq_true rfl, Nat.le_of_ble_eq_true rfl⟩ hK hP hD hS hA [8, 9, 10, 11, 12, 13, 14, 15, 16, 17, 18, 19, 20, 21, 22, 23, 24, 25, 26, 27, 28, 29, 30, 31, 32, 33, 34, 35, 36, 37, 4, 5, 6, 7] [0, 1, 2, 3] [0, 1, 2, 3, 34, 35, 36, 37, 4, 5, 6, 7, 8, 9, 10, 11, 12, 13, 14, 15, 16, 17, 18, 19, 20, 21, 22, 23, 24, 25, 26, 27, 28, 29, 30, 31, 32, 33] rfl (by decide) rfl (by decide) (by decide) rfl (by decide) (wr := (ce_X12 kA g o_this)) (w2 := (ce_X12 kA g o_this ++ (ce_X5 kA (g 1) o_this_panel ++ (ce_X3 kA (g 5) (fun k => g (6 + k)) o_this_history ++ (ce_X5 kA (g 6) u_7.1 ++ (ce_X5 kA (g 7) u_7.2.1 ++ (ce_X5 kA (g 8) u_7.2.2.1 ++ (ce_X5 kA (g 9) u_7.2.2.2.1 ++ (ce_X5 kA (g 10) u_7.2.2.2.2.1 ++ (ce_X5 kA (g 11) u_7.2.2.2.2.2.1 ++ (ce_X5 kA (g 12) u_7.2.2.2.2.2.2))))))))))) (fun H locs hP hD hS => ?_)
      have hP : va_P D vwCl (ce_X12 kA g o_this ++ (ce_X5 kA (g 1) o_this_panel ++ (ce_X3 kA (g 5) (fun k => g (6 + k)) o_this_history ++ (ce_X5 kA (g 6) u_7.1 ++ (ce_X5 kA (g 7) u_7.2.1 ++ (ce_X5 kA (g 8) u_7.2.2.1 ++ (ce_X5 kA (g 9) u_7.2.2.2.1 ++ (ce_X5 kA (g 10) u_7.2.2.2.2.1 ++ (ce_X5 kA (g 11) u_7.2.2.2.2.2.1 ++ (ce_X5 kA (g 12) u_7.2.2.2.2.2.2)))))))))) H := hP
      refine lv_aload_n hx hb dX12_setHeight_33 rfl (lv_at hl 1 rfl) ?_
      refine va_get (D := D) (ci := 8) (v := .ref ((g 1) 0)) (C := RX12) (T := TX12) (N := 15) hx hb hUX12 (fun _ h9 => h9) hown hK hP 0 rfl rfl 0 (by decide) (hts (Cond.fieldLink RX12 12 "ReliefBuilder" "panel" "LReliefBuilder$Panel;") (List.mem_of_getElem? (i := 1) rfl)) (fun _ h9 => h9) rfl dX12_setHeight_34 ?_
      refine lv_iload_n hx hb dX12_setHeight_37 rfl (lv_at hl 2 rfl) ?_
      refine lv_iload_n hx hb dX12_setHeight_38 rfl (lv_at hl 3 rfl) ?_
      refine lv_iload_n hx hb dX12_setHeight_39 rfl (lv_at hl 4 rfl) ?_
      obtain ⟨u_9, he_10, hf⟩ := os_bd hf
      refine mc_callV ⟨hx, hb, hml, hown, hts⟩ (mm_X5_build l D kA N (g 1) o_this_panel a1 a2 a3 u_9 he_10) (cwV 3 hts gX12_setHeight_X5_build rfl rfl rfl (by decide +kernel) ⟨Nat.le_of_ble_eq_true rfl, Nat.le_of_ble_eq_true rfl⟩) (wc := (ce_X5 kA (g 1) o_this_panel)) (ci := 2) (q0 := 0) rfl rfl rfl hl.1 (As := [.int a1, .int a2, .int a3]) (rest := []) rfl (Nat.le_of_ble_eq_true rfl) dX12_setHeight_40 ⟨Nat.le_of_ble_eq_true rfl, Nat.le_of_ble_eq_true rfl⟩ hK hP hD hS hA [4, 5, 6, 7] [0, 1, 2, 3, 8, 9, 10, 11, 12, 13, 14, 15, 16, 17, 18, 19, 20, 21, 22, 23, 24, 25, 26, 27, 28, 29, 30, 31, 32, 33, 34, 35, 36, 37] [0, 1, 2, 3, 34, 35, 36, 37, 4, 5, 6, 7, 8, 9, 10, 11, 12, 13, 14, 15, 16, 17, 18, 19, 20, 21, 22, 23, 24, 25, 26, 27, 28, 29, 30, 31, 32, 33] rfl (by decide) rfl (by decide) (by decide) rfl (by decide) (wr := (ce_X12 kA g o_this ++ (ce_X3 kA (g 5) (fun k => g (6 + k)) o_this_history ++ (ce_X5 kA (g 6) u_7.1 ++ (ce_X5 kA (g 7) u_7.2.1 ++ (ce_X5 kA (g 8) u_7.2.2.1 ++ (ce_X5 kA (g 9) u_7.2.2.2.1 ++ (ce_X5 kA (g 10) u_7.2.2.2.2.1 ++ (ce_X5 kA (g 11) u_7.2.2.2.2.2.1 ++ (ce_X5 kA (g 12) u_7.2.2.2.2.2.2)))))))))) (w2 := (ce_X12 kA g o_this ++ (ce_X5 kA (g 1) u_9.2 ++ (ce_X3 kA (g 5) (fun k => g (6 + k)) o_this_history ++ (ce_X5 kA (g 6) u_7.1 ++ (ce_X5 kA (g 7) u_7.2.1 ++ (ce_X5 kA (g 8) u_7.2.2.1 ++ (ce_X5 kA (g 9) u_7.2.2.2.1 ++ (ce_X5 kA (g 10) u_7.2.2.2.2.1 ++ (ce_X5 kA (g 11) u_7.2.2.2.2.2.1 ++ (ce_X5 kA (g 12) u_7.2.2.2.2.2.2))))))))))) (fun H locs hP hD hS => ?_)
      have hP : va_P D vwCl (ce_X12 kA g o_this ++ (ce_X5 kA (g 1) u_9.2 ++ (ce_X3 kA (g 5) (fun k => g (6 + k)) o_this_history ++ (ce_X5 kA (g 6) u_7.1 ++ (ce_X5 kA (g 7) u_7.2.1 ++ (ce_X5 kA (g 8) u_7.2.2.1 ++ (ce_X5 kA (g 9) u_7.2.2.2.1 ++ (ce_X5 kA (g 10) u_7.2.2.2.2.1 ++ (ce_X5 kA (g 11) u_7.2.2.2.2.2.1 ++ (ce_X5 kA (g 12) u_7.2.2.2.2.2.2)))))))))) H := hP
      refine lv_pop hx hb dX12_setHeight_43 rfl ?_
      refine lv_aload_n hx hb dX12_setHeight_44 rfl (lv_at hl 1 rfl) ?_
      refine va_get (D := D) (ci := 8) (v := .ref ((g 5) 0)) (C := RX12) (T := TX12) (N := 15) hx hb hUX12 (fun _ h9 => h9) hown hK hP 0 rfl rfl 4 (by decide) (hts (Cond.fieldLink RX12 30 "ReliefBuilder" "history" "LReliefBuilder$History;") (List.mem_of_getElem? (i := 2) rfl)) (fun _ h9 => h9) rfl dX12_setHeight_45 ?_
      refine lv_aload_n hx hb dX12_setHeight_48 rfl (lv_at hl 1 rfl) ?_
      refine va_get (D := D) (ci := 8) (v := .ref ((g 1) 0)) (C := RX12) (T := TX12) (N := 15) hx hb hUX12 (fun _ h9 => h9) hown hK hP 0 rfl rfl 0 (by decide) (hts (Cond.fieldLink RX12 12 "ReliefBuilder" "panel" "LReliefBuilder$Panel;") (List.mem_of_getElem? (i := 1) rfl)) (fun _ h9 => h9) rfl dX12_setHeight_49 ?_
      obtain ⟨u_11, he_12, hf⟩ := os_bd hf
      refine mc_callV ⟨hx, hb, hml, hown, hts⟩ (mm_X3_close l D kA N (g 5) (fun k => g (6 + k)) (g 1) o_this_history u_7.1 u_7.2.1 u_7.2.2.1 u_7.2.2.2.1 u_7.2.2.2.2.1 u_7.2.2.2.2.2.1 u_7.2.2.2.2.2.2 u_9.2 u_11 he_12) (cwV 1 hts gX12_setHeight_X3_close rfl rfl rfl (by decide +kernel) ⟨Nat.le_of_ble_eq_true rfl, Nat.le_of_ble_eq_true rfl⟩) (wc := (ce_X3 kA (g 5) (fun k => g (6 + k)) o_this_history ++ (ce_X5 kA (g 6) u_7.1 ++ (ce_X5 kA (g 7) u_7.2.1 ++ (ce_X5 kA (g 8) u_7.2.2.1 ++ (ce_X5 kA (g 9) u_7.2.2.2.1 ++ (ce_X5 kA (g 10) u_7.2.2.2.2.1 ++ (ce_X5 kA (g 11) u_7.2.2.2.2.2.1 ++ (ce_X5 kA (g 12) u_7.2.2.2.2.2.2 ++ (ce_X5 kA (g 1) u_9.2)))))))))) (ci := 0) (q0 := 0) rfl rfl rfl hl.1 (As := [.ref ((g 1) 0)]) (rest := []) rfl (Nat.le_of_ble_eq_true rfl) dX12_setHeight_52 ⟨Nat.le_of_ble_eq_true rfl, Nat.le_of_ble_eq_true rfl⟩ hK hP hD hS hA [8, 9, 10, 11, 12, 13, 14, 15, 16, 17, 18, 19, 20, 21, 22, 23, 24, 25, 26, 27, 28, 29, 30, 31, 32, 33, 34, 35, 36, 37, 4, 5, 6, 7] [0, 1, 2, 3] [0, 1, 2, 3, 34, 35, 36, 37, 4, 5, 6, 7, 8, 9, 10, 11, 12, 13, 14, 15, 16, 17, 18, 19, 20, 21, 22, 23, 24, 25, 26, 27, 28, 29, 30, 31, 32, 33] rfl (by decide) rfl (by decide) (by decide) rfl (by decide) (wr := (ce_X12 kA g o_this)) (w2 := (ce_X12 kA g o_this ++ (ce_X5 kA (g 1) u_9.2 ++ (ce_X3 kA (g 5) (fun k => g (6 + k)) u_11 ++ (ce_X5 kA (g 6) u_7.1 ++ (ce_X5 kA (g 7) u_7.2.1 ++ (ce_X5 kA (g 8) u_7.2.2.1 ++ (ce_X5 kA (g 9) u_7.2.2.2.1 ++ (ce_X5 kA (g 10) u_7.2.2.2.2.1 ++ (ce_X5 kA (g 11) u_7.2.2.2.2.2.1 ++ (ce_X5 kA (g 12) u_7.2.2.2.2.2.2))))))))))) (fun H locs hP hD hS => ?_)
      have hP : va_P D vwCl (ce_X12 kA g o_this ++ (ce_X5 kA (g 1) u_9.2 ++ (ce_X3 kA (g 5) (fun k => g (6 + k)) u_11 ++ (ce_X5 kA (g 6) u_7.1 ++ (ce_X5 kA (g 7) u_7.2.1 ++ (ce_X5 kA (g 8) u_7.2.2.1 ++ (ce_X5 kA (g 9) u_7.2.2.2.1 ++ (ce_X5 kA (g 10) u_7.2.2.2.2.1 ++ (ce_X5 kA (g 11) u_7.2.2.2.2.2.1 ++ (ce_X5 kA (g 12) u_7.2.2.2.2.2.2)))))))))) H := hP
      refine lv_iload hx hb dX12_setHeight_55 (lv_at hl 0 rfl) ?_
      rw [← Option.some.inj hf]
      exact mx_reti (Nat.le_of_ble_eq_true rfl) (Nat.le_of_ble_eq_true rfl) hx hb hr hlk hP hK hD hS dX12_setHeight_57
def ff_X12_fill (N : Nat) (o_this : os_T) (o_this_panel : os_T) (o_this_history : os_T) (o_this_history_panels0 : os_T) (o_this_history_panels1 : os_T) (o_this_history_panels2 : os_T) (o_this_history_panels3 : os_T) (o_this_history_panels4 : os_T) (o_this_history_panels5 : os_T) (o_this_history_panels6 : os_T) (a1 : Int32) (a2 : Int32) (a3 : Int32) (a4 : Int32) (a5 : Int32) : Option (Nat × Int32 × os_T × os_T × os_T × os_T × os_T × os_T × os_T × os_T × os_T) :=
  ((ff_X12_checkCell N o_this o_this_panel a1 a2).bind fun u_1 => (if u_1 = 0 then ((ff_X5_fits N o_this_panel a1 a2 a3 a4).bind fun u_3 => (if u_3 = 0 then some (2, (0 : Int32), o_this_panel, o_this_history, o_this_history_panels0, o_this_history_panels1, o_this_history_panels2, o_this_history_panels3, o_this_history_panels4, o_this_history_panels5, o_this_history_panels6) else ((ff_X12_checkAllowed N o_this o_this_panel a5).bind fun u_6 => (if u_6 = 0 then ((ff_X3_open N o_this_history o_this_history_panels0 o_this_history_panels1 o_this_history_panels2 o_this_history_panels3 o_this_history_panels4 o_this_history_panels5 o_this_history_panels6 o_this_panel).bind fun u_8 => ((ff_X5_cover N o_this_panel a1 a2 a3 a4 a5).bind fun u_10 => ((ff_X3_close N o_this_history u_8.1 u_8.2.1 u_8.2.2.1 u_8.2.2.2.1 u_8.2.2.2.2.1 u_8.2.2.2.2.2.1 u_8.2.2.2.2.2.2 u_10.2).bind fun u_12 => some (0, u_10.1, u_10.2, u_12, u_8.1, u_8.2.1, u_8.2.2.1, u_8.2.2.2.1, u_8.2.2.2.2.1, u_8.2.2.2.2.2.1, u_8.2.2.2.2.2.2)))) else some (u_6, (0 : Int32), o_this_panel, o_this_history, o_this_history_panels0, o_this_history_panels1, o_this_history_panels2, o_this_history_panels3, o_this_history_panels4, o_this_history_panels5, o_this_history_panels6))))) else some (u_1, (0 : Int32), o_this_panel, o_this_history, o_this_history_panels0, o_this_history_panels1, o_this_history_panels2, o_this_history_panels3, o_this_history_panels4, o_this_history_panels5, o_this_history_panels6)))
set_option maxHeartbeats 4000000 in
set_option maxRecDepth 100000 in
theorem mm_X12_fill (l : Launch) (hst : l.stackTraces = false) (zz : Nat → Nat → Nat) (D : va_G) (kA : Nat → ClassId) (N : Nat) (g : Nat → Nat → Nat) (o_this : os_T) (o_this_panel : os_T) (o_this_history : os_T) (o_this_history_panels0 : os_T) (o_this_history_panels1 : os_T) (o_this_history_panels2 : os_T) (o_this_history_panels3 : os_T) (o_this_history_panels4 : os_T) (o_this_history_panels5 : os_T) (o_this_history_panels6 : os_T) (a1 : Int32) (a2 : Int32) (a3 : Int32) (a4 : Int32) (a5 : Int32) (out : (Nat × Int32 × os_T × os_T × os_T × os_T × os_T × os_T × os_T × os_T × os_T)) (hf : ff_X12_fill N o_this o_this_panel o_this_history o_this_history_panels0 o_this_history_panels1 o_this_history_panels2 o_this_history_panels3 o_this_history_panels4 o_this_history_panels5 o_this_history_panels6 a1 a2 a3 a4 a5 = some out) : mx_C l zz D kA yX12_fill wsX12_fill ({ frames := 7, cells := 3, slots := 18, locals := 123 } : Room) [.ref ((g 0) 0), .int a1, .int a2, .int a3, .int a4, .int a5] (ce_X12 kA g o_this ++ (ce_X5 kA (g 1) o_this_panel ++ (ce_X3 kA (g 5) (fun k => g (6 + k)) o_this_history ++ (ce_X5 kA (g 6) o_this_history_panels0 ++ (ce_X5 kA (g 7) o_this_history_panels1 ++ (ce_X5 kA (g 8) o_this_history_panels2 ++ (ce_X5 kA (g 9) o_this_history_panels3 ++ (ce_X5 kA (g 10) o_this_history_panels4 ++ (ce_X5 kA (g 11) o_this_history_panels5 ++ (ce_X5 kA (g 12) o_this_history_panels6)))))))))) out.1 (some (.int out.2.1)) (ce_X12 kA g o_this ++ (ce_X5 kA (g 1) out.2.2.1 ++ (ce_X3 kA (g 5) (fun k => g (6 + k)) out.2.2.2.1 ++ (ce_X5 kA (g 6) out.2.2.2.2.1 ++ (ce_X5 kA (g 7) out.2.2.2.2.2.1 ++ (ce_X5 kA (g 8) out.2.2.2.2.2.2.1 ++ (ce_X5 kA (g 9) out.2.2.2.2.2.2.2.1 ++ (ce_X5 kA (g 10) out.2.2.2.2.2.2.2.2.1 ++ (ce_X5 kA (g 11) out.2.2.2.2.2.2.2.2.2.1 ++ (ce_X5 kA (g 12) out.2.2.2.2.2.2.2.2.2.2)))))))))) := by
  refine mx_of (cc := cX12_fill) (maxL := 7) (ret := (some .int)) (by decide) rfl (Nat.le_of_ble_eq_true rfl) ?_
  intro p e s m below meth c A B hx0 hZ hD hP hS ls hl
  obtain ⟨hx, hb, hr, hlk, hml, hown, hts, hK, hA, hnm⟩ := B
  have hown : s.vm.findClass RX12 = some m.cls := hown
  have hl : lv_has ls 7 [(0, .ref ((g 0) 0)), (1, .int a1), (2, .int a2), (3, .int a3), (4, .int a4), (5, .int a5)] := hl
  have hUX12 : ∀ w ∈ u_ws RX12 TX12 15, w.before [.ref ((g 0) 0), .int a1, .int a2, .int a3, .int a4, .int a5].toArray s = true := fun w h => hts w (List.mem_cons_of_mem _ (List.mem_append_left _ (List.mem_append_left _ (List.mem_append_left _ (List.mem_append_left _ (List.mem_append_right _ h))))))
  unfold ff_X12_fill at hf
  refine lv_aload_n hx hb dX12_fill_0 rfl (lv_at hl 0 rfl) ?_
  refine lv_iload_n hx hb dX12_fill_1 rfl (lv_at hl 1 rfl) ?_
  refine lv_iload_n hx hb dX12_fill_2 rfl (lv_at hl 2 rfl) ?_
  obtain ⟨u_1, he_2, hf⟩ := os_bd hf
  refine mx_callV ⟨hx, hb, hml, hown, hts⟩ (mm_X12_checkCell l hst zz D kA N g o_this o_this_panel a1 a2 u_1 he_2) (cwV 2 hts gX12_fill_X12_checkCell rfl rfl rfl (by decide +kernel) ⟨Nat.le_of_ble_eq_true rfl, Nat.le_of_ble_eq_true rfl⟩) (wc := (ce_X12 kA g o_this ++ (ce_X5 kA (g 1) o_this_panel))) (ci := 8) (q0 := 0) rfl rfl rfl hl.1 (As := [.int a1, .int a2]) (rest := []) rfl (Nat.le_of_ble_eq_true rfl) dX12_fill_3 ⟨Nat.le_of_ble_eq_true rfl, Nat.le_of_ble_eq_true rfl⟩ hK hP hD hS hA hZ [0, 1, 2, 3, 4, 5, 6, 7] [8, 9, 10, 11, 12, 13, 14, 15, 16, 17, 18, 19, 20, 21, 22, 23, 24, 25, 26, 27, 28, 29, 30, 31, 32, 33, 34, 35, 36, 37] [30, 31, 32, 33, 34, 35, 36, 37, 0, 1, 2, 3, 4, 5, 6, 7, 8, 9, 10, 11, 12, 13, 14, 15, 16, 17, 18, 19, 20, 21, 22, 23, 24, 25, 26, 27, 28, 29] rfl (by decide) rfl (by decide) (by decide) rfl (by decide) (wr := (ce_X3 kA (g 5) (fun k => g (6 + k)) o_this_history ++ (ce_X5 kA (g 6) o_this_history_panels0 ++ (ce_X5 kA (g 7) o_this_history_panels1 ++ (ce_X5 kA (g 8) o_this_history_panels2 ++ (ce_X5 kA (g 9) o_this_history_panels3 ++ (ce_X5 kA (g 10) o_this_history_panels4 ++ (ce_X5 kA (g 11) o_this_history_panels5 ++ (ce_X5 kA (g 12) o_this_history_panels6))))))))) (w2 := (ce_X12 kA g o_this ++ (ce_X5 kA (g 1) o_this_panel ++ (ce_X3 kA (g 5) (fun k => g (6 + k)) o_this_history ++ (ce_X5 kA (g 6) o_this_history_panels0 ++ (ce_X5 kA (g 7) o_this_history_panels1 ++ (ce_X5 kA (g 8) o_this_history_panels2 ++ (ce_X5 kA (g 9) o_this_history_panels3 ++ (ce_X5 kA (g 10) o_this_history_panels4 ++ (ce_X5 kA (g 11) o_this_history_panels5 ++ (ce_X5 kA (g 12) o_this_history_panels6))))))))))) (fun hx9 H locs q9 ce hP hD hS h91 h92 h93 => ?_) (fun hx9 H locs hP hD hS => ?_)
  · rw [if_neg hx9] at hf
    rw [← Option.some.inj hf]
    exact mx_out hx9 hx0 hlk hP hK hD hS h91 h92 h93 (Nat.le_of_ble_eq_true rfl) (Nat.le_of_ble_eq_true rfl)
  · rw [if_pos hx9] at hf
    refine W.widen (k := 1) (n := 6) (Nat.le_of_ble_eq_true rfl) (Nat.le_of_ble_eq_true rfl) ?_
    have hP : va_P D vwCl (ce_X12 kA g o_this ++ (ce_X5 kA (g 1) o_this_panel ++ (ce_X3 kA (g 5) (fun k => g (6 + k)) o_this_history ++ (ce_X5 kA (g 6) o_this_history_panels0 ++ (ce_X5 kA (g 7) o_this_history_panels1 ++ (ce_X5 kA (g 8) o_this_history_panels2 ++ (ce_X5 kA (g 9) o_this_history_panels3 ++ (ce_X5 kA (g 10) o_this_history_panels4 ++ (ce_X5 kA (g 11) o_this_history_panels5 ++ (ce_X5 kA (g 12) o_this_history_panels6)))))))))) H := hP
    refine lv_aload_n hx hb dX12_fill_6 rfl (lv_at hl 0 rfl) ?_
    refine va_get (D := D) (ci := 8) (v := .ref ((g 1) 0)) (C := RX12) (T := TX12) (N := 15) hx hb hUX12 (fun _ h9 => h9) hown hK hP 0 rfl rfl 0 (by decide) (hts (Cond.fieldLink RX12 12 "ReliefBuilder" "panel" "LReliefBuilder$Panel;") (List.mem_of_getElem? (i := 3) rfl)) (fun _ h9 => h9) rfl dX12_fill_7 ?_
    refine lv_iload_n hx hb dX12_fill_10 rfl (lv_at hl 1 rfl) ?_
    refine lv_iload_n hx hb dX12_fill_11 rfl (lv_at hl 2 rfl) ?_
    refine lv_iload_n hx hb dX12_fill_12 rfl (lv_at hl 3 rfl) ?_
    refine lv_iload hx hb dX12_fill_13 (lv_at hl 4 rfl) ?_
    obtain ⟨u_3, he_4, hf⟩ := os_bd hf
    refine mc_callV ⟨hx, hb, hml, hown, hts⟩ (mm_X5_fits l D kA N (g 1) o_this_panel a1 a2 a3 a4 u_3 he_4) (cwV 4 hts gX12_fill_X5_fits rfl rfl rfl (by decide +kernel) ⟨Nat.le_of_ble_eq_true rfl, Nat.le_of_ble_eq_true rfl⟩) (wc := (ce_X5 kA (g 1) o_this_panel)) (ci := 2) (q0 := 0) rfl rfl rfl hl.1 (As := [.int a1, .int a2, .int a3, .int a4]) (rest := []) rfl (Nat.le_of_ble_eq_true rfl) dX12_fill_15 ⟨Nat.le_of_ble_eq_true rfl, Nat.le_of_ble_eq_true rfl⟩ hK hP hD hS hA [4, 5, 6, 7] [0, 1, 2, 3, 8, 9, 10, 11, 12, 13, 14, 15, 16, 17, 18, 19, 20, 21, 22, 23, 24, 25, 26, 27, 28, 29, 30, 31, 32, 33, 34, 35, 36, 37] [0, 1, 2, 3, 34, 35, 36, 37, 4, 5, 6, 7, 8, 9, 10, 11, 12, 13, 14, 15, 16, 17, 18, 19, 20, 21, 22, 23, 24, 25, 26, 27, 28, 29, 30, 31, 32, 33] rfl (by decide) rfl (by decide) (by decide) rfl (by decide) (wr := (ce_X12 kA g o_this ++ (ce_X3 kA (g 5) (fun k => g (6 + k)) o_this_history ++ (ce_X5 kA (g 6) o_this_history_panels0 ++ (ce_X5 kA (g 7) o_this_history_panels1 ++ (ce_X5 kA (g 8) o_this_history_panels2 ++ (ce_X5 kA (g 9) o_this_history_panels3 ++ (ce_X5 kA (g 10) o_this_history_panels4 ++ (ce_X5 kA (g 11) o_this_history_panels5 ++ (ce_X5 kA (g 12) o_this_history_panels6)))))))))) (w2 := (ce_X12 kA g o_this ++ (ce_X5 kA (g 1) o_this_panel ++ (ce_X3 kA (g 5) (fun k => g (6 + k)) o_this_history ++ (ce_X5 kA (g 6) o_this_history_panels0 ++ (ce_X5 kA (g 7) o_this_history_panels1 ++ (ce_X5 kA (g 8) o_this_history_panels2 ++ (ce_X5 kA (g 9) o_this_history_panels3 ++ (ce_X5 kA (g 10) o_this_history_panels4 ++ (ce_X5 kA (g 11) o_this_history_panels5 ++ (ce_X5 kA (g 12) o_this_history_panels6))))))))))) (fun H locs hP hD hS => ?_)
    have hP : va_P D vwCl (ce_X12 kA g o_this ++ (ce_X5 kA (g 1) o_this_panel ++ (ce_X3 kA (g 5) (fun k => g (6 + k)) o_this_history ++ (ce_X5 kA (g 6) o_this_history_panels0 ++ (ce_X5 kA (g 7) o_this_history_panels1 ++ (ce_X5 kA (g 8) o_this_history_panels2 ++ (ce_X5 kA (g 9) o_this_history_panels3 ++ (ce_X5 kA (g 10) o_this_history_panels4 ++ (ce_X5 kA (g 11) o_this_history_panels5 ++ (ce_X5 kA (g 12) o_this_history_panels6)))))))))) H := hP
    refine lv_if_ne (tgt := 29) hx hb dX12_fill_18 (by decide) (fun hc_5 => ?_) (fun hc_5 => ?_)
    · rw [if_neg hc_5] at hf
      refine lv_aload_n hx hb dX12_fill_29 rfl (lv_at hl 0 rfl) ?_
      refine lv_iload hx hb dX12_fill_30 (lv_at hl 5 rfl) ?_
      obtain ⟨u_6, he_7, hf⟩ := os_bd hf
      refine mx_callV ⟨hx, hb, hml, hown, hts⟩ (mm_X12_checkAllowed l hst zz D kA N g o_this o_this_panel a5 u_6 he_7) (cwV 1 hts gX12_fill_X12_checkAllowed rfl rfl rfl (by decide +kernel) ⟨Nat.le_of_ble_eq_true rfl, Nat.le_of_ble_eq_true rfl⟩) (wc := (ce_X12 kA g o_this ++ (ce_X5 kA (g 1) o_this_panel))) (ci := 8) (q0 := 0) rfl rfl rfl hl.1 (As := [.int a5]) (rest := []) rfl (Nat.le_of_ble_eq_true rfl) dX12_fill_32 ⟨Nat.le_of_ble_eq_true rfl, Nat.le_of_ble_eq_true rfl⟩ hK hP hD hS hA hZ [0, 1, 2, 3, 4, 5, 6, 7] [8, 9, 10, 11, 12, 13, 14, 15, 16, 17, 18, 19, 20, 21, 22, 23, 24, 25, 26, 27, 28, 29, 30, 31, 32, 33, 34, 35, 36, 37] [30, 31, 32, 33, 34, 35, 36, 37, 0, 1, 2, 3, 4, 5, 6, 7, 8, 9, 10, 11, 12, 13, 14, 15, 16, 17, 18, 19, 20, 21, 22, 23, 24, 25, 26, 27, 28, 29] rfl (by decide) rfl (by decide) (by decide) rfl (by decide) (wr := (ce_X3 kA (g 5) (fun k => g (6 + k)) o_this_history ++ (ce_X5 kA (g 6) o_this_history_panels0 ++ (ce_X5 kA (g 7) o_this_history_panels1 ++ (ce_X5 kA (g 8) o_this_history_panels2 ++ (ce_X5 kA (g 9) o_this_history_panels3 ++ (ce_X5 kA (g 10) o_this_history_panels4 ++ (ce_X5 kA (g 11) o_this_history_panels5 ++ (ce_X5 kA (g 12) o_this_history_panels6))))))))) (w2 := (ce_X12 kA g o_this ++ (ce_X5 kA (g 1) o_this_panel ++ (ce_X3 kA (g 5) (fun k => g (6 + k)) o_this_history ++ (ce_X5 kA (g 6) o_this_history_panels0 ++ (ce_X5 kA (g 7) o_this_history_panels1 ++ (ce_X5 kA (g 8) o_this_history_panels2 ++ (ce_X5 kA (g 9) o_this_history_panels3 ++ (ce_X5 kA (g 10) o_this_history_panels4 ++ (ce_X5 kA (g 11) o_this_history_panels5 ++ (ce_X5 kA (g 12) o_this_history_panels6))))))))))) (fun hx9 H locs q9 ce hP hD hS h91 h92 h93 => ?_) (fun hx9 H locs hP hD hS => ?_)
      · rw [if_neg hx9] at hf
        rw [← Option.some.inj hf]
        exact mx_out hx9 hx0 hlk hP hK hD hS h91 h92 h93 (Nat.le_of_ble_eq_true rfl) (Nat.le_of_ble_eq_true rfl)
      · rw [if_pos hx9] at hf
        refine W.widen (k := 2) (n := 12) (Nat.le_of_ble_eq_true rfl) (Nat.le_of_ble_eq_true rfl) ?_
        have hP : va_P D vwCl (ce_X12 kA g o_this ++ (ce_X5 kA (g 1) o_this_panel ++ (ce_X3 kA (g 5) (fun k => g (6 + k)) o_this_history ++ (ce_X5 kA (g 6) o_this_history_panels0 ++ (ce_X5 kA (g 7) o_this_history_panels1 ++ (ce_X5 kA (g 8) o_this_history_panels2 ++ (ce_X5 kA (g 9) o_this_history_panels3 ++ (ce_X5 kA (g 10) o_this_history_panels4 ++ (ce_X5 kA (g 11) o_this_history_panels5 ++ (ce_X5 kA (g 12) o_this_history_panels6)))))))))) H := hP
        refine lv_aload_n hx hb dX12_fill_35 rfl (lv_at hl 0 rfl) ?_
        refine va_get (D := D) (ci := 8) (v := .ref ((g 5) 0)) (C := RX12) (T := TX12) (N := 15) hx hb hUX12 (fun _ h9 => h9) hown hK hP 0 rfl rfl 4 (by decide) (hts (Cond.fieldLink RX12 30 "ReliefBuilder" "history" "LReliefBuilder$History;") (List.mem_of_getElem? (i := 4) rfl)) (fun _ h9 => h9) rfl dX12_fill_36 ?_
        refine lv_aload_n hx hb dX12_fill_39 rfl (lv_at hl 0 rfl) ?_
        refine va_get (D := D) (ci := 8) (v := .ref ((g 1) 0)) (C := RX12) (T := TX12) (N := 15) hx hb hUX12 (fun _ h9 => h9) hown hK hP 0 rfl rfl 0 (by decide) (hts (Cond.fieldLink RX12 12 "ReliefBuilder" "panel" "LReliefBuilder$Panel;") (List.mem_of_getElem? (i := 3) rfl)) (fun _ h9 => h9) rfl dX12_fill_40 ?_
        obtain ⟨u_8, he_9, hf⟩ := os_bd hf
        refine mc_callV ⟨hx, hb, hml, hown, hts⟩ (mm_X3_open l D kA N (g 5) (fun k => g (6 + k)) (g 1) o_this_history o_this_history_panels0 o_this_history_panels1 o_this_history_panels2 o_this_history_panels3 o_this_history_panels4 o_this_history_panels5 o_this_history_panels6 o_this_panel u_8 he_9) (cwV 1 hts gX12_fill_X3_open rfl rfl rfl (by decide +kernel) ⟨Nat.le_of_ble_eq_true rfl, Nat.le_of_ble_eq_true rfl⟩) (wc := (ce_X3 kA (g 5) (fun k => g (6 + k)) o_this_history ++ (ce_X5 kA (g 6) o_this_history_panels0 ++ (ce_X5 kA (g 7) o_this_history_panels1 ++ (ce_X5 kA (g 8) o_this_history_panels2 ++ (ce_X5 kA (g 9) o_this_history_panels3 ++ (ce_X5 kA (g 10) o_this_history_panels4 ++ (ce_X5 kA (g 11) o_this_history_panels5 ++ (ce_X5 kA (g 12) o_this_history_panels6 ++ (ce_X5 kA (g 1) o_this_panel)))))))))) (ci := 0) (q0 := 0) rfl rfl rfl hl.1 (As := [.ref ((g 1) 0)]) (rest := []) rfl (Nat.le_of_ble_eq_true rfl) dX12_fill_43 ⟨Nat.le_of_ble_eq_true rfl, Nat.le_of_ble_eq_true rfl⟩ hK hP hD hS hA [8, 9, 10, 11, 12, 13, 14, 15, 16, 17, 18, 19, 20, 21, 22, 23, 24, 25, 26, 27, 28, 29, 30, 31, 32, 33, 34, 35, 36, 37, 4, 5, 6, 7] [0, 1, 2, 3] [0, 1, 2, 3, 34, 35, 36, 37, 4, 5, 6, 7, 8, 9, 10, 11, 12, 13, 14, 15, 16, 17, 18, 19, 20, 21, 22, 23, 24, 25, 26, 27, 28, 29, 30, 31, 32, 33] rfl (by decide) rfl (by decide) (by decide) rfl (by decide) (wr := (ce_X12 kA g o_this)) (w2 := (ce_X12 kA g o_this ++ (ce_X5 kA (g 1) o_this_panel ++ (ce_X3 kA (g 5) (fun k => g (6 + k)) o_this_history ++ (ce_X5 kA (g 6) u_8.1 ++ (ce_X5 kA (g 7) u_8.2.1 ++ (ce_X5 kA (g 8) u_8.2.2.1 ++ (ce_X5 kA (g 9) u_8.2.2.2.1 ++ (ce_X5 kA (g 10) u_8.2.2.2.2.1 ++ (ce_X5 kA (g 11) u_8.2.2.2.2.2.1 ++ (ce_X5 kA (g 12) u_8.2.2.2.2.2.2))))))))))) (fun H locs hP hD hS => ?_)
        have hP : va_P D vwCl (ce_X12 kA g o_this ++ (ce_X5 kA (g 1) o_this_panel ++ (ce_X3 kA (g 5) (fun k => g (6 + k)) o_this_history ++ (ce_X5 kA (g 6) u_8.1 ++ (ce_X5 kA (g 7) u_8.2.1 ++ (ce_X5 kA (g 8) u_8.2.2.1 ++ (ce_X5 kA (g 9) u_8.2.2.2.1 ++ (ce_X5 kA (g 10) u_8.2.2.2.2.1 ++ (ce_X5 kA (g 11) u_8.2.2.2.2.2.1 ++ (ce_X5 kA (g 12) u_8.2.2.2.2.2.2)))))))))) H := hP
        refine lv_aload_n hx hb dX12_fill_46 rfl (lv_at hl 0 rfl) ?_
        refine va_get (D := D) (ci := 8) (v := .ref ((g 1) 0)) (C := RX12) (T := TX12) (N := 15) hx hb hUX12 (fun _ h9 => h9) hown hK hP 0 rfl rfl 0 (by decide) (hts (Cond.fieldLink RX12 12 "ReliefBuilder" "panel" "LReliefBuilder$Panel;") (List.mem_of_getElem? (i := 3) rfl)) (fun _ h9 => h9) rfl dX12_fill_47 ?_
        refine lv_iload_n hx hb dX12_fill_50 rfl (lv_at hl 1 rfl) ?_
        refine lv_iload_n hx hb dX12_fill_51 rfl (lv_at hl 2 rfl) ?_
        refine lv_iload_n hx hb dX12_fill_52 rfl (lv_at hl 3 rfl) ?_
        refine lv_iload hx hb dX12_fill_53 (lv_at hl 4 rfl) ?_
        refine lv_iload hx hb dX12_fill_55 (lv_at hl 5 rfl) ?_
        obtain ⟨u_10, he_11, hf⟩ := os_bd hf
        refine mc_callV ⟨hx, hb, hml, hown, hts⟩ (mm_X5_cover l D kA N (g 1) o_this_panel a1 a2 a3 a4 a5 u_10 he_11) (cwV 5 hts gX12_fill_X5_cover rfl rfl rfl (by decide +kernel) ⟨Nat.le_of_ble_eq_true rfl, Nat.le_of_ble_eq_true rfl⟩) (wc := (ce_X5 kA (g 1) o_this_panel)) (ci := 2) (q0 := 0) rfl rfl rfl hl.1 (As := [.int a1, .int a2, .int a3, .int a4, .int a5]) (rest := []) rfl (Nat.le_of_ble_eq_true rfl) dX12_fill_57 ⟨Nat.le_of_ble_eq_true rfl, Nat.le_of_ble_eq_true rfl⟩ hK hP hD hS hA [4, 5, 6, 7] [0, 1, 2, 3, 8, 9, 10, 11, 12, 13, 14, 15, 16, 17, 18, 19, 20, 21, 22, 23, 24, 25, 26, 27, 28, 29, 30, 31, 32, 33, 34, 35, 36, 37] [0, 1, 2, 3, 34, 35, 36, 37, 4, 5, 6, 7, 8, 9, 10, 11, 12, 13, 14, 15, 16, 17, 18, 19, 20, 21, 22, 23, 24, 25, 26, 27, 28, 29, 30, 31, 32, 33] rfl (by decide) rfl (by decide) (by decide) rfl (by decide) (wr := (ce_X12 kA g o_this ++ (ce_X3 kA (g 5) (fun k => g (6 + k)) o_this_history ++ (ce_X5 kA (g 6) u_8.1 ++ (ce_X5 kA (g 7) u_8.2.1 ++ (ce_X5 kA (g 8) u_8.2.2.1 ++ (ce_X5 kA (g 9) u_8.2.2.2.1 ++ (ce_X5 kA (g 10) u_8.2.2.2.2.1 ++ (ce_X5 kA (g 11) u_8.2.2.2.2.2.1 ++ (ce_X5 kA (g 12) u_8.2.2.2.2.2.2)))))))))) (w2 := (ce_X12 kA g o_this ++ (ce_X5 kA (g 1) u_10.2 ++ (ce_X3 kA (g 5) (fun k => g (6 + k)) o_this_history ++ (ce_X5 kA (g 6) u_8.1 ++ (ce_X5 kA (g 7) u_8.2.1 ++ (ce_X5 kA (g 8) u_8.2.2.1 ++ (ce_X5 kA (g 9) u_8.2.2.2.1 ++ (ce_X5 kA (g 10) u_8.2.2.2.2.1 ++ (ce_X5 kA (g 11) u_8.2.2.2.2.2.1 ++ (ce_X5 kA (g 12) u_8.2.2.2.2.2.2))))))))))) (fun H locs hP hD hS => ?_)
        have hP : va_P D vwCl (ce_X12 kA g o_this ++ (ce_X5 kA (g 1) u_10.2 ++ (ce_X3 kA (g 5) (fun k => g (6 + k)) o_this_history ++ (ce_X5 kA (g 6) u_8.1 ++ (ce_X5 kA (g 7) u_8.2.1 ++ (ce_X5 kA (g 8) u_8.2.2.1 ++ (ce_X5 kA (g 9) u_8.2.2.2.1 ++ (ce_X5 kA (g 10) u_8.2.2.2.2.1 ++ (ce_X5 kA (g 11) u_8.2.2.2.2.2.1 ++ (ce_X5 kA (g 12) u_8.2.2.2.2.2.2)))))))))) H := hP
        refine lv_istore (lv' := [(6, .int u_10.1), (0, .ref ((g 0) 0)), (1, .int a1), (2, .int a2), (3, .int a3), (4, .int a4), (5, .int a5)]) hx hb dX12_fill_60 hl (by decide) rfl (fun ls hl => ?_)
        refine lv_aload_n hx hb dX12_fill_62 rfl (lv_at hl 1 rfl) ?_
        refine va_get (D := D) (ci := 8) (v := .ref ((g 5) 0)) (C := RX12) (T := TX12) (N := 15) hx hb hUX12 (fun _ h9 => h9) hown hK hP 0 rfl rfl 4 (by decide) (hts (Cond.fieldLink RX12 30 "ReliefBuilder" "history" "LReliefBuilder$History;") (List.mem_of_getElem? (i := 4) rfl)) (fun _ h9 => h9) rfl dX12_fill_63 ?_
        refine lv_aload_n hx hb dX12_fill_66 rfl (lv_at hl 1 rfl) ?_
        refine va_get (D := D) (ci := 8) (v := .ref ((g 1) 0)) (C := RX12) (T := TX12) (N := 15) hx hb hUX12 (fun _ h9 => h9) hown hK hP 0 rfl rfl 0 (by decide) (hts (Cond.fieldLink RX12 12 "ReliefBuilder" "panel" "LReliefBuilder$Panel;") (List.mem_of_getElem? (i := 3) rfl)) (fun _ h9 => h9) rfl dX12_fill_67 ?_
        obtain ⟨u_12, he_13, hf⟩ := os_bd hf
        refine mc_callV ⟨hx, hb, hml, hown, hts⟩ (mm_X3_close l D kA N (g 5) (fun k => g (6 + k)) (g 1) o_this_history u_8.1 u_8.2.1 u_8.2.2.1 u_8.2.2.2.1 u_8.2.2.2.2.1 u_8.2.2.2.2.2.1 u_8.2.2.2.2.2.2 u_10.2 u_12 he_13) (cwV 1 hts gX12_fill_X3_close rfl rfl rfl (by decide +kernel) ⟨Nat.le_of_ble_eq_true rfl, Nat.le_of_ble_eq_true rfl⟩) (wc := (ce_X3 kA (g 5) (fun k => g (6 + k)) o_this_history ++ (ce_X5 kA (g 6) u_8.1 ++ (ce_X5 kA (g 7) u_8.2.1 ++ (ce_X5 kA (g 8) u_8.2.2.1 ++ (ce_X5 kA (g 9) u_8.2.2.2.1 ++ (ce_X5 kA (g 10) u_8.2.2.2.2.1 ++ (ce_X5 kA (g 11) u_8.2.2.2.2.2.1 ++ (ce_X5 kA (g 12) u_8.2.2.2.2.2.2 ++ (ce_X5 kA (g 1) u_10.2)))))))))) (ci := 0) (q0 := 0) rfl rfl rfl hl.1 (As := [.ref ((g 1) 0)]) (rest := []) rfl (Nat.le_of_ble_eq_true rfl) dX12_fill_70 ⟨Nat.le_of_ble_eq_true rfl, Nat.le_of_ble_eq_true rfl⟩ hK hP hD hS hA [8, 9, 10, 11, 12, 13, 14, 15, 16, 17, 18, 19, 20, 21, 22, 23, 24, 25, 26, 27, 28, 29, 30, 31, 32, 33, 34, 35, 36, 37, 4, 5, 6, 7] [0, 1, 2, 3] [0, 1, 2, 3, 34, 35, 36, 37, 4, 5, 6, 7, 8, 9, 10, 11, 12, 13, 14, 15, 16, 17, 18, 19, 20, 21, 22, 23, 24, 25, 26, 27, 28, 29, 30, 31, 32, 33] rfl (by decide) rfl (by decide) (by decide) rfl (by decide) (wr := (ce_X12 kA g o_this)) (w2 := (ce_X12 kA g o_this ++ (ce_X5 kA (g 1) u_10.2 ++ (ce_X3 kA (g 5) (fun k => g (6 + k)) u_12 ++ (ce_X5 kA (g 6) u_8.1 ++ (ce_X5 kA (g 7) u_8.2.1 ++ (ce_X5 kA (g 8) u_8.2.2.1 ++ (ce_X5 kA (g 9) u_8.2.2.2.1 ++ (ce_X5 kA (g 10) u_8.2.2.2.2.1 ++ (ce_X5 kA (g 11) u_8.2.2.2.2.2.1 ++ (ce_X5 kA (g 12) u_8.2.2.2.2.2.2))))))))))) (fun H locs hP hD hS => ?_)
        have hP : va_P D vwCl (ce_X12 kA g o_this ++ (ce_X5 kA (g 1) u_10.2 ++ (ce_X3 kA (g 5) (fun k => g (6 + k)) u_12 ++ (ce_X5 kA (g 6) u_8.1 ++ (ce_X5 kA (g 7) u_8.2.1 ++ (ce_X5 kA (g 8) u_8.2.2.1 ++ (ce_X5 kA (g 9) u_8.2.2.2.1 ++ (ce_X5 kA (g 10) u_8.2.2.2.2.1 ++ (ce_X5 kA (g 11) u_8.2.2.2.2.2.1 ++ (ce_X5 kA (g 12) u_8.2.2.2.2.2.2)))))))))) H := hP
        refine lv_iload hx hb dX12_fill_73 (lv_at hl 0 rfl) ?_
        rw [← Option.some.inj hf]
        exact mx_reti (Nat.le_of_ble_eq_true rfl) (Nat.le_of_ble_eq_true rfl) hx hb hr hlk hP hK hD hS dX12_fill_75
    · rw [if_pos hc_5] at hf
      rw [← Option.some.inj hf]
      exact mx_throw (xc := 2) (own := RX12) (ik := 104) (ic := 106) (by decide) hx hb hst hown (by decide +kernel) (hts (Cond.classLink RX12 104 "java/lang/IllegalArgumentException") (List.mem_of_getElem? (i := 1) rfl)) (hts (Cond.initialized "java/lang/IllegalArgumentException") (List.mem_of_getElem? (i := 2) rfl)) (vx_hat (L := vx_at0 RX12 106 "java/lang/IllegalArgumentException" ["java/lang/RuntimeException", "java/lang/Exception"]) (B := [.declares ⟨"java/lang/RuntimeException", "<init>", "()V"⟩, .declares ⟨"java/lang/Exception", "<init>", "()V"⟩, .declares ⟨"java/lang/Throwable", "<init>", "()V"⟩, .castable "java/lang/IllegalArgumentException" "java/lang/IllegalArgumentException"]) (fun w h => hts w (List.mem_cons_of_mem _ (List.mem_append_left _ (List.mem_append_right _ h)))) (by decide +kernel) (st_bad (xc := 2) hZ.2.2.1.2.2)) (by decide +kernel) hZ hS (hl.1.trans hml.symm) hP hK hD dX12_fill_21 dX12_fill_24 dX12_fill_25 dX12_fill_28 hx0 (Nat.le_of_ble_eq_true rfl) (Nat.le_of_ble_eq_true rfl) (Nat.le_of_ble_eq_true rfl) (Nat.le_of_ble_eq_true rfl) hlk (Nat.le_of_ble_eq_true rfl) (Nat.le_of_ble_eq_true rfl)
def ff_X12_dither (N : Nat) (o_this : os_T) (o_this_panel : os_T) (o_this_history : os_T) (o_this_history_panels0 : os_T) (o_this_history_panels1 : os_T) (o_this_history_panels2 : os_T) (o_this_history_panels3 : os_T) (o_this_history_panels4 : os_T) (o_this_history_panels5 : os_T) (o_this_history_panels6 : os_T) : Option (Int32 × os_T × os_T × os_T × os_T × os_T × os_T × os_T × os_T × os_T) :=
  ((ff_X3_open N o_this_history o_this_history_panels0 o_this_history_panels1 o_this_history_panels2 o_this_history_panels3 o_this_history_panels4 o_this_history_panels5 o_this_history_panels6 o_this_panel).bind fun u_1 => ((ff_X2_spread N o_this_panel).bind fun u_3 => ((ff_X3_close N o_this_history u_1.1 u_1.2.1 u_1.2.2.1 u_1.2.2.2.1 u_1.2.2.2.2.1 u_1.2.2.2.2.2.1 u_1.2.2.2.2.2.2 u_3.2).bind fun u_5 => some (u_3.1, u_3.2, u_5, u_1.1, u_1.2.1, u_1.2.2.1, u_1.2.2.2.1, u_1.2.2.2.2.1, u_1.2.2.2.2.2.1, u_1.2.2.2.2.2.2))))
set_option maxHeartbeats 4000000 in
set_option maxRecDepth 100000 in
theorem mm_X12_dither (l : Launch) (D : va_G) (kA : Nat → ClassId) (N : Nat) (g : Nat → Nat → Nat) (o_this : os_T) (o_this_panel : os_T) (o_this_history : os_T) (o_this_history_panels0 : os_T) (o_this_history_panels1 : os_T) (o_this_history_panels2 : os_T) (o_this_history_panels3 : os_T) (o_this_history_panels4 : os_T) (o_this_history_panels5 : os_T) (o_this_history_panels6 : os_T) (out : (Int32 × os_T × os_T × os_T × os_T × os_T × os_T × os_T × os_T × os_T)) (hf : ff_X12_dither N o_this o_this_panel o_this_history o_this_history_panels0 o_this_history_panels1 o_this_history_panels2 o_this_history_panels3 o_this_history_panels4 o_this_history_panels5 o_this_history_panels6 = some out) : mc_C l D kA yX12_dither wsX12_dither ({ frames := 4, cells := 0, slots := 0, locals := 123 } : Room) [.ref ((g 0) 0)] (ce_X12 kA g o_this ++ (ce_X5 kA (g 1) o_this_panel ++ (ce_X3 kA (g 5) (fun k => g (6 + k)) o_this_history ++ (ce_X5 kA (g 6) o_this_history_panels0 ++ (ce_X5 kA (g 7) o_this_history_panels1 ++ (ce_X5 kA (g 8) o_this_history_panels2 ++ (ce_X5 kA (g 9) o_this_history_panels3 ++ (ce_X5 kA (g 10) o_this_history_panels4 ++ (ce_X5 kA (g 11) o_this_history_panels5 ++ (ce_X5 kA (g 12) o_this_history_panels6)))))))))) (some (.int out.1)) (ce_X12 kA g o_this ++ (ce_X5 kA (g 1) out.2.1 ++ (ce_X3 kA (g 5) (fun k => g (6 + k)) out.2.2.1 ++ (ce_X5 kA (g 6) out.2.2.2.1 ++ (ce_X5 kA (g 7) out.2.2.2.2.1 ++ (ce_X5 kA (g 8) out.2.2.2.2.2.1 ++ (ce_X5 kA (g 9) out.2.2.2.2.2.2.1 ++ (ce_X5 kA (g 10) out.2.2.2.2.2.2.2.1 ++ (ce_X5 kA (g 11) out.2.2.2.2.2.2.2.2.1 ++ (ce_X5 kA (g 12) out.2.2.2.2.2.2.2.2.2)))))))))) := by
  refine mc_of (cc := cX12_dither) (maxL := 2) (ret := (some .int)) (by decide) rfl (Nat.le_of_ble_eq_true rfl) ?_
  intro p e s m below meth c A B hD hP hS ls hl
  obtain ⟨hx, hb, hr, hlk, hml, hown, hts, hK, hA, hnm⟩ := B
  have hown : s.vm.findClass RX12 = some m.cls := hown
  have hl : lv_has ls 2 [(0, .ref ((g 0) 0))] := hl
  have hUX12 : ∀ w ∈ u_ws RX12 TX12 15, w.before [.ref ((g 0) 0)].toArray s = true := fun w h => hts w (List.mem_cons_of_mem _ (List.mem_append_left _ (List.mem_append_left _ (List.mem_append_right _ h))))
  unfold ff_X12_dither at hf
  refine lv_aload_n hx hb dX12_dither_0 rfl (lv_at hl 0 rfl) ?_
  refine va_get (D := D) (ci := 8) (v := .ref ((g 5) 0)) (C := RX12) (T := TX12) (N := 15) hx hb hUX12 (fun _ h9 => h9) hown hK hP 0 rfl rfl 4 (by decide) (hts (Cond.fieldLink RX12 30 "ReliefBuilder" "history" "LReliefBuilder$History;") (List.mem_of_getElem? (i := 1) rfl)) (fun _ h9 => h9) rfl dX12_dither_1 ?_
  refine lv_aload_n hx hb dX12_dither_4 rfl (lv_at hl 0 rfl) ?_
  refine va_get (D := D) (ci := 8) (v := .ref ((g 1) 0)) (C := RX12) (T := TX12) (N := 15) hx hb hUX12 (fun _ h9 => h9) hown hK hP 0 rfl rfl 0 (by decide) (hts (Cond.fieldLink RX12 12 "ReliefBuilder" "panel" "LReliefBuilder$Panel;") (List.mem_of_getElem? (i := 2) rfl)) (fun _ h9 => h9) rfl dX12_dither_5 ?_
  obtain ⟨u_1, he_2, hf⟩ := os_bd hf
  refine mc_callV ⟨hx, hb, hml, hown, hts⟩ (mm_X3_open l D kA N (g 5) (fun k => g (6 + k)) (g 1) o_this_history o_this_history_panels0 o_this_history_panels1 o_this_history_panels2 o_this_history_panels3 o_this_history_panels4 o_this_history_panels5 o_this_history_panels6 o_this_panel u_1 he_2) (cwV 1 hts gX12_dither_X3_open rfl rfl rfl (by decide +kernel) ⟨Nat.le_of_ble_eq_true rfl, Nat.le_of_ble_eq_true rfl⟩) (wc := (ce_X3 kA (g 5) (fun k => g (6 + k)) o_this_history ++ (ce_X5 kA (g 6) o_this_history_panels0 ++ (ce_X5 kA (g 7) o_this_history_panels1 ++ (ce_X5 kA (g 8) o_this_history_panels2 ++ (ce_X5 kA (g 9) o_this_history_panels3 ++ (ce_X5 kA (g 10) o_this_history_panels4 ++ (ce_X5 kA (g 11) o_this_history_panels5 ++ (ce_X5 kA (g 12) o_this_history_panels6 ++ (ce_X5 kA (g 1) o_this_panel)))))))))) (ci := 0) (q0 := 0) rfl rfl rfl hl.1 (As := [.ref ((g 1) 0)]) (rest := []) rfl (Nat.le_of_ble_eq_true rfl) dX12_dither_8 ⟨Nat.le_of_ble_eq_true rfl, Nat.le_of_ble_eq_true rfl⟩ hK hP hD hS hA [8, 9, 10, 11, 12, 13, 14, 15, 16, 17, 18, 19, 20, 21, 22, 23, 24, 25, 26, 27, 28, 29, 30, 31, 32, 33, 34, 35, 36, 37, 4, 5, 6, 7] [0, 1, 2, 3] [0, 1, 2, 3, 34, 35, 36, 37, 4, 5, 6, 7, 8, 9, 10, 11, 12, 13, 14, 15, 16, 17, 18, 19, 20, 21, 22, 23, 24, 25, 26, 27, 28, 29, 30, 31, 32, 33] rfl (by decide) rfl (by decide) (by decide) rfl (by decide) (wr := (ce_X12 kA g o_this)) (w2 := (ce_X12 kA g o_this ++ (ce_X5 kA (g 1) o_this_panel ++ (ce_X3 kA (g 5) (fun k => g (6 + k)) o_this_history ++ (ce_X5 kA (g 6) u_1.1 ++ (ce_X5 kA (g 7) u_1.2.1 ++ (ce_X5 kA (g 8) u_1.2.2.1 ++ (ce_X5 kA (g 9) u_1.2.2.2.1 ++ (ce_X5 kA (g 10) u_1.2.2.2.2.1 ++ (ce_X5 kA (g 11) u_1.2.2.2.2.2.1 ++ (ce_X5 kA (g 12) u_1.2.2.2.2.2.2))))))))))) (fun H locs hP hD hS => ?_)
  have hP : va_P D vwCl (ce_X12 kA g o_this ++ (ce_X5 kA (g 1) o_this_panel ++ (ce_X3 kA (g 5) (fun k => g (6 + k)) o_this_history ++ (ce_X5 kA (g 6) u_1.1 ++ (ce_X5 kA (g 7) u_1.2.1 ++ (ce_X5 kA (g 8) u_1.2.2.1 ++ (ce_X5 kA (g 9) u_1.2.2.2.1 ++ (ce_X5 kA (g 10) u_1.2.2.2.2.1 ++ (ce_X5 kA (g 11) u_1.2.2.2.2.2.1 ++ (ce_X5 kA (g 12) u_1.2.2.2.2.2.2)))))))))) H := hP
  refine lv_aload_n hx hb dX12_dither_11 rfl (lv_at hl 0 rfl) ?_
  refine va_get (D := D) (ci := 8) (v := .ref ((g 1) 0)) (C := RX12) (T := TX12) (N := 15) hx hb hUX12 (fun _ h9 => h9) hown hK hP 0 rfl rfl 0 (by decide) (hts (Cond.fieldLink RX12 12 "ReliefBuilder" "panel" "LReliefBuilder$Panel;") (List.mem_of_getElem? (i := 2) rfl)) (fun _ h9 => h9) rfl dX12_dither_12 ?_
  obtain ⟨u_3, he_4, hf⟩ := os_bd hf
  refine mc_callS ⟨hx, hb, hml, hown, hts⟩ (mm_X2_spread l D kA N (g 1) o_this_panel u_3 he_4) (va_cwS 1 hts gX12_dither_X2_spread rfl rfl rfl (by decide +kernel) ⟨Nat.le_of_ble_eq_true rfl, Nat.le_of_ble_eq_true rfl⟩) (wc := (ce_X5 kA (g 1) o_this_panel)) rfl hl.1 (As := [.ref ((g 1) 0)]) (rest := []) rfl (Nat.le_of_ble_eq_true rfl) dX12_dither_15 ⟨Nat.le_of_ble_eq_true rfl, Nat.le_of_ble_eq_true rfl⟩ hK hP hD hS hA [4, 5, 6, 7] [0, 1, 2, 3, 8, 9, 10, 11, 12, 13, 14, 15, 16, 17, 18, 19, 20, 21, 22, 23, 24, 25, 26, 27, 28, 29, 30, 31, 32, 33, 34, 35, 36, 37] [0, 1, 2, 3, 34, 35, 36, 37, 4, 5, 6, 7, 8, 9, 10, 11, 12, 13, 14, 15, 16, 17, 18, 19, 20, 21, 22, 23, 24, 25, 26, 27, 28, 29, 30, 31, 32, 33] rfl (by decide) rfl (by decide) (by decide) rfl (by decide) (wr := (ce_X12 kA g o_this ++ (ce_X3 kA (g 5) (fun k => g (6 + k)) o_this_history ++ (ce_X5 kA (g 6) u_1.1 ++ (ce_X5 kA (g 7) u_1.2.1 ++ (ce_X5 kA (g 8) u_1.2.2.1 ++ (ce_X5 kA (g 9) u_1.2.2.2.1 ++ (ce_X5 kA (g 10) u_1.2.2.2.2.1 ++ (ce_X5 kA (g 11) u_1.2.2.2.2.2.1 ++ (ce_X5 kA (g 12) u_1.2.2.2.2.2.2)))))))))) (w2 := (ce_X12 kA g o_this ++ (ce_X5 kA (g 1) u_3.2 ++ (ce_X3 kA (g 5) (fun k => g (6 + k)) o_this_history ++ (ce_X5 kA (g 6) u_1.1 ++ (ce_X5 kA (g 7) u_1.2.1 ++ (ce_X5 kA (g 8) u_1.2.2.1 ++ (ce_X5 kA (g 9) u_1.2.2.2.1 ++ (ce_X5 kA (g 10) u_1.2.2.2.2.1 ++ (ce_X5 kA (g 11) u_1.2.2.2.2.2.1 ++ (ce_X5 kA (g 12) u_1.2.2.2.2.2.2))))))))))) (fun H locs hP hD hS => ?_)
  have hP : va_P D vwCl (ce_X12 kA g o_this ++ (ce_X5 kA (g 1) u_3.2 ++ (ce_X3 kA (g 5) (fun k => g (6 + k)) o_this_history ++ (ce_X5 kA (g 6) u_1.1 ++ (ce_X5 kA (g 7) u_1.2.1 ++ (ce_X5 kA (g 8) u_1.2.2.1 ++ (ce_X5 kA (g 9) u_1.2.2.2.1 ++ (ce_X5 kA (g 10) u_1.2.2.2.2.1 ++ (ce_X5 kA (g 11) u_1.2.2.2.2.2.1 ++ (ce_X5 kA (g 12) u_1.2.2.2.2.2.2)))))))))) H := hP
  refine lv_istore_n (lv' := [(1, .int u_3.1), (0, .ref ((g 0) 0))]) hx hb dX12_dither_18 rfl hl (by decide) rfl (fun ls hl => ?_)
  refine lv_aload_n hx hb dX12_dither_19 rfl (lv_at hl 1 rfl) ?_
  refine va_get (D := D) (ci := 8) (v := .ref ((g 5) 0)) (C := RX12) (T := TX12) (N := 15) hx hb hUX12 (fun _ h9 => h9) hown hK hP 0 rfl rfl 4 (by decide) (hts (Cond.fieldLink RX12 30 "ReliefBuilder" "history" "LReliefBuilder$History;") (List.mem_of_getElem? (i := 1) rfl)) (fun _ h9 => h9) rfl dX12_dither_20 ?_
  refine lv_aload_n hx hb dX12_dither_23 rfl (lv_at hl 1 rfl) ?_
  refine va_get (D := D) (ci := 8) (v := .ref ((g 1) 0)) (C := RX12) (T := TX12) (N := 15) hx hb hUX12 (fun _ h9 => h9) hown hK hP 0 rfl rfl 0 (by decide) (hts (Cond.fieldLink RX12 12 "ReliefBuilder" "panel" "LReliefBuilder$Panel;") (List.mem_of_getElem? (i := 2) rfl)) (fun _ h9 => h9) rfl dX12_dither_24 ?_
  obtain ⟨u_5, he_6, hf⟩ := os_bd hf
  refine mc_callV ⟨hx, hb, hml, hown, hts⟩ (mm_X3_close l D kA N (g 5) (fun k => g (6 + k)) (g 1) o_this_history u_1.1 u_1.2.1 u_1.2.2.1 u_1.2.2.2.1 u_1.2.2.2.2.1 u_1.2.2.2.2.2.1 u_1.2.2.2.2.2.2 u_3.2 u_5 he_6) (cwV 1 hts gX12_dither_X3_close rfl rfl rfl (by decide +kernel) ⟨Nat.le_of_ble_eq_true rfl, Nat.le_of_ble_eq_true rfl⟩) (wc := (ce_X3 kA (g 5) (fun k => g (6 + k)) o_this_history ++ (ce_X5 kA (g 6) u_1.1 ++ (ce_X5 kA (g 7) u_1.2.1 ++ (ce_X5 kA (g 8) u_1.2.2.1 ++ (ce_X5 kA (g 9) u_1.2.2.2.1 ++ (ce_X5 kA (g 10) u_1.2.2.2.2.1 ++ (ce_X5 kA (g 11) u_1.2.2.2.2.2.1 ++ (ce_X5 kA (g 12) u_1.2.2.2.2.2.2 ++ (ce_X5 kA (g 1) u_3.2)))))))))) (ci := 0) (q0 := 0) rfl rfl rfl hl.1 (As := [.ref ((g 1) 0)]) (rest := []) rfl (Nat.le_of_ble_eq_true rfl) dX12_dither_27 ⟨Nat.le_of_ble_eq_true rfl, Nat.le_of_ble_eq_true rfl⟩ hK hP hD hS hA [8, 9, 10, 11, 12, 13, 14, 15, 16, 17, 18, 19, 20, 21, 22, 23, 24, 25, 26, 27, 28, 29, 30, 31, 32, 33, 34, 35, 36, 37, 4, 5, 6, 7] [0, 1, 2, 3] [0, 1, 2, 3, 34, 35, 36, 37, 4, 5, 6, 7, 8, 9, 10, 11, 12, 13, 14, 15, 16, 17, 18, 19, 20, 21, 22, 23, 24, 25, 26, 27, 28, 29, 30, 31, 32, 33] rfl (by decide) rfl (by decide) (by decide) rfl (by decide) (wr := (ce_X12 kA g o_this)) (w2 := (ce_X12 kA g o_this ++ (ce_X5 kA (g 1) u_3.2 ++ (ce_X3 kA (g 5) (fun k => g (6 + k)) u_5 ++ (ce_X5 kA (g 6) u_1.1 ++ (ce_X5 kA (g 7) u_1.2.1 ++ (ce_X5 kA (g 8) u_1.2.2.1 ++ (ce_X5 kA (g 9) u_1.2.2.2.1 ++ (ce_X5 kA (g 10) u_1.2.2.2.2.1 ++ (ce_X5 kA (g 11) u_1.2.2.2.2.2.1 ++ (ce_X5 kA (g 12) u_1.2.2.2.2.2.2))))))))))) (fun H locs hP hD hS => ?_)
  have hP : va_P D vwCl (ce_X12 kA g o_this ++ (ce_X5 kA (g 1) u_3.2 ++ (ce_X3 kA (g 5) (fun k => g (6 + k)) u_5 ++ (ce_X5 kA (g 6) u_1.1 ++ (ce_X5 kA (g 7) u_1.2.1 ++ (ce_X5 kA (g 8) u_1.2.2.1 ++ (ce_X5 kA (g 9) u_1.2.2.2.1 ++ (ce_X5 kA (g 10) u_1.2.2.2.2.1 ++ (ce_X5 kA (g 11) u_1.2.2.2.2.2.1 ++ (ce_X5 kA (g 12) u_1.2.2.2.2.2.2)))))))))) H := hP
  refine lv_iload_n hx hb dX12_dither_30 rfl (lv_at hl 0 rfl) ?_
  rw [← Option.some.inj hf]
  exact mc_reti hx hb hr hlk hP hK hD hS dX12_dither_31
def ff_X12_polish (N : Nat) (o_this : os_T) (o_this_panel : os_T) (o_this_history : os_T) (o_this_history_panels0 : os_T) (o_this_history_panels1 : os_T) (o_this_history_panels2 : os_T) (o_this_history_panels3 : os_T) (o_this_history_panels4 : os_T) (o_this_history_panels5 : os_T) (o_this_history_panels6 : os_T) : Option (Int32 × os_T × os_T × os_T × os_T × os_T × os_T × os_T × os_T × os_T) :=
  ((ff_X3_open N o_this_history o_this_history_panels0 o_this_history_panels1 o_this_history_panels2 o_this_history_panels3 o_this_history_panels4 o_this_history_panels5 o_this_history_panels6 o_this_panel).bind fun u_1 => ((ff_X2_refine N o_this_panel).bind fun u_3 => ((ff_X3_close N o_this_history u_1.1 u_1.2.1 u_1.2.2.1 u_1.2.2.2.1 u_1.2.2.2.2.1 u_1.2.2.2.2.2.1 u_1.2.2.2.2.2.2 u_3.2).bind fun u_5 => some (u_3.1, u_3.2, u_5, u_1.1, u_1.2.1, u_1.2.2.1, u_1.2.2.2.1, u_1.2.2.2.2.1, u_1.2.2.2.2.2.1, u_1.2.2.2.2.2.2))))
set_option maxHeartbeats 4000000 in
set_option maxRecDepth 100000 in
theorem mm_X12_polish (l : Launch) (D : va_G) (kA : Nat → ClassId) (N : Nat) (g : Nat → Nat → Nat) (o_this : os_T) (o_this_panel : os_T) (o_this_history : os_T) (o_this_history_panels0 : os_T) (o_this_history_panels1 : os_T) (o_this_history_panels2 : os_T) (o_this_history_panels3 : os_T) (o_this_history_panels4 : os_T) (o_this_history_panels5 : os_T) (o_this_history_panels6 : os_T) (out : (Int32 × os_T × os_T × os_T × os_T × os_T × os_T × os_T × os_T × os_T)) (hf : ff_X12_polish N o_this o_this_panel o_this_history o_this_history_panels0 o_this_history_panels1 o_this_history_panels2 o_this_history_panels3 o_this_history_panels4 o_this_history_panels5 o_this_history_panels6 = some out) : mc_C l D kA yX12_polish wsX12_polish ({ frames := 5, cells := 0, slots := 0, locals := 123 } : Room) [.ref ((g 0) 0)] (ce_X12 kA g o_this ++ (ce_X5 kA (g 1) o_this_panel ++ (ce_X3 kA (g 5) (fun k => g (6 + k)) o_this_history ++ (ce_X5 kA (g 6) o_this_history_panels0 ++ (ce_X5 kA (g 7) o_this_history_panels1 ++ (ce_X5 kA (g 8) o_this_history_panels2 ++ (ce_X5 kA (g 9) o_this_history_panels3 ++ (ce_X5 kA (g 10) o_this_history_panels4 ++ (ce_X5 kA (g 11) o_this_history_panels5 ++ (ce_X5 kA (g 12) o_this_history_panels6)))))))))) (some (.int out.1)) (ce_X12 kA g o_this ++ (ce_X5 kA (g 1) out.2.1 ++ (ce_X3 kA (g 5) (fun k => g (6 + k)) out.2.2.1 ++ (ce_X5 kA (g 6) out.2.2.2.1 ++ (ce_X5 kA (g 7) out.2.2.2.2.1 ++ (ce_X5 kA (g 8) out.2.2.2.2.2.1 ++ (ce_X5 kA (g 9) out.2.2.2.2.2.2.1 ++ (ce_X5 kA (g 10) out.2.2.2.2.2.2.2.1 ++ (ce_X5 kA (g 11) out.2.2.2.2.2.2.2.2.1 ++ (ce_X5 kA (g 12) out.2.2.2.2.2.2.2.2.2)))))))))) := by
  refine mc_of (cc := cX12_polish) (maxL := 2) (ret := (some .int)) (by decide) rfl (Nat.le_of_ble_eq_true rfl) ?_
  intro p e s m below meth c A B hD hP hS ls hl
  obtain ⟨hx, hb, hr, hlk, hml, hown, hts, hK, hA, hnm⟩ := B
  have hown : s.vm.findClass RX12 = some m.cls := hown
  have hl : lv_has ls 2 [(0, .ref ((g 0) 0))] := hl
  have hUX12 : ∀ w ∈ u_ws RX12 TX12 15, w.before [.ref ((g 0) 0)].toArray s = true := fun w h => hts w (List.mem_cons_of_mem _ (List.mem_append_left _ (List.mem_append_left _ (List.mem_append_right _ h))))
  unfold ff_X12_polish at hf
  refine lv_aload_n hx hb dX12_polish_0 rfl (lv_at hl 0 rfl) ?_
  refine va_get (D := D) (ci := 8) (v := .ref ((g 5) 0)) (C := RX12) (T := TX12) (N := 15) hx hb hUX12 (fun _ h9 => h9) hown hK hP 0 rfl rfl 4 (by decide) (hts (Cond.fieldLink RX12 30 "ReliefBuilder" "history" "LReliefBuilder$History;") (List.mem_of_getElem? (i := 1) rfl)) (fun _ h9 => h9) rfl dX12_polish_1 ?_
  refine lv_aload_n hx hb dX12_polish_4 rfl (lv_at hl 0 rfl) ?_
  refine va_get (D := D) (ci := 8) (v := .ref ((g 1) 0)) (C := RX12) (T := TX12) (N := 15) hx hb hUX12 (fun _ h9 => h9) hown hK hP 0 rfl rfl 0 (by decide) (hts (Cond.fieldLink RX12 12 "ReliefBuilder" "panel" "LReliefBuilder$Panel;") (List.mem_of_getElem? (i := 2) rfl)) (fun _ h9 => h9) rfl dX12_polish_5 ?_
  obtain ⟨u_1, he_2, hf⟩ := os_bd hf
  refine mc_callV ⟨hx, hb, hml, hown, hts⟩ (mm_X3_open l D kA N (g 5) (fun k => g (6 + k)) (g 1) o_this_history o_this_history_panels0 o_this_history_panels1 o_this_history_panels2 o_this_history_panels3 o_this_history_panels4 o_this_history_panels5 o_this_history_panels6 o_this_panel u_1 he_2) (cwV 1 hts gX12_polish_X3_open rfl rfl rfl (by decide +kernel) ⟨Nat.le_of_ble_eq_true rfl, Nat.le_of_ble_eq_true rfl⟩) (wc := (ce_X3 kA (g 5) (fun k => g (6 + k)) o_this_history ++ (ce_X5 kA (g 6) o_this_history_panels0 ++ (ce_X5 kA (g 7) o_this_history_panels1 ++ (ce_X5 kA (g 8) o_this_history_panels2 ++ (ce_X5 kA (g 9) o_this_history_panels3 ++ (ce_X5 kA (g 10) o_this_history_panels4 ++ (ce_X5 kA (g 11) o_this_history_panels5 ++ (ce_X5 kA (g 12) o_this_history_panels6 ++ (ce_X5 kA (g 1) o_this_panel)))))))))) (ci := 0) (q0 := 0) rfl rfl rfl hl.1 (As := [.ref ((g 1) 0)]) (rest := []) rfl (Nat.le_of_ble_eq_true rfl) dX12_polish_8 ⟨Nat.le_of_ble_eq_true rfl, Nat.le_of_ble_eq_true rfl⟩ hK hP hD hS hA [8, 9, 10, 11, 12, 13, 14, 15, 16, 17, 18, 19, 20, 21, 22, 23, 24, 25, 26, 27, 28, 29, 30, 31, 32, 33, 34, 35, 36, 37, 4, 5, 6, 7] [0, 1, 2, 3] [0, 1, 2, 3, 34, 35, 36, 37, 4, 5, 6, 7, 8, 9, 10, 11, 12, 13, 14, 15, 16, 17, 18, 19, 20, 21, 22, 23, 24, 25, 26, 27, 28, 29, 30, 31, 32, 33] rfl (by decide) rfl (by decide) (by decide) rfl (by decide) (wr := (ce_X12 kA g o_this)) (w2 := (ce_X12 kA g o_this ++ (ce_X5 kA (g 1) o_this_panel ++ (ce_X3 kA (g 5) (fun k => g (6 + k)) o_this_history ++ (ce_X5 kA (g 6) u_1.1 ++ (ce_X5 kA (g 7) u_1.2.1 ++ (ce_X5 kA (g 8) u_1.2.2.1 ++ (ce_X5 kA (g 9) u_1.2.2.2.1 ++ (ce_X5 kA (g 10) u_1.2.2.2.2.1 ++ (ce_X5 kA (g 11) u_1.2.2.2.2.2.1 ++ (ce_X5 kA (g 12) u_1.2.2.2.2.2.2))))))))))) (fun H locs hP hD hS => ?_)
  have hP : va_P D vwCl (ce_X12 kA g o_this ++ (ce_X5 kA (g 1) o_this_panel ++ (ce_X3 kA (g 5) (fun k => g (6 + k)) o_this_history ++ (ce_X5 kA (g 6) u_1.1 ++ (ce_X5 kA (g 7) u_1.2.1 ++ (ce_X5 kA (g 8) u_1.2.2.1 ++ (ce_X5 kA (g 9) u_1.2.2.2.1 ++ (ce_X5 kA (g 10) u_1.2.2.2.2.1 ++ (ce_X5 kA (g 11) u_1.2.2.2.2.2.1 ++ (ce_X5 kA (g 12) u_1.2.2.2.2.2.2)))))))))) H := hP
  refine lv_aload_n hx hb dX12_polish_11 rfl (lv_at hl 0 rfl) ?_
  refine va_get (D := D) (ci := 8) (v := .ref ((g 1) 0)) (C := RX12) (T := TX12) (N := 15) hx hb hUX12 (fun _ h9 => h9) hown hK hP 0 rfl rfl 0 (by decide) (hts (Cond.fieldLink RX12 12 "ReliefBuilder" "panel" "LReliefBuilder$Panel;") (List.mem_of_getElem? (i := 2) rfl)) (fun _ h9 => h9) rfl dX12_polish_12 ?_
  obtain ⟨u_3, he_4, hf⟩ := os_bd hf
  refine mc_callS ⟨hx, hb, hml, hown, hts⟩ (mm_X2_refine l D kA N (g 1) o_this_panel u_3 he_4) (va_cwS 1 hts gX12_polish_X2_refine rfl rfl rfl (by decide +kernel) ⟨Nat.le_of_ble_eq_true rfl, Nat.le_of_ble_eq_true rfl⟩) (wc := (ce_X5 kA (g 1) o_this_panel)) rfl hl.1 (As := [.ref ((g 1) 0)]) (rest := []) rfl (Nat.le_of_ble_eq_true rfl) dX12_polish_15 ⟨Nat.le_of_ble_eq_true rfl, Nat.le_of_ble_eq_true rfl⟩ hK hP hD hS hA [4, 5, 6, 7] [0, 1, 2, 3, 8, 9, 10, 11, 12, 13, 14, 15, 16, 17, 18, 19, 20, 21, 22, 23, 24, 25, 26, 27, 28, 29, 30, 31, 32, 33, 34, 35, 36, 37] [0, 1, 2, 3, 34, 35, 36, 37, 4, 5, 6, 7, 8, 9, 10, 11, 12, 13, 14, 15, 16, 17, 18, 19, 20, 21, 22, 23, 24, 25, 26, 27, 28, 29, 30, 31, 32, 33] rfl (by decide) rfl (by decide) (by decide) rfl (by decide) (wr := (ce_X12 kA g o_this ++ (ce_X3 kA (g 5) (fun k => g (6 + k)) o_this_history ++ (ce_X5 kA (g 6) u_1.1 ++ (ce_X5 kA (g 7) u_1.2.1 ++ (ce_X5 kA (g 8) u_1.2.2.1 ++ (ce_X5 kA (g 9) u_1.2.2.2.1 ++ (ce_X5 kA (g 10) u_1.2.2.2.2.1 ++ (ce_X5 kA (g 11) u_1.2.2.2.2.2.1 ++ (ce_X5 kA (g 12) u_1.2.2.2.2.2.2)))))))))) (w2 := (ce_X12 kA g o_this ++ (ce_X5 kA (g 1) u_3.2 ++ (ce_X3 kA (g 5) (fun k => g (6 + k)) o_this_history ++ (ce_X5 kA (g 6) u_1.1 ++ (ce_X5 kA (g 7) u_1.2.1 ++ (ce_X5 kA (g 8) u_1.2.2.1 ++ (ce_X5 kA (g 9) u_1.2.2.2.1 ++ (ce_X5 kA (g 10) u_1.2.2.2.2.1 ++ (ce_X5 kA (g 11) u_1.2.2.2.2.2.1 ++ (ce_X5 kA (g 12) u_1.2.2.2.2.2.2))))))))))) (fun H locs hP hD hS => ?_)
  have hP : va_P D vwCl (ce_X12 kA g o_this ++ (ce_X5 kA (g 1) u_3.2 ++ (ce_X3 kA (g 5) (fun k => g (6 + k)) o_this_history ++ (ce_X5 kA (g 6) u_1.1 ++ (ce_X5 kA (g 7) u_1.2.1 ++ (ce_X5 kA (g 8) u_1.2.2.1 ++ (ce_X5 kA (g 9) u_1.2.2.2.1 ++ (ce_X5 kA (g 10) u_1.2.2.2.2.1 ++ (ce_X5 kA (g 11) u_1.2.2.2.2.2.1 ++ (ce_X5 kA (g 12) u_1.2.2.2.2.2.2)))))))))) H := hP
  refine lv_istore_n (lv' := [(1, .int u_3.1), (0, .ref ((g 0) 0))]) hx hb dX12_polish_18 rfl hl (by decide) rfl (fun ls hl => ?_)
  refine lv_aload_n hx hb dX12_polish_19 rfl (lv_at hl 1 rfl) ?_
  refine va_get (D := D) (ci := 8) (v := .ref ((g 5) 0)) (C := RX12) (T := TX12) (N := 15) hx hb hUX12 (fun _ h9 => h9) hown hK hP 0 rfl rfl 4 (by decide) (hts (Cond.fieldLink RX12 30 "ReliefBuilder" "history" "LReliefBuilder$History;") (List.mem_of_getElem? (i := 1) rfl)) (fun _ h9 => h9) rfl dX12_polish_20 ?_
  refine lv_aload_n hx hb dX12_polish_23 rfl (lv_at hl 1 rfl) ?_
  refine va_get (D := D) (ci := 8) (v := .ref ((g 1) 0)) (C := RX12) (T := TX12) (N := 15) hx hb hUX12 (fun _ h9 => h9) hown hK hP 0 rfl rfl 0 (by decide) (hts (Cond.fieldLink RX12 12 "ReliefBuilder" "panel" "LReliefBuilder$Panel;") (List.mem_of_getElem? (i := 2) rfl)) (fun _ h9 => h9) rfl dX12_polish_24 ?_
  obtain ⟨u_5, he_6, hf⟩ := os_bd hf
  refine mc_callV ⟨hx, hb, hml, hown, hts⟩ (mm_X3_close l D kA N (g 5) (fun k => g (6 + k)) (g 1) o_this_history u_1.1 u_1.2.1 u_1.2.2.1 u_1.2.2.2.1 u_1.2.2.2.2.1 u_1.2.2.2.2.2.1 u_1.2.2.2.2.2.2 u_3.2 u_5 he_6) (cwV 1 hts gX12_polish_X3_close rfl rfl rfl (by decide +kernel) ⟨Nat.le_of_ble_eq_true rfl, Nat.le_of_ble_eq_true rfl⟩) (wc := (ce_X3 kA (g 5) (fun k => g (6 + k)) o_this_history ++ (ce_X5 kA (g 6) u_1.1 ++ (ce_X5 kA (g 7) u_1.2.1 ++ (ce_X5 kA (g 8) u_1.2.2.1 ++ (ce_X5 kA (g 9) u_1.2.2.2.1 ++ (ce_X5 kA (g 10) u_1.2.2.2.2.1 ++ (ce_X5 kA (g 11) u_1.2.2.2.2.2.1 ++ (ce_X5 kA (g 12) u_1.2.2.2.2.2.2 ++ (ce_X5 kA (g 1) u_3.2)))))))))) (ci := 0) (q0 := 0) rfl rfl rfl hl.1 (As := [.ref ((g 1) 0)]) (rest := []) rfl (Nat.le_of_ble_eq_true rfl) dX12_polish_27 ⟨Nat.le_of_ble_eq_true rfl, Nat.le_of_ble_eq_true rfl⟩ hK hP hD hS hA [8, 9, 10, 11, 12, 13, 14, 15, 16, 17, 18, 19, 20, 21, 22, 23, 24, 25, 26, 27, 28, 29, 30, 31, 32, 33, 34, 35, 36, 37, 4, 5, 6, 7] [0, 1, 2, 3] [0, 1, 2, 3, 34, 35, 36, 37, 4, 5, 6, 7, 8, 9, 10, 11, 12, 13, 14, 15, 16, 17, 18, 19, 20, 21, 22, 23, 24, 25, 26, 27, 28, 29, 30, 31, 32, 33] rfl (by decide) rfl (by decide) (by decide) rfl (by decide) (wr := (ce_X12 kA g o_this)) (w2 := (ce_X12 kA g o_this ++ (ce_X5 kA (g 1) u_3.2 ++ (ce_X3 kA (g 5) (fun k => g (6 + k)) u_5 ++ (ce_X5 kA (g 6) u_1.1 ++ (ce_X5 kA (g 7) u_1.2.1 ++ (ce_X5 kA (g 8) u_1.2.2.1 ++ (ce_X5 kA (g 9) u_1.2.2.2.1 ++ (ce_X5 kA (g 10) u_1.2.2.2.2.1 ++ (ce_X5 kA (g 11) u_1.2.2.2.2.2.1 ++ (ce_X5 kA (g 12) u_1.2.2.2.2.2.2))))))))))) (fun H locs hP hD hS => ?_)
  have hP : va_P D vwCl (ce_X12 kA g o_this ++ (ce_X5 kA (g 1) u_3.2 ++ (ce_X3 kA (g 5) (fun k => g (6 + k)) u_5 ++ (ce_X5 kA (g 6) u_1.1 ++ (ce_X5 kA (g 7) u_1.2.1 ++ (ce_X5 kA (g 8) u_1.2.2.1 ++ (ce_X5 kA (g 9) u_1.2.2.2.1 ++ (ce_X5 kA (g 10) u_1.2.2.2.2.1 ++ (ce_X5 kA (g 11) u_1.2.2.2.2.2.1 ++ (ce_X5 kA (g 12) u_1.2.2.2.2.2.2)))))))))) H := hP
  refine lv_iload_n hx hb dX12_polish_30 rfl (lv_at hl 0 rfl) ?_
  rw [← Option.some.inj hf]
  exact mc_reti hx hb hr hlk hP hK hD hS dX12_polish_31
def ff_X12_invert (N : Nat) (o_this : os_T) (o_this_panel : os_T) (o_this_history : os_T) (o_this_history_panels0 : os_T) (o_this_history_panels1 : os_T) (o_this_history_panels2 : os_T) (o_this_history_panels3 : os_T) (o_this_history_panels4 : os_T) (o_this_history_panels5 : os_T) (o_this_history_panels6 : os_T) : Option (Int32 × os_T × os_T × os_T × os_T × os_T × os_T × os_T × os_T × os_T) :=
  ((ff_X3_open N o_this_history o_this_history_panels0 o_this_history_panels1 o_this_history_panels2 o_this_history_panels3 o_this_history_panels4 o_this_history_panels5 o_this_history_panels6 o_this_panel).bind fun u_1 => ((ff_X5_negate N o_this_panel).bind fun u_3 => ((ff_X3_close N o_this_history u_1.1 u_1.2.1 u_1.2.2.1 u_1.2.2.2.1 u_1.2.2.2.2.1 u_1.2.2.2.2.2.1 u_1.2.2.2.2.2.2 u_3.2).bind fun u_5 => some (u_3.1, u_3.2, u_5, u_1.1, u_1.2.1, u_1.2.2.1, u_1.2.2.2.1, u_1.2.2.2.2.1, u_1.2.2.2.2.2.1, u_1.2.2.2.2.2.2))))
set_option maxHeartbeats 4000000 in
set_option maxRecDepth 100000 in
theorem mm_X12_invert (l : Launch) (D : va_G) (kA : Nat → ClassId) (N : Nat) (g : Nat → Nat → Nat) (o_this : os_T) (o_this_panel : os_T) (o_this_history : os_T) (o_this_history_panels0 : os_T) (o_this_history_panels1 : os_T) (o_this_history_panels2 : os_T) (o_this_history_panels3 : os_T) (o_this_history_panels4 : os_T) (o_this_history_panels5 : os_T) (o_this_history_panels6 : os_T) (out : (Int32 × os_T × os_T × os_T × os_T × os_T × os_T × os_T × os_T × os_T)) (hf : ff_X12_invert N o_this o_this_panel o_this_history o_this_history_panels0 o_this_history_panels1 o_this_history_panels2 o_this_history_panels3 o_this_history_panels4 o_this_history_panels5 o_this_history_panels6 = some out) : mc_C l D kA yX12_invert wsX12_invert ({ frames := 4, cells := 0, slots := 0, locals := 123 } : Room) [.ref ((g 0) 0)] (ce_X12 kA g o_this ++ (ce_X5 kA (g 1) o_this_panel ++ (ce_X3 kA (g 5) (fun k => g (6 + k)) o_this_history ++ (ce_X5 kA (g 6) o_this_history_panels0 ++ (ce_X5 kA (g 7) o_this_history_panels1 ++ (ce_X5 kA (g 8) o_this_history_panels2 ++ (ce_X5 kA (g 9) o_this_history_panels3 ++ (ce_X5 kA (g 10) o_this_history_panels4 ++ (ce_X5 kA (g 11) o_this_history_panels5 ++ (ce_X5 kA (g 12) o_this_history_panels6)))))))))) (some (.int out.1)) (ce_X12 kA g o_this ++ (ce_X5 kA (g 1) out.2.1 ++ (ce_X3 kA (g 5) (fun k => g (6 + k)) out.2.2.1 ++ (ce_X5 kA (g 6) out.2.2.2.1 ++ (ce_X5 kA (g 7) out.2.2.2.2.1 ++ (ce_X5 kA (g 8) out.2.2.2.2.2.1 ++ (ce_X5 kA (g 9) out.2.2.2.2.2.2.1 ++ (ce_X5 kA (g 10) out.2.2.2.2.2.2.2.1 ++ (ce_X5 kA (g 11) out.2.2.2.2.2.2.2.2.1 ++ (ce_X5 kA (g 12) out.2.2.2.2.2.2.2.2.2)))))))))) := by
  refine mc_of (cc := cX12_invert) (maxL := 2) (ret := (some .int)) (by decide) rfl (Nat.le_of_ble_eq_true rfl) ?_
  intro p e s m below meth c A B hD hP hS ls hl
  obtain ⟨hx, hb, hr, hlk, hml, hown, hts, hK, hA, hnm⟩ := B
  have hown : s.vm.findClass RX12 = some m.cls := hown
  have hl : lv_has ls 2 [(0, .ref ((g 0) 0))] := hl
  have hUX12 : ∀ w ∈ u_ws RX12 TX12 15, w.before [.ref ((g 0) 0)].toArray s = true := fun w h => hts w (List.mem_cons_of_mem _ (List.mem_append_left _ (List.mem_append_left _ (List.mem_append_right _ h))))
  unfold ff_X12_invert at hf
  refine lv_aload_n hx hb dX12_invert_0 rfl (lv_at hl 0 rfl) ?_
  refine va_get (D := D) (ci := 8) (v := .ref ((g 5) 0)) (C := RX12) (T := TX12) (N := 15) hx hb hUX12 (fun _ h9 => h9) hown hK hP 0 rfl rfl 4 (by decide) (hts (Cond.fieldLink RX12 30 "ReliefBuilder" "history" "LReliefBuilder$History;") (List.mem_of_getElem? (i := 1) rfl)) (fun _ h9 => h9) rfl dX12_invert_1 ?_
  refine lv_aload_n hx hb dX12_invert_4 rfl (lv_at hl 0 rfl) ?_
  refine va_get (D := D) (ci := 8) (v := .ref ((g 1) 0)) (C := RX12) (T := TX12) (N := 15) hx hb hUX12 (fun _ h9 => h9) hown hK hP 0 rfl rfl 0 (by decide) (hts (Cond.fieldLink RX12 12 "ReliefBuilder" "panel" "LReliefBuilder$Panel;") (List.mem_of_getElem? (i := 2) rfl)) (fun _ h9 => h9) rfl dX12_invert_5 ?_
  obtain ⟨u_1, he_2, hf⟩ := os_bd hf
  refine mc_callV ⟨hx, hb, hml, hown, hts⟩ (mm_X3_open l D kA N (g 5) (fun k => g (6 + k)) (g 1) o_this_history o_this_history_panels0 o_this_history_panels1 o_this_history_panels2 o_this_history_panels3 o_this_history_panels4 o_this_history_panels5 o_this_history_panels6 o_this_panel u_1 he_2) (cwV 1 hts gX12_invert_X3_open rfl rfl rfl (by decide +kernel) ⟨Nat.le_of_ble_eq_true rfl, Nat.le_of_ble_eq_true rfl⟩) (wc := (ce_X3 kA (g 5) (fun k => g (6 + k)) o_this_history ++ (ce_X5 kA (g 6) o_this_history_panels0 ++ (ce_X5 kA (g 7) o_this_history_panels1 ++ (ce_X5 kA (g 8) o_this_history_panels2 ++ (ce_X5 kA (g 9) o_this_history_panels3 ++ (ce_X5 kA (g 10) o_this_history_panels4 ++ (ce_X5 kA (g 11) o_this_history_panels5 ++ (ce_X5 kA (g 12) o_this_history_panels6 ++ (ce_X5 kA (g 1) o_this_panel)))))))))) (ci := 0) (q0 := 0) rfl rfl rfl hl.1 (As := [.ref ((g 1) 0)]) (rest := []) rfl (Nat.le_of_ble_eq_true rfl) dX12_invert_8 ⟨Nat.le_of_ble_eq_true rfl, Nat.le_of_ble_eq_true rfl⟩ hK hP hD hS hA [8, 9, 10, 11, 12, 13, 14, 15, 16, 17, 18, 19, 20, 21, 22, 23, 24, 25, 26, 27, 28, 29, 30, 31, 32, 33, 34, 35, 36, 37, 4, 5, 6, 7] [0, 1, 2, 3] [0, 1, 2, 3, 34, 35, 36, 37, 4, 5, 6, 7, 8, 9, 10, 11, 12, 13, 14, 15, 16, 17, 18, 19, 20, 21, 22, 23, 24, 25, 26, 27, 28, 29, 30, 31, 32, 33] rfl (by decide) rfl (by decide) (by decide) rfl (by decide) (wr := (ce_X12 kA g o_this)) (w2 := (ce_X12 kA g o_this ++ (ce_X5 kA (g 1) o_this_panel ++ (ce_X3 kA (g 5) (fun k => g (6 + k)) o_this_history ++ (ce_X5 kA (g 6) u_1.1 ++ (ce_X5 kA (g 7) u_1.2.1 ++ (ce_X5 kA (g 8) u_1.2.2.1 ++ (ce_X5 kA (g 9) u_1.2.2.2.1 ++ (ce_X5 kA (g 10) u_1.2.2.2.2.1 ++ (ce_X5 kA (g 11) u_1.2.2.2.2.2.1 ++ (ce_X5 kA (g 12) u_1.2.2.2.2.2.2))))))))))) (fun H locs hP hD hS => ?_)
  have hP : va_P D vwCl (ce_X12 kA g o_this ++ (ce_X5 kA (g 1) o_this_panel ++ (ce_X3 kA (g 5) (fun k => g (6 + k)) o_this_history ++ (ce_X5 kA (g 6) u_1.1 ++ (ce_X5 kA (g 7) u_1.2.1 ++ (ce_X5 kA (g 8) u_1.2.2.1 ++ (ce_X5 kA (g 9) u_1.2.2.2.1 ++ (ce_X5 kA (g 10) u_1.2.2.2.2.1 ++ (ce_X5 kA (g 11) u_1.2.2.2.2.2.1 ++ (ce_X5 kA (g 12) u_1.2.2.2.2.2.2)))))))))) H := hP
  refine lv_aload_n hx hb dX12_invert_11 rfl (lv_at hl 0 rfl) ?_
  refine va_get (D := D) (ci := 8) (v := .ref ((g 1) 0)) (C := RX12) (T := TX12) (N := 15) hx hb hUX12 (fun _ h9 => h9) hown hK hP 0 rfl rfl 0 (by decide) (hts (Cond.fieldLink RX12 12 "ReliefBuilder" "panel" "LReliefBuilder$Panel;") (List.mem_of_getElem? (i := 2) rfl)) (fun _ h9 => h9) rfl dX12_invert_12 ?_
  obtain ⟨u_3, he_4, hf⟩ := os_bd hf
  refine mc_callV ⟨hx, hb, hml, hown, hts⟩ (mm_X5_negate l D kA N (g 1) o_this_panel u_3 he_4) (cwV 0 hts gX12_invert_X5_negate rfl rfl rfl (by decide +kernel) ⟨Nat.le_of_ble_eq_true rfl, Nat.le_of_ble_eq_true rfl⟩) (wc := (ce_X5 kA (g 1) o_this_panel)) (ci := 2) (q0 := 0) rfl rfl rfl hl.1 (As := []) (rest := []) rfl (Nat.le_of_ble_eq_true rfl) dX12_invert_15 ⟨Nat.le_of_ble_eq_true rfl, Nat.le_of_ble_eq_true rfl⟩ hK hP hD hS hA [4, 5, 6, 7] [0, 1, 2, 3, 8, 9, 10, 11, 12, 13, 14, 15, 16, 17, 18, 19, 20, 21, 22, 23, 24, 25, 26, 27, 28, 29, 30, 31, 32, 33, 34, 35, 36, 37] [0, 1, 2, 3, 34, 35, 36, 37, 4, 5, 6, 7, 8, 9, 10, 11, 12, 13, 14, 15, 16, 17, 18, 19, 20, 21, 22, 23, 24, 25, 26, 27, 28, 29, 30, 31, 32, 33] rfl (by decide) rfl (by decide) (by decide) rfl (by decide) (wr := (ce_X12 kA g o_this ++ (ce_X3 kA (g 5) (fun k => g (6 + k)) o_this_history ++ (ce_X5 kA (g 6) u_1.1 ++ (ce_X5 kA (g 7) u_1.2.1 ++ (ce_X5 kA (g 8) u_1.2.2.1 ++ (ce_X5 kA (g 9) u_1.2.2.2.1 ++ (ce_X5 kA (g 10) u_1.2.2.2.2.1 ++ (ce_X5 kA (g 11) u_1.2.2.2.2.2.1 ++ (ce_X5 kA (g 12) u_1.2.2.2.2.2.2)))))))))) (w2 := (ce_X12 kA g o_this ++ (ce_X5 kA (g 1) u_3.2 ++ (ce_X3 kA (g 5) (fun k => g (6 + k)) o_this_history ++ (ce_X5 kA (g 6) u_1.1 ++ (ce_X5 kA (g 7) u_1.2.1 ++ (ce_X5 kA (g 8) u_1.2.2.1 ++ (ce_X5 kA (g 9) u_1.2.2.2.1 ++ (ce_X5 kA (g 10) u_1.2.2.2.2.1 ++ (ce_X5 kA (g 11) u_1.2.2.2.2.2.1 ++ (ce_X5 kA (g 12) u_1.2.2.2.2.2.2))))))))))) (fun H locs hP hD hS => ?_)
  have hP : va_P D vwCl (ce_X12 kA g o_this ++ (ce_X5 kA (g 1) u_3.2 ++ (ce_X3 kA (g 5) (fun k => g (6 + k)) o_this_history ++ (ce_X5 kA (g 6) u_1.1 ++ (ce_X5 kA (g 7) u_1.2.1 ++ (ce_X5 kA (g 8) u_1.2.2.1 ++ (ce_X5 kA (g 9) u_1.2.2.2.1 ++ (ce_X5 kA (g 10) u_1.2.2.2.2.1 ++ (ce_X5 kA (g 11) u_1.2.2.2.2.2.1 ++ (ce_X5 kA (g 12) u_1.2.2.2.2.2.2)))))))))) H := hP
  refine lv_istore_n (lv' := [(1, .int u_3.1), (0, .ref ((g 0) 0))]) hx hb dX12_invert_18 rfl hl (by decide) rfl (fun ls hl => ?_)
  refine lv_aload_n hx hb dX12_invert_19 rfl (lv_at hl 1 rfl) ?_
  refine va_get (D := D) (ci := 8) (v := .ref ((g 5) 0)) (C := RX12) (T := TX12) (N := 15) hx hb hUX12 (fun _ h9 => h9) hown hK hP 0 rfl rfl 4 (by decide) (hts (Cond.fieldLink RX12 30 "ReliefBuilder" "history" "LReliefBuilder$History;") (List.mem_of_getElem? (i := 1) rfl)) (fun _ h9 => h9) rfl dX12_invert_20 ?_
  refine lv_aload_n hx hb dX12_invert_23 rfl (lv_at hl 1 rfl) ?_
  refine va_get (D := D) (ci := 8) (v := .ref ((g 1) 0)) (C := RX12) (T := TX12) (N := 15) hx hb hUX12 (fun _ h9 => h9) hown hK hP 0 rfl rfl 0 (by decide) (hts (Cond.fieldLink RX12 12 "ReliefBuilder" "panel" "LReliefBuilder$Panel;") (List.mem_of_getElem? (i := 2) rfl)) (fun _ h9 => h9) rfl dX12_invert_24 ?_
  obtain ⟨u_5, he_6, hf⟩ := os_bd hf
  refine mc_callV ⟨hx, hb, hml, hown, hts⟩ (mm_X3_close l D kA N (g 5) (fun k => g (6 + k)) (g 1) o_this_history u_1.1 u_1.2.1 u_1.2.2.1 u_1.2.2.2.1 u_1.2.2.2.2.1 u_1.2.2.2.2.2.1 u_1.2.2.2.2.2.2 u_3.2 u_5 he_6) (cwV 1 hts gX12_invert_X3_close rfl rfl rfl (by decide +kernel) ⟨Nat.le_of_ble_eq_true rfl, Nat.le_of_ble_eq_true rfl⟩) (wc := (ce_X3 kA (g 5) (fun k => g (6 + k)) o_this_history ++ (ce_X5 kA (g 6) u_1.1 ++ (ce_X5 kA (g 7) u_1.2.1 ++ (ce_X5 kA (g 8) u_1.2.2.1 ++ (ce_X5 kA (g 9) u_1.2.2.2.1 ++ (ce_X5 kA (g 10) u_1.2.2.2.2.1 ++ (ce_X5 kA (g 11) u_1.2.2.2.2.2.1 ++ (ce_X5 kA (g 12) u_1.2.2.2.2.2.2 ++ (ce_X5 kA (g 1) u_3.2)))))))))) (ci := 0) (q0 := 0) rfl rfl rfl hl.1 (As := [.ref ((g 1) 0)]) (rest := []) rfl (Nat.le_of_ble_eq_true rfl) dX12_invert_27 ⟨Nat.le_of_ble_eq_true rfl, Nat.le_of_ble_eq_true rfl⟩ hK hP hD hS hA [8, 9, 10, 11, 12, 13, 14, 15, 16, 17, 18, 19, 20, 21, 22, 23, 24, 25, 26, 27, 28, 29, 30, 31, 32, 33, 34, 35, 36, 37, 4, 5, 6, 7] [0, 1, 2, 3] [0, 1, 2, 3, 34, 35, 36, 37, 4, 5, 6, 7, 8, 9, 10, 11, 12, 13, 14, 15, 16, 17, 18, 19, 20, 21, 22, 23, 24, 25, 26, 27, 28, 29, 30, 31, 32, 33] rfl (by decide) rfl (by decide) (by decide) rfl (by decide) (wr := (ce_X12 kA g o_this)) (w2 := (ce_X12 kA g o_this ++ (ce_X5 kA (g 1) u_3.2 ++ (ce_X3 kA (g 5) (fun k => g (6 + k)) u_5 ++ (ce_X5 kA (g 6) u_1.1 ++ (ce_X5 kA (g 7) u_1.2.1 ++ (ce_X5 kA (g 8) u_1.2.2.1 ++ (ce_X5 kA (g 9) u_1.2.2.2.1 ++ (ce_X5 kA (g 10) u_1.2.2.2.2.1 ++ (ce_X5 kA (g 11) u_1.2.2.2.2.2.1 ++ (ce_X5 kA (g 12) u_1.2.2.2.2.2.2))))))))))) (fun H locs hP hD hS => ?_)
  have hP : va_P D vwCl (ce_X12 kA g o_this ++ (ce_X5 kA (g 1) u_3.2 ++ (ce_X3 kA (g 5) (fun k => g (6 + k)) u_5 ++ (ce_X5 kA (g 6) u_1.1 ++ (ce_X5 kA (g 7) u_1.2.1 ++ (ce_X5 kA (g 8) u_1.2.2.1 ++ (ce_X5 kA (g 9) u_1.2.2.2.1 ++ (ce_X5 kA (g 10) u_1.2.2.2.2.1 ++ (ce_X5 kA (g 11) u_1.2.2.2.2.2.1 ++ (ce_X5 kA (g 12) u_1.2.2.2.2.2.2)))))))))) H := hP
  refine lv_iload_n hx hb dX12_invert_30 rfl (lv_at hl 0 rfl) ?_
  rw [← Option.some.inj hf]
  exact mc_reti hx hb hr hlk hP hK hD hS dX12_invert_31
def ff_X12_lighten_b14 (N : Nat) (o_this : os_T) (o_this_panel : os_T) (o_this_history : os_T) (o_this_history_panels0 : os_T) (o_this_history_panels1 : os_T) (o_this_history_panels2 : os_T) (o_this_history_panels3 : os_T) (o_this_history_panels4 : os_T) (o_this_history_panels5 : os_T) (o_this_history_panels6 : os_T) : Option (Nat × Int32 × os_T × os_T × os_T × os_T × os_T × os_T × os_T × os_T × os_T) :=
  some (2, (0 : Int32), o_this_panel, o_this_history, o_this_history_panels0, o_this_history_panels1, o_this_history_panels2, o_this_history_panels3, o_this_history_panels4, o_this_history_panels5, o_this_history_panels6)
def ff_X12_lighten (N : Nat) (o_this : os_T) (o_this_panel : os_T) (o_this_history : os_T) (o_this_history_panels0 : os_T) (o_this_history_panels1 : os_T) (o_this_history_panels2 : os_T) (o_this_history_panels3 : os_T) (o_this_history_panels4 : os_T) (o_this_history_panels5 : os_T) (o_this_history_panels6 : os_T) (a1 : Int32) : Option (Nat × Int32 × os_T × os_T × os_T × os_T × os_T × os_T × os_T × os_T × os_T) :=
  (if a1 < (-255 : Int32) then ff_X12_lighten_b14 N o_this o_this_panel o_this_history o_this_history_panels0 o_this_history_panels1 o_this_history_panels2 o_this_history_panels3 o_this_history_panels4 o_this_history_panels5 o_this_history_panels6 else (if a1 ≤ (255 : Int32) then ((ff_X3_open N o_this_history o_this_history_panels0 o_this_history_panels1 o_this_history_panels2 o_this_history_panels3 o_this_history_panels4 o_this_history_panels5 o_this_history_panels6 o_this_panel).bind fun u_3 => ((ff_X5_brighten N o_this_panel a1).bind fun u_5 => ((ff_X3_close N o_this_history u_3.1 u_3.2.1 u_3.2.2.1 u_3.2.2.2.1 u_3.2.2.2.2.1 u_3.2.2.2.2.2.1 u_3.2.2.2.2.2.2 u_5.2).bind fun u_7 => some (0, u_5.1, u_5.2, u_7, u_3.1, u_3.2.1, u_3.2.2.1, u_3.2.2.2.1, u_3.2.2.2.2.1, u_3.2.2.2.2.2.1, u_3.2.2.2.2.2.2)))) else ff_X12_lighten_b14 N o_this o_this_panel o_this_history o_this_history_panels0 o_this_history_panels1 o_this_history_panels2 o_this_history_panels3 o_this_history_panels4 o_this_history_panels5 o_this_history_panels6))
set_option maxHeartbeats 4000000 in
set_option maxRecDepth 100000 in
theorem mm_X12_lighten (l : Launch) (hst : l.stackTraces = false) (zz : Nat → Nat → Nat) (D : va_G) (kA : Nat → ClassId) (N : Nat) (g : Nat → Nat → Nat) (o_this : os_T) (o_this_panel : os_T) (o_this_history : os_T) (o_this_history_panels0 : os_T) (o_this_history_panels1 : os_T) (o_this_history_panels2 : os_T) (o_this_history_panels3 : os_T) (o_this_history_panels4 : os_T) (o_this_history_panels5 : os_T) (o_this_history_panels6 : os_T) (a1 : Int32) (out : (Nat × Int32 × os_T × os_T × os_T × os_T × os_T × os_T × os_T × os_T × os_T)) (hf : ff_X12_lighten N o_this o_this_panel o_this_history o_this_history_panels0 o_this_history_panels1 o_this_history_panels2 o_this_history_panels3 o_this_history_panels4 o_this_history_panels5 o_this_history_panels6 a1 = some out) : mx_C l zz D kA yX12_lighten wsX12_lighten ({ frames := 6, cells := 1, slots := 6, locals := 123 } : Room) [.ref ((g 0) 0), .int a1] (ce_X12 kA g o_this ++ (ce_X5 kA (g 1) o_this_panel ++ (ce_X3 kA (g 5) (fun k => g (6 + k)) o_this_history ++ (ce_X5 kA (g 6) o_this_history_panels0 ++ (ce_X5 kA (g 7) o_this_history_panels1 ++ (ce_X5 kA (g 8) o_this_history_panels2 ++ (ce_X5 kA (g 9) o_this_history_panels3 ++ (ce_X5 kA (g 10) o_this_history_panels4 ++ (ce_X5 kA (g 11) o_this_history_panels5 ++ (ce_X5 kA (g 12) o_this_history_panels6)))))))))) out.1 (some (.int out.2.1)) (ce_X12 kA g o_this ++ (ce_X5 kA (g 1) out.2.2.1 ++ (ce_X3 kA (g 5) (fun k => g (6 + k)) out.2.2.2.1 ++ (ce_X5 kA (g 6) out.2.2.2.2.1 ++ (ce_X5 kA (g 7) out.2.2.2.2.2.1 ++ (ce_X5 kA (g 8) out.2.2.2.2.2.2.1 ++ (ce_X5 kA (g 9) out.2.2.2.2.2.2.2.1 ++ (ce_X5 kA (g 10) out.2.2.2.2.2.2.2.2.1 ++ (ce_X5 kA (g 11) out.2.2.2.2.2.2.2.2.2.1 ++ (ce_X5 kA (g 12) out.2.2.2.2.2.2.2.2.2.2)))))))))) := by
  refine mx_of (cc := cX12_lighten) (maxL := 3) (ret := (some .int)) (by decide) rfl (Nat.le_of_ble_eq_true rfl) ?_
  intro p e s m below meth c A B hx0 hZ hD hP hS ls hl
  obtain ⟨hx, hb, hr, hlk, hml, hown, hts, hK, hA, hnm⟩ := B
  have hown : s.vm.findClass RX12 = some m.cls := hown
  have hl : lv_has ls 3 [(0, .ref ((g 0) 0)), (1, .int a1)] := hl
  have hUX12 : ∀ w ∈ u_ws RX12 TX12 15, w.before [.ref ((g 0) 0), .int a1].toArray s = true := fun w h => hts w (List.mem_cons_of_mem _ (List.mem_append_left _ (List.mem_append_left _ (List.mem_append_left _ (List.mem_append_right _ h)))))
  have hB14 : ∀ (o_this_panel : os_T) (o_this_history : os_T) (o_this_history_panels0 : os_T) (o_this_history_panels1 : os_T) (o_this_history_panels2 : os_T) (o_this_history_panels3 : os_T) (o_this_history_panels4 : os_T) (o_this_history_panels5 : os_T) (o_this_history_panels6 : os_T) (H : Heap) (locs : List Loc) (ls : Array Slot), va_P D vwCl (ce_X12 kA g o_this ++ (ce_X5 kA (g 1) o_this_panel ++ (ce_X3 kA (g 5) (fun k => g (6 + k)) o_this_history ++ (ce_X5 kA (g 6) o_this_history_panels0 ++ (ce_X5 kA (g 7) o_this_history_panels1 ++ (ce_X5 kA (g 8) o_this_history_panels2 ++ (ce_X5 kA (g 9) o_this_history_panels3 ++ (ce_X5 kA (g 10) o_this_history_panels4 ++ (ce_X5 kA (g 11) o_this_history_panels5 ++ (ce_X5 kA (g 12) o_this_history_panels6)))))))))) H → va_D A (ce_X12 kA g o_this ++ (ce_X5 kA (g 1) o_this_panel ++ (ce_X3 kA (g 5) (fun k => g (6 + k)) o_this_history ++ (ce_X5 kA (g 6) o_this_history_panels0 ++ (ce_X5 kA (g 7) o_this_history_panels1 ++ (ce_X5 kA (g 8) o_this_history_panels2 ++ (ce_X5 kA (g 9) o_this_history_panels3 ++ (ce_X5 kA (g 10) o_this_history_panels4 ++ (ce_X5 kA (g 11) o_this_history_panels5 ++ (ce_X5 kA (g 12) o_this_history_panels6)))))))))) → va_S A s.heap H locs → lv_has ls 3 [] → ff_X12_lighten_b14 N o_this o_this_panel o_this_history o_this_history_panels0 o_this_history_panels1 o_this_history_panels2 o_this_history_panels3 o_this_history_panels4 o_this_history_panels5 o_this_history_panels6 = some out → W p l e ({ frames := 6, cells := 1, slots := 6, locals := 123 } : Room) s m [.ref ((g 0) 0), .int a1].toArray below meth c H locs 0 0 (vx_MQ below (mx_Q D kA A out.1 (some (.int out.2.1)) (ce_X12 kA g o_this ++ (ce_X5 kA (g 1) out.2.2.1 ++ (ce_X3 kA (g 5) (fun k => g (6 + k)) out.2.2.2.1 ++ (ce_X5 kA (g 6) out.2.2.2.2.1 ++ (ce_X5 kA (g 7) out.2.2.2.2.2.1 ++ (ce_X5 kA (g 8) out.2.2.2.2.2.2.1 ++ (ce_X5 kA (g 9) out.2.2.2.2.2.2.2.1 ++ (ce_X5 kA (g 10) out.2.2.2.2.2.2.2.2.1 ++ (ce_X5 kA (g 11) out.2.2.2.2.2.2.2.2.2.1 ++ (ce_X5 kA (g 12) out.2.2.2.2.2.2.2.2.2.2))))))))))) (mx_X D kA A out.1 (ce_X12 kA g o_this ++ (ce_X5 kA (g 1) out.2.2.1 ++ (ce_X3 kA (g 5) (fun k => g (6 + k)) out.2.2.2.1 ++ (ce_X5 kA (g 6) out.2.2.2.2.1 ++ (ce_X5 kA (g 7) out.2.2.2.2.2.1 ++ (ce_X5 kA (g 8) out.2.2.2.2.2.2.1 ++ (ce_X5 kA (g 9) out.2.2.2.2.2.2.2.1 ++ (ce_X5 kA (g 10) out.2.2.2.2.2.2.2.2.1 ++ (ce_X5 kA (g 11) out.2.2.2.2.2.2.2.2.2.1 ++ (ce_X5 kA (g 12) out.2.2.2.2.2.2.2.2.2.2))))))))))) [.ref ((g 0) 0), .int a1].toArray s 1 6 A) (F0 m 14 ls []) := by
    intro o_this_panel o_this_history o_this_history_panels0 o_this_history_panels1 o_this_history_panels2 o_this_history_panels3 o_this_history_panels4 o_this_history_panels5 o_this_history_panels6 H locs ls hP hD hS hl hf
    unfold ff_X12_lighten_b14 at hf
    rw [← Option.some.inj hf]
    exact mx_throw (xc := 2) (own := RX12) (ik := 104) (ic := 106) (by decide) hx hb hst hown (by decide +kernel) (hts (Cond.classLink RX12 104 "java/lang/IllegalArgumentException") (List.mem_of_getElem? (i := 1) rfl)) (hts (Cond.initialized "java/lang/IllegalArgumentException") (List.mem_of_getElem? (i := 2) rfl)) (vx_hat (L := vx_at0 RX12 106 "java/lang/IllegalArgumentException" ["java/lang/RuntimeException", "java/lang/Exception"]) (B := [.declares ⟨"java/lang/RuntimeException", "<init>", "()V"⟩, .declares ⟨"java/lang/Exception", "<init>", "()V"⟩, .declares ⟨"java/lang/Throwable", "<init>", "()V"⟩, .castable "java/lang/IllegalArgumentException" "java/lang/IllegalArgumentException"]) (fun w h => hts w (List.mem_cons_of_mem _ (List.mem_append_right _ h))) (by decide +kernel) (st_bad (xc := 2) hZ.2.2.1.2.2)) (by decide +kernel) hZ hS (hl.1.trans hml.symm) hP hK hD dX12_lighten_14 dX12_lighten_17 dX12_lighten_18 dX12_lighten_21 hx0 (Nat.le_of_ble_eq_true rfl) (Nat.le_of_ble_eq_true rfl) (Nat.le_of_ble_eq_true rfl) (Nat.le_of_ble_eq_true rfl) hlk (Nat.le_of_ble_eq_true rfl) (Nat.le_of_ble_eq_true rfl)
  unfold ff_X12_lighten at hf
  refine lv_iload_n hx hb dX12_lighten_0 rfl (lv_at hl 1 rfl) ?_
  refine lv_sipush (v := (-255)) hx hb dX12_lighten_1 (by decide) ?_
  refine lv_icmp_lt (tgt := 14) hx hb dX12_lighten_4 (by decide) (fun hc_1 => ?_) (fun hc_1 => ?_)
  · rw [if_pos hc_1] at hf
    exact hB14 o_this_panel o_this_history o_this_history_panels0 o_this_history_panels1 o_this_history_panels2 o_this_history_panels3 o_this_history_panels4 o_this_history_panels5 o_this_history_panels6 _ _ _ hP hD hS (lv_sub hl [] rfl) hf
  · rw [if_neg hc_1] at hf
    refine lv_iload_n hx hb dX12_lighten_7 rfl (lv_at hl 1 rfl) ?_
    refine lv_sipush (v := 255) hx hb dX12_lighten_8 (by decide) ?_
    refine lv_icmp_le (tgt := 22) hx hb dX12_lighten_11 (by decide) (fun hc_2 => ?_) (fun hc_2 => ?_)
    · rw [if_pos hc_2] at hf
      refine lv_aload_n hx hb dX12_lighten_22 rfl (lv_at hl 0 rfl) ?_
      refine va_get (D := D) (ci := 8) (v := .ref ((g 5) 0)) (C := RX12) (T := TX12) (N := 15) hx hb hUX12 (fun _ h9 => h9) hown hK hP 0 rfl rfl 4 (by decide) (hts (Cond.fieldLink RX12 30 "ReliefBuilder" "history" "LReliefBuilder$History;") (List.mem_of_getElem? (i := 3) rfl)) (fun _ h9 => h9) rfl dX12_lighten_23 ?_
      refine lv_aload_n hx hb dX12_lighten_26 rfl (lv_at hl 0 rfl) ?_
      refine va_get (D := D) (ci := 8) (v := .ref ((g 1) 0)) (C := RX12) (T := TX12) (N := 15) hx hb hUX12 (fun _ h9 => h9) hown hK hP 0 rfl rfl 0 (by decide) (hts (Cond.fieldLink RX12 12 "ReliefBuilder" "panel" "LReliefBuilder$Panel;") (List.mem_of_getElem? (i := 4) rfl)) (fun _ h9 => h9) rfl dX12_lighten_27 ?_
      obtain ⟨u_3, he_4, hf⟩ := os_bd hf
      refine mc_callV ⟨hx, hb, hml, hown, hts⟩ (mm_X3_open l D kA N (g 5) (fun k => g (6 + k)) (g 1) o_this_history o_this_history_panels0 o_this_history_panels1 o_this_history_panels2 o_this_history_panels3 o_this_history_panels4 o_this_history_panels5 o_this_history_panels6 o_this_panel u_3 he_4) (cwV 1 hts gX12_lighten_X3_open rfl rfl rfl (by decide +kernel) ⟨Nat.le_of_ble_eq_true rfl, Nat.le_of_ble_eq_true rfl⟩) (wc := (ce_X3 kA (g 5) (fun k => g (6 + k)) o_this_history ++ (ce_X5 kA (g 6) o_this_history_panels0 ++ (ce_X5 kA (g 7) o_this_history_panels1 ++ (ce_X5 kA (g 8) o_this_history_panels2 ++ (ce_X5 kA (g 9) o_this_history_panels3 ++ (ce_X5 kA (g 10) o_this_history_panels4 ++ (ce_X5 kA (g 11) o_this_history_panels5 ++ (ce_X5 kA (g 12) o_this_history_panels6 ++ (ce_X5 kA (g 1) o_this_panel)))))))))) (ci := 0) (q0 := 0) rfl rfl rfl hl.1 (As := [.ref ((g 1) 0)]) (rest := []) rfl (Nat.le_of_ble_eq_true rfl) dX12_lighten_30 ⟨Nat.le_of_ble_eq_true rfl, Nat.le_of_ble_eq_true rfl⟩ hK hP hD hS hA [8, 9, 10, 11, 12, 13, 14, 15, 16, 17, 18, 19, 20, 21, 22, 23, 24, 25, 26, 27, 28, 29, 30, 31, 32, 33, 34, 35, 36, 37, 4, 5, 6, 7] [0, 1, 2, 3] [0, 1, 2, 3, 34, 35, 36, 37, 4, 5, 6, 7, 8, 9, 10, 11, 12, 13, 14, 15, 16, 17, 18, 19, 20, 21, 22, 23, 24, 25, 26, 27, 28, 29, 30, 31, 32, 33] rfl (by decide) rfl (by decide) (by decide) rfl (by decide) (wr := (ce_X12 kA g o_this)) (w2 := (ce_X12 kA g o_this ++ (ce_X5 kA (g 1) o_this_panel ++ (ce_X3 kA (g 5) (fun k => g (6 + k)) o_this_history ++ (ce_X5 kA (g 6) u_3.1 ++ (ce_X5 kA (g 7) u_3.2.1 ++ (ce_X5 kA (g 8) u_3.2.2.1 ++ (ce_X5 kA (g 9) u_3.2.2.2.1 ++ (ce_X5 kA (g 10) u_3.2.2.2.2.1 ++ (ce_X5 kA (g 11) u_3.2.2.2.2.2.1 ++ (ce_X5 kA (g 12) u_3.2.2.2.2.2.2))))))))))) (fun H locs hP hD hS => ?_)
      have hP : va_P D vwCl (ce_X12 kA g o_this ++ (ce_X5 kA (g 1) o_this_panel ++ (ce_X3 kA (g 5) (fun k => g (6 + k)) o_this_history ++ (ce_X5 kA (g 6) u_3.1 ++ (ce_X5 kA (g 7) u_3.2.1 ++ (ce_X5 kA (g 8) u_3.2.2.1 ++ (ce_X5 kA (g 9) u_3.2.2.2.1 ++ (ce_X5 kA (g 10) u_3.2.2.2.2.1 ++ (ce_X5 kA (g 11) u_3.2.2.2.2.2.1 ++ (ce_X5 kA (g 12) u_3.2.2.2.2.2.2)))))))))) H := hP
      refine lv_aload_n hx hb dX12_lighten_33 rfl (lv_at hl 0 rfl) ?_
      refine va_get (D := D) (ci := 8) (v := .ref ((g 1) 0)) (C := RX12) (T := TX12) (N := 15) hx hb hUX12 (fun _ h9 => h9) hown hK hP 0 rfl rfl 0 (by decide) (hts (Cond.fieldLink RX12 12 "ReliefBuilder" "panel" "LReliefBuilder$Panel;") (List.mem_of_getElem? (i := 4) rfl)) (fun _ h9 => h9) rfl dX12_lighten_34 ?_
      refine lv_iload_n hx hb dX12_lighten_37 rfl (lv_at hl 1 rfl) ?_
      obtain ⟨u_5, he_6, hf⟩ := os_bd hf
      refine mc_callV ⟨hx, hb, hml, hown, hts⟩ (mm_X5_brighten l D kA N (g 1) o_this_panel a1 u_5 he_6) (cwV 1 hts gX12_lighten_X5_brighten rfl rfl rfl (by decide +kernel) ⟨Nat.le_of_ble_eq_true rfl, Nat.le_of_ble_eq_true rfl⟩) (wc := (ce_X5 kA (g 1) o_this_panel)) (ci := 2) (q0 := 0) rfl rfl rfl hl.1 (As := [.int a1]) (rest := []) rfl (Nat.le_of_ble_eq_true rfl) dX12_lighten_38 ⟨Nat.le_of_ble_eq_true rfl, Nat.le_of_ble_eq_true rfl⟩ hK hP hD hS hA [4, 5, 6, 7] [0, 1, 2, 3, 8, 9, 10, 11, 12, 13, 14, 15, 16, 17, 18, 19, 20, 21, 22, 23, 24, 25, 26, 27, 28, 29, 30, 31, 32, 33, 34, 35, 36, 37] [0, 1, 2, 3, 34, 35, 36, 37, 4, 5, 6, 7, 8, 9, 10, 11, 12, 13, 14, 15, 16, 17, 18, 19, 20, 21, 22, 23, 24, 25, 26, 27, 28, 29, 30, 31, 32, 33] rfl (by decide) rfl (by decide) (by decide) rfl (by decide) (wr := (ce_X12 kA g o_this ++ (ce_X3 kA (g 5) (fun k => g (6 + k)) o_this_history ++ (ce_X5 kA (g 6) u_3.1 ++ (ce_X5 kA (g 7) u_3.2.1 ++ (ce_X5 kA (g 8) u_3.2.2.1 ++ (ce_X5 kA (g 9) u_3.2.2.2.1 ++ (ce_X5 kA (g 10) u_3.2.2.2.2.1 ++ (ce_X5 kA (g 11) u_3.2.2.2.2.2.1 ++ (ce_X5 kA (g 12) u_3.2.2.2.2.2.2)))))))))) (w2 := (ce_X12 kA g o_this ++ (ce_X5 kA (g 1) u_5.2 ++ (ce_X3 kA (g 5) (fun k => g (6 + k)) o_this_history ++ (ce_X5 kA (g 6) u_3.1 ++ (ce_X5 kA (g 7) u_3.2.1 ++ (ce_X5 kA (g 8) u_3.2.2.1 ++ (ce_X5 kA (g 9) u_3.2.2.2.1 ++ (ce_X5 kA (g 10) u_3.2.2.2.2.1 ++ (ce_X5 kA (g 11) u_3.2.2.2.2.2.1 ++ (ce_X5 kA (g 12) u_3.2.2.2.2.2.2))))))))))) (fun H locs hP hD hS => ?_)
      have hP : va_P D vwCl (ce_X12 kA g o_this ++ (ce_X5 kA (g 1) u_5.2 ++ (ce_X3 kA (g 5) (fun k => g (6 + k)) o_this_history ++ (ce_X5 kA (g 6) u_3.1 ++ (ce_X5 kA (g 7) u_3.2.1 ++ (ce_X5 kA (g 8) u_3.2.2.1 ++ (ce_X5 kA (g 9) u_3.2.2.2.1 ++ (ce_X5 kA (g 10) u_3.2.2.2.2.1 ++ (ce_X5 kA (g 11) u_3.2.2.2.2.2.1 ++ (ce_X5 kA (g 12) u_3.2.2.2.2.2.2)))))))))) H := hP
      refine lv_istore_n (lv' := [(2, .int u_5.1), (0, .ref ((g 0) 0)), (1, .int a1)]) hx hb dX12_lighten_41 rfl hl (by decide) rfl (fun ls hl => ?_)
      refine lv_aload_n hx hb dX12_lighten_42 rfl (lv_at hl 1 rfl) ?_
      refine va_get (D := D) (ci := 8) (v := .ref ((g 5) 0)) (C := RX12) (T := TX12) (N := 15) hx hb hUX12 (fun _ h9 => h9) hown hK hP 0 rfl rfl 4 (by decide) (hts (Cond.fieldLink RX12 30 "ReliefBuilder" "history" "LReliefBuilder$History;") (List.mem_of_getElem? (i := 3) rfl)) (fun _ h9 => h9) rfl dX12_lighten_43 ?_
      refine lv_aload_n hx hb dX12_lighten_46 rfl (lv_at hl 1 rfl) ?_
      refine va_get (D := D) (ci := 8) (v := .ref ((g 1) 0)) (C := RX12) (T := TX12) (N := 15) hx hb hUX12 (fun _ h9 => h9) hown hK hP 0 rfl rfl 0 (by decide) (hts (Cond.fieldLink RX12 12 "ReliefBuilder" "panel" "LReliefBuilder$Panel;") (List.mem_of_getElem? (i := 4) rfl)) (fun _ h9 => h9) rfl dX12_lighten_47 ?_
      obtain ⟨u_7, he_8, hf⟩ := os_bd hf
      refine mc_callV ⟨hx, hb, hml, hown, hts⟩ (mm_X3_close l D kA N (g 5) (fun k => g (6 + k)) (g 1) o_this_history u_3.1 u_3.2.1 u_3.2.2.1 u_3.2.2.2.1 u_3.2.2.2.2.1 u_3.2.2.2.2.2.1 u_3.2.2.2.2.2.2 u_5.2 u_7 he_8) (cwV 1 hts gX12_lighten_X3_close rfl rfl rfl (by decide +kernel) ⟨Nat.le_of_ble_eq_true rfl, Nat.le_of_ble_eq_true rfl⟩) (wc := (ce_X3 kA (g 5) (fun k => g (6 + k)) o_this_history ++ (ce_X5 kA (g 6) u_3.1 ++ (ce_X5 kA (g 7) u_3.2.1 ++ (ce_X5 kA (g 8) u_3.2.2.1 ++ (ce_X5 kA (g 9) u_3.2.2.2.1 ++ (ce_X5 kA (g 10) u_3.2.2.2.2.1 ++ (ce_X5 kA (g 11) u_3.2.2.2.2.2.1 ++ (ce_X5 kA (g 12) u_3.2.2.2.2.2.2 ++ (ce_X5 kA (g 1) u_5.2)))))))))) (ci := 0) (q0 := 0) rfl rfl rfl hl.1 (As := [.ref ((g 1) 0)]) (rest := []) rfl (Nat.le_of_ble_eq_true rfl) dX12_lighten_50 ⟨Nat.le_of_ble_eq_true rfl, Nat.le_of_ble_eq_true rfl⟩ hK hP hD hS hA [8, 9, 10, 11, 12, 13, 14, 15, 16, 17, 18, 19, 20, 21, 22, 23, 24, 25, 26, 27, 28, 29, 30, 31, 32, 33, 34, 35, 36, 37, 4, 5, 6, 7] [0, 1, 2, 3] [0, 1, 2, 3, 34, 35, 36, 37, 4, 5, 6, 7, 8, 9, 10, 11, 12, 13, 14, 15, 16, 17, 18, 19, 20, 21, 22, 23, 24, 25, 26, 27, 28, 29, 30, 31, 32, 33] rfl (by decide) rfl (by decide) (by decide) rfl (by decide) (wr := (ce_X12 kA g o_this)) (w2 := (ce_X12 kA g o_this ++ (ce_X5 kA (g 1) u_5.2 ++ (ce_X3 kA (g 5) (fun k => g (6 + k)) u_7 ++ (ce_X5 kA (g 6) u_3.1 ++ (ce_X5 kA (g 7) u_3.2.1 ++ (ce_X5 kA (g 8) u_3.2.2.1 ++ (ce_X5 kA (g 9) u_3.2.2.2.1 ++ (ce_X5 kA (g 10) u_3.2.2.2.2.1 ++ (ce_X5 kA (g 11) u_3.2.2.2.2.2.1 ++ (ce_X5 kA (g 12) u_3.2.2.2.2.2.2))))))))))) (fun H locs hP hD hS => ?_)
      have hP : va_P D vwCl (ce_X12 kA g o_this ++ (ce_X5 kA (g 1) u_5.2 ++ (ce_X3 kA (g 5) (fun k => g (6 + k)) u_7 ++ (ce_X5 kA (g 6) u_3.1 ++ (ce_X5 kA (g 7) u_3.2.1 ++ (ce_X5 kA (g 8) u_3.2.2.1 ++ (ce_X5 kA (g 9) u_3.2.2.2.1 ++ (ce_X5 kA (g 10) u_3.2.2.2.2.1 ++ (ce_X5 kA (g 11) u_3.2.2.2.2.2.1 ++ (ce_X5 kA (g 12) u_3.2.2.2.2.2.2)))))))))) H := hP
      refine lv_iload_n hx hb dX12_lighten_53 rfl (lv_at hl 0 rfl) ?_
      rw [← Option.some.inj hf]
      exact mx_reti (Nat.le_of_ble_eq_true rfl) (Nat.le_of_ble_eq_true rfl) hx hb hr hlk hP hK hD hS dX12_lighten_54
    · rw [if_neg hc_2] at hf
      exact hB14 o_this_panel o_this_history o_this_history_panels0 o_this_history_panels1 o_this_history_panels2 o_this_history_panels3 o_this_history_panels4 o_this_history_panels5 o_this_history_panels6 _ _ _ hP hD hS (lv_sub hl [] rfl) hf
def ff_X12_mirror (N : Nat) (o_this : os_T) (o_this_panel : os_T) (o_this_history : os_T) (o_this_history_panels0 : os_T) (o_this_history_panels1 : os_T) (o_this_history_panels2 : os_T) (o_this_history_panels3 : os_T) (o_this_history_panels4 : os_T) (o_this_history_panels5 : os_T) (o_this_history_panels6 : os_T) : Option (Int32 × os_T × os_T × os_T × os_T × os_T × os_T × os_T × os_T × os_T) :=
  ((ff_X3_open N o_this_history o_this_history_panels0 o_this_history_panels1 o_this_history_panels2 o_this_history_panels3 o_this_history_panels4 o_this_history_panels5 o_this_history_panels6 o_this_panel).bind fun u_1 => ((ff_X5_turn N o_this_panel).bind fun u_3 => ((ff_X3_close N o_this_history u_1.1 u_1.2.1 u_1.2.2.1 u_1.2.2.2.1 u_1.2.2.2.2.1 u_1.2.2.2.2.2.1 u_1.2.2.2.2.2.2 u_3.2).bind fun u_5 => some (u_3.1, u_3.2, u_5, u_1.1, u_1.2.1, u_1.2.2.1, u_1.2.2.2.1, u_1.2.2.2.2.1, u_1.2.2.2.2.2.1, u_1.2.2.2.2.2.2))))
set_option maxHeartbeats 4000000 in
set_option maxRecDepth 100000 in
theorem mm_X12_mirror (l : Launch) (D : va_G) (kA : Nat → ClassId) (N : Nat) (g : Nat → Nat → Nat) (o_this : os_T) (o_this_panel : os_T) (o_this_history : os_T) (o_this_history_panels0 : os_T) (o_this_history_panels1 : os_T) (o_this_history_panels2 : os_T) (o_this_history_panels3 : os_T) (o_this_history_panels4 : os_T) (o_this_history_panels5 : os_T) (o_this_history_panels6 : os_T) (out : (Int32 × os_T × os_T × os_T × os_T × os_T × os_T × os_T × os_T × os_T)) (hf : ff_X12_mirror N o_this o_this_panel o_this_history o_this_history_panels0 o_this_history_panels1 o_this_history_panels2 o_this_history_panels3 o_this_history_panels4 o_this_history_panels5 o_this_history_panels6 = some out) : mc_C l D kA yX12_mirror wsX12_mirror ({ frames := 4, cells := 0, slots := 0, locals := 123 } : Room) [.ref ((g 0) 0)] (ce_X12 kA g o_this ++ (ce_X5 kA (g 1) o_this_panel ++ (ce_X3 kA (g 5) (fun k => g (6 + k)) o_this_history ++ (ce_X5 kA (g 6) o_this_history_panels0 ++ (ce_X5 kA (g 7) o_this_history_panels1 ++ (ce_X5 kA (g 8) o_this_history_panels2 ++ (ce_X5 kA (g 9) o_this_history_panels3 ++ (ce_X5 kA (g 10) o_this_history_panels4 ++ (ce_X5 kA (g 11) o_this_history_panels5 ++ (ce_X5 kA (g 12) o_this_history_panels6)))))))))) (some (.int out.1)) (ce_X12 kA g o_this ++ (ce_X5 kA (g 1) out.2.1 ++ (ce_X3 kA (g 5) (fun k => g (6 + k)) out.2.2.1 ++ (ce_X5 kA (g 6) out.2.2.2.1 ++ (ce_X5 kA (g 7) out.2.2.2.2.1 ++ (ce_X5 kA (g 8) out.2.2.2.2.2.1 ++ (ce_X5 kA (g 9) out.2.2.2.2.2.2.1 ++ (ce_X5 kA (g 10) out.2.2.2.2.2.2.2.1 ++ (ce_X5 kA (g 11) out.2.2.2.2.2.2.2.2.1 ++ (ce_X5 kA (g 12) out.2.2.2.2.2.2.2.2.2)))))))))) := by
  refine mc_of (cc := cX12_mirror) (maxL := 2) (ret := (some .int)) (by decide) rfl (Nat.le_of_ble_eq_true rfl) ?_
  intro p e s m below meth c A B hD hP hS ls hl
  obtain ⟨hx, hb, hr, hlk, hml, hown, hts, hK, hA, hnm⟩ := B
  have hown : s.vm.findClass RX12 = some m.cls := hown
  have hl : lv_has ls 2 [(0, .ref ((g 0) 0))] := hl
  have hUX12 : ∀ w ∈ u_ws RX12 TX12 15, w.before [.ref ((g 0) 0)].toArray s = true := fun w h => hts w (List.mem_cons_of_mem _ (List.mem_append_left _ (List.mem_append_left _ (List.mem_append_right _ h))))
  unfold ff_X12_mirror at hf
  refine lv_aload_n hx hb dX12_mirror_0 rfl (lv_at hl 0 rfl) ?_
  refine va_get (D := D) (ci := 8) (v := .ref ((g 5) 0)) (C := RX12) (T := TX12) (N := 15) hx hb hUX12 (fun _ h9 => h9) hown hK hP 0 rfl rfl 4 (by decide) (hts (Cond.fieldLink RX12 30 "ReliefBuilder" "history" "LReliefBuilder$History;") (List.mem_of_getElem? (i := 1) rfl)) (fun _ h9 => h9) rfl dX12_mirror_1 ?_
  refine lv_aload_n hx hb dX12_mirror_4 rfl (lv_at hl 0 rfl) ?_
  refine va_get (D := D) (ci := 8) (v := .ref ((g 1) 0)) (C := RX12) (T := TX12) (N := 15) hx hb hUX12 (fun _ h9 => h9) hown hK hP 0 rfl rfl 0 (by decide) (hts (Cond.fieldLink RX12 12 "ReliefBuilder" "panel" "LReliefBuilder$Panel;") (List.mem_of_getElem? (i := 2) rfl)) (fun _ h9 => h9) rfl dX12_mirror_5 ?_
  obtain ⟨u_1, he_2, hf⟩ := os_bd hf
  refine mc_callV ⟨hx, hb, hml, hown, hts⟩ (mm_X3_open l D kA N (g 5) (fun k => g (6 + k)) (g 1) o_this_history o_this_history_panels0 o_this_history_panels1 o_this_history_panels2 o_this_history_panels3 o_this_history_panels4 o_this_history_panels5 o_this_history_panels6 o_this_panel u_1 he_2) (cwV 1 hts gX12_mirror_X3_open rfl rfl rfl (by decide +kernel) ⟨Nat.le_of_ble_eq_true rfl, Nat.le_of_ble_eq_true rfl⟩) (wc := (ce_X3 kA (g 5) (fun k => g (6 + k)) o_this_history ++ (ce_X5 kA (g 6) o_this_history_panels0 ++ (ce_X5 kA (g 7) o_this_history_panels1 ++ (ce_X5 kA (g 8) o_this_history_panels2 ++ (ce_X5 kA (g 9) o_this_history_panels3 ++ (ce_X5 kA (g 10) o_this_history_panels4 ++ (ce_X5 kA (g 11) o_this_history_panels5 ++ (ce_X5 kA (g 12) o_this_history_panels6 ++ (ce_X5 kA (g 1) o_this_panel)))))))))) (ci := 0) (q0 := 0) rfl rfl rfl hl.1 (As := [.ref ((g 1) 0)]) (rest := []) rfl (Nat.le_of_ble_eq_true rfl) dX12_mirror_8 ⟨Nat.le_of_ble_eq_true rfl, Nat.le_of_ble_eq_true rfl⟩ hK hP hD hS hA [8, 9, 10, 11, 12, 13, 14, 15, 16, 17, 18, 19, 20, 21, 22, 23, 24, 25, 26, 27, 28, 29, 30, 31, 32, 33, 34, 35, 36, 37, 4, 5, 6, 7] [0, 1, 2, 3] [0, 1, 2, 3, 34, 35, 36, 37, 4, 5, 6, 7, 8, 9, 10, 11, 12, 13, 14, 15, 16, 17, 18, 19, 20, 21, 22, 23, 24, 25, 26, 27, 28, 29, 30, 31, 32, 33] rfl (by decide) rfl (by decide) (by decide) rfl (by decide) (wr := (ce_X12 kA g o_this)) (w2 := (ce_X12 kA g o_this ++ (ce_X5 kA (g 1) o_this_panel ++ (ce_X3 kA (g 5) (fun k => g (6 + k)) o_this_history ++ (ce_X5 kA (g 6) u_1.1 ++ (ce_X5 kA (g 7) u_1.2.1 ++ (ce_X5 kA (g 8) u_1.2.2.1 ++ (ce_X5 kA (g 9) u_1.2.2.2.1 ++ (ce_X5 kA (g 10) u_1.2.2.2.2.1 ++ (ce_X5 kA (g 11) u_1.2.2.2.2.2.1 ++ (ce_X5 kA (g 12) u_1.2.2.2.2.2.2))))))))))) (fun H locs hP hD hS => ?_)
  have hP : va_P D vwCl (ce_X12 kA g o_this ++ (ce_X5 kA (g 1) o_this_panel ++ (ce_X3 kA (g 5) (fun k => g (6 + k)) o_this_history ++ (ce_X5 kA (g 6) u_1.1 ++ (ce_X5 kA (g 7) u_1.2.1 ++ (ce_X5 kA (g 8) u_1.2.2.1 ++ (ce_X5 kA (g 9) u_1.2.2.2.1 ++ (ce_X5 kA (g 10) u_1.2.2.2.2.1 ++ (ce_X5 kA (g 11) u_1.2.2.2.2.2.1 ++ (ce_X5 kA (g 12) u_1.2.2.2.2.2.2)))))))))) H := hP
  refine lv_aload_n hx hb dX12_mirror_11 rfl (lv_at hl 0 rfl) ?_
  refine va_get (D := D) (ci := 8) (v := .ref ((g 1) 0)) (C := RX12) (T := TX12) (N := 15) hx hb hUX12 (fun _ h9 => h9) hown hK hP 0 rfl rfl 0 (by decide) (hts (Cond.fieldLink RX12 12 "ReliefBuilder" "panel" "LReliefBuilder$Panel;") (List.mem_of_getElem? (i := 2) rfl)) (fun _ h9 => h9) rfl dX12_mirror_12 ?_
  obtain ⟨u_3, he_4, hf⟩ := os_bd hf
  refine mc_callV ⟨hx, hb, hml, hown, hts⟩ (mm_X5_turn l D kA N (g 1) o_this_panel u_3 he_4) (cwV 0 hts gX12_mirror_X5_turn rfl rfl rfl (by decide +kernel) ⟨Nat.le_of_ble_eq_true rfl, Nat.le_of_ble_eq_true rfl⟩) (wc := (ce_X5 kA (g 1) o_this_panel)) (ci := 2) (q0 := 0) rfl rfl rfl hl.1 (As := []) (rest := []) rfl (Nat.le_of_ble_eq_true rfl) dX12_mirror_15 ⟨Nat.le_of_ble_eq_true rfl, Nat.le_of_ble_eq_true rfl⟩ hK hP hD hS hA [4, 5, 6, 7] [0, 1, 2, 3, 8, 9, 10, 11, 12, 13, 14, 15, 16, 17, 18, 19, 20, 21, 22, 23, 24, 25, 26, 27, 28, 29, 30, 31, 32, 33, 34, 35, 36, 37] [0, 1, 2, 3, 34, 35, 36, 37, 4, 5, 6, 7, 8, 9, 10, 11, 12, 13, 14, 15, 16, 17, 18, 19, 20, 21, 22, 23, 24, 25, 26, 27, 28, 29, 30, 31, 32, 33] rfl (by decide) rfl (by decide) (by decide) rfl (by decide) (wr := (ce_X12 kA g o_this ++ (ce_X3 kA (g 5) (fun k => g (6 + k)) o_this_history ++ (ce_X5 kA (g 6) u_1.1 ++ (ce_X5 kA (g 7) u_1.2.1 ++ (ce_X5 kA (g 8) u_1.2.2.1 ++ (ce_X5 kA (g 9) u_1.2.2.2.1 ++ (ce_X5 kA (g 10) u_1.2.2.2.2.1 ++ (ce_X5 kA (g 11) u_1.2.2.2.2.2.1 ++ (ce_X5 kA (g 12) u_1.2.2.2.2.2.2)))))))))) (w2 := (ce_X12 kA g o_this ++ (ce_X5 kA (g 1) u_3.2 ++ (ce_X3 kA (g 5) (fun k => g (6 + k)) o_this_history ++ (ce_X5 kA (g 6) u_1.1 ++ (ce_X5 kA (g 7) u_1.2.1 ++ (ce_X5 kA (g 8) u_1.2.2.1 ++ (ce_X5 kA (g 9) u_1.2.2.2.1 ++ (ce_X5 kA (g 10) u_1.2.2.2.2.1 ++ (ce_X5 kA (g 11) u_1.2.2.2.2.2.1 ++ (ce_X5 kA (g 12) u_1.2.2.2.2.2.2))))))))))) (fun H locs hP hD hS => ?_)
  have hP : va_P D vwCl (ce_X12 kA g o_this ++ (ce_X5 kA (g 1) u_3.2 ++ (ce_X3 kA (g 5) (fun k => g (6 + k)) o_this_history ++ (ce_X5 kA (g 6) u_1.1 ++ (ce_X5 kA (g 7) u_1.2.1 ++ (ce_X5 kA (g 8) u_1.2.2.1 ++ (ce_X5 kA (g 9) u_1.2.2.2.1 ++ (ce_X5 kA (g 10) u_1.2.2.2.2.1 ++ (ce_X5 kA (g 11) u_1.2.2.2.2.2.1 ++ (ce_X5 kA (g 12) u_1.2.2.2.2.2.2)))))))))) H := hP
  refine lv_istore_n (lv' := [(1, .int u_3.1), (0, .ref ((g 0) 0))]) hx hb dX12_mirror_18 rfl hl (by decide) rfl (fun ls hl => ?_)
  refine lv_aload_n hx hb dX12_mirror_19 rfl (lv_at hl 1 rfl) ?_
  refine va_get (D := D) (ci := 8) (v := .ref ((g 5) 0)) (C := RX12) (T := TX12) (N := 15) hx hb hUX12 (fun _ h9 => h9) hown hK hP 0 rfl rfl 4 (by decide) (hts (Cond.fieldLink RX12 30 "ReliefBuilder" "history" "LReliefBuilder$History;") (List.mem_of_getElem? (i := 1) rfl)) (fun _ h9 => h9) rfl dX12_mirror_20 ?_
  refine lv_aload_n hx hb dX12_mirror_23 rfl (lv_at hl 1 rfl) ?_
  refine va_get (D := D) (ci := 8) (v := .ref ((g 1) 0)) (C := RX12) (T := TX12) (N := 15) hx hb hUX12 (fun _ h9 => h9) hown hK hP 0 rfl rfl 0 (by decide) (hts (Cond.fieldLink RX12 12 "ReliefBuilder" "panel" "LReliefBuilder$Panel;") (List.mem_of_getElem? (i := 2) rfl)) (fun _ h9 => h9) rfl dX12_mirror_24 ?_
  obtain ⟨u_5, he_6, hf⟩ := os_bd hf
  refine mc_callV ⟨hx, hb, hml, hown, hts⟩ (mm_X3_close l D kA N (g 5) (fun k => g (6 + k)) (g 1) o_this_history u_1.1 u_1.2.1 u_1.2.2.1 u_1.2.2.2.1 u_1.2.2.2.2.1 u_1.2.2.2.2.2.1 u_1.2.2.2.2.2.2 u_3.2 u_5 he_6) (cwV 1 hts gX12_mirror_X3_close rfl rfl rfl (by decide +kernel) ⟨Nat.le_of_ble_eq_true rfl, Nat.le_of_ble_eq_true rfl⟩) (wc := (ce_X3 kA (g 5) (fun k => g (6 + k)) o_this_history ++ (ce_X5 kA (g 6) u_1.1 ++ (ce_X5 kA (g 7) u_1.2.1 ++ (ce_X5 kA (g 8) u_1.2.2.1 ++ (ce_X5 kA (g 9) u_1.2.2.2.1 ++ (ce_X5 kA (g 10) u_1.2.2.2.2.1 ++ (ce_X5 kA (g 11) u_1.2.2.2.2.2.1 ++ (ce_X5 kA (g 12) u_1.2.2.2.2.2.2 ++ (ce_X5 kA (g 1) u_3.2)))))))))) (ci := 0) (q0 := 0) rfl rfl rfl hl.1 (As := [.ref ((g 1) 0)]) (rest := []) rfl (Nat.le_of_ble_eq_true rfl) dX12_mirror_27 ⟨Nat.le_of_ble_eq_true rfl, Nat.le_of_ble_eq_true rfl⟩ hK hP hD hS hA [8, 9, 10, 11, 12, 13, 14, 15, 16, 17, 18, 19, 20, 21, 22, 23, 24, 25, 26, 27, 28, 29, 30, 31, 32, 33, 34, 35, 36, 37, 4, 5, 6, 7] [0, 1, 2, 3] [0, 1, 2, 3, 34, 35, 36, 37, 4, 5, 6, 7, 8, 9, 10, 11, 12, 13, 14, 15, 16, 17, 18, 19, 20, 21, 22, 23, 24, 25, 26, 27, 28, 29, 30, 31, 32, 33] rfl (by decide) rfl (by decide) (by decide) rfl (by decide) (wr := (ce_X12 kA g o_this)) (w2 := (ce_X12 kA g o_this ++ (ce_X5 kA (g 1) u_3.2 ++ (ce_X3 kA (g 5) (fun k => g (6 + k)) u_5 ++ (ce_X5 kA (g 6) u_1.1 ++ (ce_X5 kA (g 7) u_1.2.1 ++ (ce_X5 kA (g 8) u_1.2.2.1 ++ (ce_X5 kA (g 9) u_1.2.2.2.1 ++ (ce_X5 kA (g 10) u_1.2.2.2.2.1 ++ (ce_X5 kA (g 11) u_1.2.2.2.2.2.1 ++ (ce_X5 kA (g 12) u_1.2.2.2.2.2.2))))))))))) (fun H locs hP hD hS => ?_)
  have hP : va_P D vwCl (ce_X12 kA g o_this ++ (ce_X5 kA (g 1) u_3.2 ++ (ce_X3 kA (g 5) (fun k => g (6 + k)) u_5 ++ (ce_X5 kA (g 6) u_1.1 ++ (ce_X5 kA (g 7) u_1.2.1 ++ (ce_X5 kA (g 8) u_1.2.2.1 ++ (ce_X5 kA (g 9) u_1.2.2.2.1 ++ (ce_X5 kA (g 10) u_1.2.2.2.2.1 ++ (ce_X5 kA (g 11) u_1.2.2.2.2.2.1 ++ (ce_X5 kA (g 12) u_1.2.2.2.2.2.2)))))))))) H := hP
  refine lv_iload_n hx hb dX12_mirror_30 rfl (lv_at hl 0 rfl) ?_
  rw [← Option.some.inj hf]
  exact mc_reti hx hb hr hlk hP hK hD hS dX12_mirror_31
def ff_X12_checkPlace (N : Nat) (o_this : os_T) (a1 : Int32) (a2 : Int32) : Option Nat :=
  ((ff_X6_hasPlace N a1 a2).bind fun u_1 => (if u_1 = 0 then some 3 else some 0))
set_option maxHeartbeats 4000000 in
set_option maxRecDepth 100000 in
theorem mm_X12_checkPlace (l : Launch) (hst : l.stackTraces = false) (zz : Nat → Nat → Nat) (D : va_G) (kA : Nat → ClassId) (N : Nat) (g : Nat → Nat → Nat) (o_this : os_T) (a1 : Int32) (a2 : Int32) (out : Nat) (hf : ff_X12_checkPlace N o_this a1 a2 = some out) : mx_C l zz D kA yX12_checkPlace wsX12_checkPlace ({ frames := 6, cells := 1, slots := 6, locals := 90 } : Room) [.ref ((g 0) 0), .int a1, .int a2] (ce_X12 kA g o_this) out none (ce_X12 kA g o_this) := by
  refine mx_of (cc := cX12_checkPlace) (maxL := 3) (ret := none) (by decide) rfl (Nat.le_of_ble_eq_true rfl) ?_
  intro p e s m below meth c A B hx0 hZ hD hP hS ls hl
  obtain ⟨hx, hb, hr, hlk, hml, hown, hts, hK, hA, hnm⟩ := B
  have hown : s.vm.findClass RX12 = some m.cls := hown
  have hl : lv_has ls 3 [(0, .ref ((g 0) 0)), (1, .int a1), (2, .int a2)] := hl
  unfold ff_X12_checkPlace at hf
  refine lv_iload_n hx hb dX12_checkPlace_0 rfl (lv_at hl 1 rfl) ?_
  refine lv_iload_n hx hb dX12_checkPlace_1 rfl (lv_at hl 2 rfl) ?_
  obtain ⟨u_1, he_2, hf⟩ := os_bd hf
  refine mc_callS ⟨hx, hb, hml, hown, hts⟩ (mm_X6_hasPlace l D kA N a1 a2 u_1 he_2) (va_cwS 2 hts gX12_checkPlace_X6_hasPlace rfl rfl rfl (by decide +kernel) ⟨Nat.le_of_ble_eq_true rfl, Nat.le_of_ble_eq_true rfl⟩) (wc := []) rfl hl.1 (As := [.int a1, .int a2]) (rest := []) rfl (Nat.le_of_ble_eq_true rfl) dX12_checkPlace_2 ⟨Nat.le_of_ble_eq_true rfl, Nat.le_of_ble_eq_true rfl⟩ hK hP hD hS hA [] [0, 1, 2, 3] [0, 1, 2, 3] rfl (by decide) rfl (by decide) (by decide) rfl (by decide) (wr := (ce_X12 kA g o_this)) (w2 := (ce_X12 kA g o_this)) (fun H locs hP hD hS => ?_)
  have hP : va_P D vwCl (ce_X12 kA g o_this) H := hP
  refine lv_if_ne (tgt := 16) hx hb dX12_checkPlace_5 (by decide) (fun hc_3 => ?_) (fun hc_3 => ?_)
  · rw [if_neg hc_3] at hf
    rw [← Option.some.inj hf]
    exact mx_retv (Nat.le_of_ble_eq_true rfl) (Nat.le_of_ble_eq_true rfl) hx hb hr hlk hP hK hD hS dX12_checkPlace_16
  · rw [if_pos hc_3] at hf
    rw [← Option.some.inj hf]
    exact mx_throw (xc := 3) (own := RX12) (ik := 290) (ic := 292) (by decide) hx hb hst hown (by decide +kernel) (hts (Cond.classLink RX12 290 "java/lang/IndexOutOfBoundsException") (List.mem_of_getElem? (i := 1) rfl)) (hts (Cond.initialized "java/lang/IndexOutOfBoundsException") (List.mem_of_getElem? (i := 2) rfl)) (vx_hat (L := vx_at0 RX12 292 "java/lang/IndexOutOfBoundsException" ["java/lang/RuntimeException", "java/lang/Exception"]) (B := [.declares ⟨"java/lang/RuntimeException", "<init>", "()V"⟩, .declares ⟨"java/lang/Exception", "<init>", "()V"⟩, .declares ⟨"java/lang/Throwable", "<init>", "()V"⟩, .castable "java/lang/IndexOutOfBoundsException" "java/lang/IndexOutOfBoundsException"]) (fun w h => hts w (List.mem_cons_of_mem _ (List.mem_append_right _ h))) (by decide +kernel) (st_bad (xc := 3) hZ.2.2.1.2.2)) (by decide +kernel) hZ hS (hl.1.trans hml.symm) hP hK hD dX12_checkPlace_8 dX12_checkPlace_11 dX12_checkPlace_12 dX12_checkPlace_15 hx0 (Nat.le_of_ble_eq_true rfl) (Nat.le_of_ble_eq_true rfl) (Nat.le_of_ble_eq_true rfl) (Nat.le_of_ble_eq_true rfl) hlk (Nat.le_of_ble_eq_true rfl) (Nat.le_of_ble_eq_true rfl)
def ff_X12_putStamp (N : Nat) (o_this : os_T) (o_this_racks : os_T) (a1 : Int32) (a2 : Int32) (a3 : Int32) (a4 : Int32) (a5 : Int32) : Option (Nat × Int32 × os_T) :=
  ((ff_X12_checkPlace N o_this a1 a2).bind fun u_1 => (if u_1 = 0 then ((ff_X6_isStamp N a3 a4 a5).bind fun u_3 => (if u_3 = 0 then some (2, (0 : Int32), o_this_racks) else ((ff_X6_takes N a1 a3).bind fun u_6 => (if u_6 = 0 then some (0, (0 : Int32), o_this_racks) else ((ff_X6_codeOf N a3 a4 a5).bind fun u_9 => ((ff_X6_put N o_this_racks a1 a2 u_9).bind fun u_11 => some (0, (1 : Int32), u_11))))))) else some (u_1, (0 : Int32), o_this_racks)))
set_option maxHeartbeats 4000000 in
set_option maxRecDepth 100000 in
theorem mm_X12_putStamp (l : Launch) (hst : l.stackTraces = false) (zz : Nat → Nat → Nat) (D : va_G) (kA : Nat → ClassId) (N : Nat) (g : Nat → Nat → Nat) (o_this : os_T) (o_this_racks : os_T) (a1 : Int32) (a2 : Int32) (a3 : Int32) (a4 : Int32) (a5 : Int32) (out : (Nat × Int32 × os_T)) (hf : ff_X12_putStamp N o_this o_this_racks a1 a2 a3 a4 a5 = some out) : mx_C l zz D kA yX12_putStamp wsX12_putStamp ({ frames := 7, cells := 2, slots := 12, locals := 112 } : Room) [.ref ((g 0) 0), .int a1, .int a2, .int a3, .int a4, .int a5] (ce_X12 kA g o_this ++ (ce_X6 kA (g 15) o_this_racks)) out.1 (some (.int out.2.1)) (ce_X12 kA g o_this ++ (ce_X6 kA (g 15) out.2.2)) := by
  refine mx_of (cc := cX12_putStamp) (maxL := 6) (ret := (some .boolean)) (by decide) rfl (Nat.le_of_ble_eq_true rfl) ?_
  intro p e s m below meth c A B hx0 hZ hD hP hS ls hl
  obtain ⟨hx, hb, hr, hlk, hml, hown, hts, hK, hA, hnm⟩ := B
  have hown : s.vm.findClass RX12 = some m.cls := hown
  have hl : lv_has ls 6 [(0, .ref ((g 0) 0)), (1, .int a1), (2, .int a2), (3, .int a3), (4, .int a4), (5, .int a5)] := hl
  have hUX12 : ∀ w ∈ u_ws RX12 TX12 15, w.before [.ref ((g 0) 0), .int a1, .int a2, .int a3, .int a4, .int a5].toArray s = true := fun w h => hts w (List.mem_cons_of_mem _ (List.mem_append_left _ (List.mem_append_left _ (List.mem_append_left _ (List.mem_append_right _ h)))))
  unfold ff_X12_putStamp at hf
  refine lv_aload_n hx hb dX12_putStamp_0 rfl (lv_at hl 0 rfl) ?_
  refine lv_iload_n hx hb dX12_putStamp_1 rfl (lv_at hl 1 rfl) ?_
  refine lv_iload_n hx hb dX12_putStamp_2 rfl (lv_at hl 2 rfl) ?_
  obtain ⟨u_1, he_2, hf⟩ := os_bd hf
  refine mx_callV ⟨hx, hb, hml, hown, hts⟩ (mm_X12_checkPlace l hst zz D kA N g o_this a1 a2 u_1 he_2) (cwV 2 hts gX12_putStamp_X12_checkPlace rfl rfl rfl (by decide +kernel) ⟨Nat.le_of_ble_eq_true rfl, Nat.le_of_ble_eq_true rfl⟩) (wc := (ce_X12 kA g o_this)) (ci := 8) (q0 := 0) rfl rfl rfl hl.1 (As := [.int a1, .int a2]) (rest := []) rfl (Nat.le_of_ble_eq_true rfl) dX12_putStamp_3 ⟨Nat.le_of_ble_eq_true rfl, Nat.le_of_ble_eq_true rfl⟩ hK hP hD hS hA hZ [0, 1, 2, 3] [4, 5] [2, 3, 4, 5, 0, 1] rfl (by decide) rfl (by decide) (by decide) rfl (by decide) (wr := (ce_X6 kA (g 15) o_this_racks)) (w2 := (ce_X12 kA g o_this ++ (ce_X6 kA (g 15) o_this_racks))) (fun hx9 H locs q9 ce hP hD hS h91 h92 h93 => ?_) (fun hx9 H locs hP hD hS => ?_)
  · rw [if_neg hx9] at hf
    rw [← Option.some.inj hf]
    exact mx_out hx9 hx0 hlk hP hK hD hS h91 h92 h93 (Nat.le_of_ble_eq_true rfl) (Nat.le_of_ble_eq_true rfl)
  · rw [if_pos hx9] at hf
    refine W.widen (k := 1) (n := 6) (Nat.le_of_ble_eq_true rfl) (Nat.le_of_ble_eq_true rfl) ?_
    have hP : va_P D vwCl (ce_X12 kA g o_this ++ (ce_X6 kA (g 15) o_this_racks)) H := hP
    refine lv_iload_n hx hb dX12_putStamp_6 rfl (lv_at hl 3 rfl) ?_
    refine lv_iload hx hb dX12_putStamp_7 (lv_at hl 4 rfl) ?_
    refine lv_iload hx hb dX12_putStamp_9 (lv_at hl 5 rfl) ?_
    obtain ⟨u_3, he_4, hf⟩ := os_bd hf
    refine mc_callS ⟨hx, hb, hml, hown, hts⟩ (mm_X6_isStamp l D kA N a3 a4 a5 u_3 he_4) (va_cwS 3 hts gX12_putStamp_X6_isStamp rfl rfl rfl (by decide +kernel) ⟨Nat.le_of_ble_eq_true rfl, Nat.le_of_ble_eq_true rfl⟩) (wc := []) rfl hl.1 (As := [.int a3, .int a4, .int a5]) (rest := []) rfl (Nat.le_of_ble_eq_true rfl) dX12_putStamp_11 ⟨Nat.le_of_ble_eq_true rfl, Nat.le_of_ble_eq_true rfl⟩ hK hP hD hS hA [] [0, 1, 2, 3, 4, 5] [0, 1, 2, 3, 4, 5] rfl (by decide) rfl (by decide) (by decide) rfl (by decide) (wr := (ce_X12 kA g o_this ++ (ce_X6 kA (g 15) o_this_racks))) (w2 := (ce_X12 kA g o_this ++ (ce_X6 kA (g 15) o_this_racks))) (fun H locs hP hD hS => ?_)
    have hP : va_P D vwCl (ce_X12 kA g o_this ++ (ce_X6 kA (g 15) o_this_racks)) H := hP
    refine lv_if_ne (tgt := 25) hx hb dX12_putStamp_14 (by decide) (fun hc_5 => ?_) (fun hc_5 => ?_)
    · rw [if_neg hc_5] at hf
      refine lv_iload_n hx hb dX12_putStamp_25 rfl (lv_at hl 1 rfl) ?_
      refine lv_iload_n hx hb dX12_putStamp_26 rfl (lv_at hl 3 rfl) ?_
      obtain ⟨u_6, he_7, hf⟩ := os_bd hf
      refine mc_callS ⟨hx, hb, hml, hown, hts⟩ (mm_X6_takes l D kA N a1 a3 u_6 he_7) (va_cwS 2 hts gX12_putStamp_X6_takes rfl rfl rfl (by decide +kernel) ⟨Nat.le_of_ble_eq_true rfl, Nat.le_of_ble_eq_true rfl⟩) (wc := []) rfl hl.1 (As := [.int a1, .int a3]) (rest := []) rfl (Nat.le_of_ble_eq_true rfl) dX12_putStamp_27 ⟨Nat.le_of_ble_eq_true rfl, Nat.le_of_ble_eq_true rfl⟩ hK hP hD hS hA [] [0, 1, 2, 3, 4, 5] [0, 1, 2, 3, 4, 5] rfl (by decide) rfl (by decide) (by decide) rfl (by decide) (wr := (ce_X12 kA g o_this ++ (ce_X6 kA (g 15) o_this_racks))) (w2 := (ce_X12 kA g o_this ++ (ce_X6 kA (g 15) o_this_racks))) (fun H locs hP hD hS => ?_)
      have hP : va_P D vwCl (ce_X12 kA g o_this ++ (ce_X6 kA (g 15) o_this_racks)) H := hP
      refine lv_if_ne (tgt := 35) hx hb dX12_putStamp_30 (by decide) (fun hc_8 => ?_) (fun hc_8 => ?_)
      · rw [if_neg hc_8] at hf
        refine lv_aload_n hx hb dX12_putStamp_35 rfl (lv_at hl 0 rfl) ?_
        refine va_get (D := D) (ci := 8) (v := .ref ((g 15) 0)) (C := RX12) (T := TX12) (N := 15) hx hb hUX12 (fun _ h9 => h9) hown hK hP 0 rfl rfl 7 (by decide) (hts (Cond.fieldLink RX12 53 "ReliefBuilder" "racks" "LReliefBuilder$Racks;") (List.mem_of_getElem? (i := 3) rfl)) (fun _ h9 => h9) rfl dX12_putStamp_36 ?_
        refine lv_iload_n hx hb dX12_putStamp_39 rfl (lv_at hl 1 rfl) ?_
        refine lv_iload_n hx hb dX12_putStamp_40 rfl (lv_at hl 2 rfl) ?_
        refine lv_iload_n hx hb dX12_putStamp_41 rfl (lv_at hl 3 rfl) ?_
        refine lv_iload hx hb dX12_putStamp_42 (lv_at hl 4 rfl) ?_
        refine lv_iload hx hb dX12_putStamp_44 (lv_at hl 5 rfl) ?_
        obtain ⟨u_9, he_10, hf⟩ := os_bd hf
        refine mc_callS ⟨hx, hb, hml, hown, hts⟩ (mm_X6_codeOf l D kA N a3 a4 a5 u_9 he_10) (va_cwS 3 hts gX12_putStamp_X6_codeOf rfl rfl rfl (by decide +kernel) ⟨Nat.le_of_ble_eq_true rfl, Nat.le_of_ble_eq_true rfl⟩) (wc := []) rfl hl.1 (As := [.int a3, .int a4, .int a5]) (rest := [.int a2, .int a1, .ref ((g 15) 0)]) rfl (Nat.le_of_ble_eq_true rfl) dX12_putStamp_46 ⟨Nat.le_of_ble_eq_true rfl, Nat.le_of_ble_eq_true rfl⟩ hK hP hD hS hA [] [0, 1, 2, 3, 4, 5] [0, 1, 2, 3, 4, 5] rfl (by decide) rfl (by decide) (by decide) rfl (by decide) (wr := (ce_X12 kA g o_this ++ (ce_X6 kA (g 15) o_this_racks))) (w2 := (ce_X12 kA g o_this ++ (ce_X6 kA (g 15) o_this_racks))) (fun H locs hP hD hS => ?_)
        have hP : va_P D vwCl (ce_X12 kA g o_this ++ (ce_X6 kA (g 15) o_this_racks)) H := hP
        obtain ⟨u_11, he_12, hf⟩ := os_bd hf
        refine mc_callV ⟨hx, hb, hml, hown, hts⟩ (mm_X6_put l D kA N (g 15) o_this_racks a1 a2 u_9 u_11 he_12) (cwV 3 hts gX12_putStamp_X6_put rfl rfl rfl (by decide +kernel) ⟨Nat.le_of_ble_eq_true rfl, Nat.le_of_ble_eq_true rfl⟩) (wc := (ce_X6 kA (g 15) o_this_racks)) (ci := 3) (q0 := 0) rfl rfl rfl hl.1 (As := [.int a1, .int a2, .int u_9]) (rest := []) rfl (Nat.le_of_ble_eq_true rfl) dX12_putStamp_49 ⟨Nat.le_of_ble_eq_true rfl, Nat.le_of_ble_eq_true rfl⟩ hK hP hD hS hA [4, 5] [0, 1, 2, 3] [0, 1, 2, 3, 4, 5] rfl (by decide) rfl (by decide) (by decide) rfl (by decide) (wr := (ce_X12 kA g o_this)) (w2 := (ce_X12 kA g o_this ++ (ce_X6 kA (g 15) u_11))) (fun H locs hP hD hS => ?_)
        have hP : va_P D vwCl (ce_X12 kA g o_this ++ (ce_X6 kA (g 15) u_11)) H := hP
        refine lv_iconst (v := 1) hx hb dX12_putStamp_52 (by decide) ?_
        rw [← Option.some.inj hf]
        exact mx_retz (v := 1) (Nat.le_of_ble_eq_true rfl) (Nat.le_of_ble_eq_true rfl) hx hb hr rfl hlk hP hK hD hS dX12_putStamp_53
      · rw [if_pos hc_8] at hf
        refine lv_iconst (v := 0) hx hb dX12_putStamp_33 (by decide) ?_
        rw [← Option.some.inj hf]
        exact mx_retz (v := 0) (Nat.le_of_ble_eq_true rfl) (Nat.le_of_ble_eq_true rfl) hx hb hr rfl hlk hP hK hD hS dX12_putStamp_34
    · rw [if_pos hc_5] at hf
      rw [← Option.some.inj hf]
      exact mx_throw (xc := 2) (own := RX12) (ik := 104) (ic := 106) (by decide) hx hb hst hown (by decide +kernel) (hts (Cond.classLink RX12 104 "java/lang/IllegalArgumentException") (List.mem_of_getElem? (i := 1) rfl)) (hts (Cond.initialized "java/lang/IllegalArgumentException") (List.mem_of_getElem? (i := 2) rfl)) (vx_hat (L := vx_at0 RX12 106 "java/lang/IllegalArgumentException" ["java/lang/RuntimeException", "java/lang/Exception"]) (B := [.declares ⟨"java/lang/RuntimeException", "<init>", "()V"⟩, .declares ⟨"java/lang/Exception", "<init>", "()V"⟩, .declares ⟨"java/lang/Throwable", "<init>", "()V"⟩, .castable "java/lang/IllegalArgumentException" "java/lang/IllegalArgumentException"]) (fun w h => hts w (List.mem_cons_of_mem _ (List.mem_append_left _ (List.mem_append_right _ h)))) (by decide +kernel) (st_bad (xc := 2) hZ.2.2.1.2.2)) (by decide +kernel) hZ hS (hl.1.trans hml.symm) hP hK hD dX12_putStamp_17 dX12_putStamp_20 dX12_putStamp_21 dX12_putStamp_24 hx0 (Nat.le_of_ble_eq_true rfl) (Nat.le_of_ble_eq_true rfl) (Nat.le_of_ble_eq_true rfl) (Nat.le_of_ble_eq_true rfl) hlk (Nat.le_of_ble_eq_true rfl) (Nat.le_of_ble_eq_true rfl)
def ff_X12_takeStamp_b24 (N : Nat) (o_this : os_T) (o_this_racks : os_T) (x1 : Int32) (x2 : Int32) (t0 : Int32) : Option (Nat × Int32 × os_T) :=
  ((ff_X6_put N o_this_racks x1 x2 (-1 : Int32)).bind fun u_6 => (if os_z t0 then some (0, t0, u_6) else none))
def ff_X12_takeStamp (N : Nat) (o_this : os_T) (o_this_racks : os_T) (a1 : Int32) (a2 : Int32) : Option (Nat × Int32 × os_T) :=
  ((ff_X12_checkPlace N o_this a1 a2).bind fun u_1 => (if u_1 = 0 then ((ff_X6_at N o_this_racks a1 a2).bind fun u_3 => (if u_3 = (-1 : Int32) then ff_X12_takeStamp_b24 N o_this o_this_racks a1 a2 (0 : Int32) else ff_X12_takeStamp_b24 N o_this o_this_racks a1 a2 (1 : Int32))) else some (u_1, (0 : Int32), o_this_racks)))
set_option maxHeartbeats 4000000 in
set_option maxRecDepth 100000 in
theorem mm_X12_takeStamp (l : Launch) (hst : l.stackTraces = false) (zz : Nat → Nat → Nat) (D : va_G) (kA : Nat → ClassId) (N : Nat) (g : Nat → Nat → Nat) (o_this : os_T) (o_this_racks : os_T) (a1 : Int32) (a2 : Int32) (out : (Nat × Int32 × os_T)) (hf : ff_X12_takeStamp N o_this o_this_racks a1 a2 = some out) : mx_C l zz D kA yX12_takeStamp wsX12_takeStamp ({ frames := 7, cells := 1, slots := 6, locals := 112 } : Room) [.ref ((g 0) 0), .int a1, .int a2] (ce_X12 kA g o_this ++ (ce_X6 kA (g 15) o_this_racks)) out.1 (some (.int out.2.1)) (ce_X12 kA g o_this ++ (ce_X6 kA (g 15) out.2.2)) := by
  refine mx_of (cc := cX12_takeStamp) (maxL := 4) (ret := (some .boolean)) (by decide) rfl (Nat.le_of_ble_eq_true rfl) ?_
  intro p e s m below meth c A B hx0 hZ hD hP hS ls hl
  obtain ⟨hx, hb, hr, hlk, hml, hown, hts, hK, hA, hnm⟩ := B
  have hown : s.vm.findClass RX12 = some m.cls := hown
  have hl : lv_has ls 4 [(0, .ref ((g 0) 0)), (1, .int a1), (2, .int a2)] := hl
  have hUX12 : ∀ w ∈ u_ws RX12 TX12 15, w.before [.ref ((g 0) 0), .int a1, .int a2].toArray s = true := fun w h => hts w (List.mem_cons_of_mem _ (List.mem_append_left _ (List.mem_append_left _ (List.mem_append_right _ h))))
  have hB24 : ∀ (o_this_racks : os_T) (x1 : Int32) (x2 : Int32) (t0 : Int32) (H : Heap) (locs : List Loc) (ls : Array Slot), va_P D vwCl (ce_X12 kA g o_this ++ (ce_X6 kA (g 15) o_this_racks)) H → va_D A (ce_X12 kA g o_this ++ (ce_X6 kA (g 15) o_this_racks)) → va_S A s.heap H locs → lv_has ls 4 [(0, .ref ((g 0) 0)), (1, .int x1), (2, .int x2)] → ff_X12_takeStamp_b24 N o_this o_this_racks x1 x2 t0 = some out → W p l e ({ frames := 7, cells := 1, slots := 6, locals := 112 } : Room) s m [.ref ((g 0) 0), .int a1, .int a2].toArray below meth c H locs 1 6 (vx_MQ below (mx_Q D kA A out.1 (some (.int out.2.1)) (ce_X12 kA g o_this ++ (ce_X6 kA (g 15) out.2.2))) (mx_X D kA A out.1 (ce_X12 kA g o_this ++ (ce_X6 kA (g 15) out.2.2))) [.ref ((g 0) 0), .int a1, .int a2].toArray s 1 6 A) (F0 m 24 ls [.int t0]) := by
    intro o_this_racks x1 x2 t0 H locs ls hP hD hS hl hf
    unfold ff_X12_takeStamp_b24 at hf
    refine lv_istore_n (lv' := [(3, .int t0), (0, .ref ((g 0) 0)), (1, .int x1), (2, .int x2)]) hx hb dX12_takeStamp_24 rfl hl (by decide) rfl (fun ls hl => ?_)
    refine lv_aload_n hx hb dX12_takeStamp_25 rfl (lv_at hl 1 rfl) ?_
    refine va_get (D := D) (ci := 8) (v := .ref ((g 15) 0)) (C := RX12) (T := TX12) (N := 15) hx hb hUX12 (fun _ h9 => h9) hown hK hP 0 rfl rfl 7 (by decide) (hts (Cond.fieldLink RX12 53 "ReliefBuilder" "racks" "LReliefBuilder$Racks;") (List.mem_of_getElem? (i := 1) rfl)) (fun _ h9 => h9) rfl dX12_takeStamp_26 ?_
    refine lv_iload_n hx hb dX12_takeStamp_29 rfl (lv_at hl 2 rfl) ?_
    refine lv_iload_n hx hb dX12_takeStamp_30 rfl (lv_at hl 3 rfl) ?_
    refine lv_iconst (v := (-1)) hx hb dX12_takeStamp_31 (by decide) ?_
    obtain ⟨u_6, he_7, hf⟩ := os_bd hf
    refine mc_callV ⟨hx, hb, hml, hown, hts⟩ (mm_X6_put l D kA N (g 15) o_this_racks x1 x2 (-1 : Int32) u_6 he_7) (cwV 3 hts gX12_takeStamp_X6_put rfl rfl rfl (by decide +kernel) ⟨Nat.le_of_ble_eq_true rfl, Nat.le_of_ble_eq_true rfl⟩) (wc := (ce_X6 kA (g 15) o_this_racks)) (ci := 3) (q0 := 0) rfl rfl rfl hl.1 (As := [.int x1, .int x2, .int (-1 : Int32)]) (rest := []) rfl (Nat.le_of_ble_eq_true rfl) dX12_takeStamp_32 ⟨Nat.le_of_ble_eq_true rfl, Nat.le_of_ble_eq_true rfl⟩ hK hP hD hS hA [4, 5] [0, 1, 2, 3] [0, 1, 2, 3, 4, 5] rfl (by decide) rfl (by decide) (by decide) rfl (by decide) (wr := (ce_X12 kA g o_this)) (w2 := (ce_X12 kA g o_this ++ (ce_X6 kA (g 15) u_6))) (fun H locs hP hD hS => ?_)
    have hP : va_P D vwCl (ce_X12 kA g o_this ++ (ce_X6 kA (g 15) u_6)) H := hP
    refine lv_iload_n hx hb dX12_takeStamp_35 rfl (lv_at hl 0 rfl) ?_
    obtain ⟨hz_8, hf⟩ := os_if hf
    rw [← Option.some.inj hf]
    exact mx_retz (Nat.le_of_ble_eq_true rfl) (Nat.le_of_ble_eq_true rfl) hx hb hr (os_z_n hz_8) hlk hP hK hD hS dX12_takeStamp_36
  unfold ff_X12_takeStamp at hf
  refine lv_aload_n hx hb dX12_takeStamp_0 rfl (lv_at hl 0 rfl) ?_
  refine lv_iload_n hx hb dX12_takeStamp_1 rfl (lv_at hl 1 rfl) ?_
  refine lv_iload_n hx hb dX12_takeStamp_2 rfl (lv_at hl 2 rfl) ?_
  obtain ⟨u_1, he_2, hf⟩ := os_bd hf
  refine mx_callV ⟨hx, hb, hml, hown, hts⟩ (mm_X12_checkPlace l hst zz D kA N g o_this a1 a2 u_1 he_2) (cwV 2 hts gX12_takeStamp_X12_checkPlace rfl rfl rfl (by decide +kernel) ⟨Nat.le_of_ble_eq_true rfl, Nat.le_of_ble_eq_true rfl⟩) (wc := (ce_X12 kA g o_this)) (ci := 8) (q0 := 0) rfl rfl rfl hl.1 (As := [.int a1, .int a2]) (rest := []) rfl (Nat.le_of_ble_eq_true rfl) dX12_takeStamp_3 ⟨Nat.le_of_ble_eq_true rfl, Nat.le_of_ble_eq_true rfl⟩ hK hP hD hS hA hZ [0, 1, 2, 3] [4, 5] [2, 3, 4, 5, 0, 1] rfl (by decide) rfl (by decide) (by decide) rfl (by decide) (wr := (ce_X6 kA (g 15) o_this_racks)) (w2 := (ce_X12 kA g o_this ++ (ce_X6 kA (g 15) o_this_racks))) (fun hx9 H locs q9 ce hP hD hS h91 h92 h93 => ?_) (fun hx9 H locs hP hD hS => ?_)
  · rw [if_neg hx9] at hf
    rw [← Option.some.inj hf]
    exact mx_out hx9 hx0 hlk hP hK hD hS h91 h92 h93 (Nat.le_of_ble_eq_true rfl) (Nat.le_of_ble_eq_true rfl)
  · rw [if_pos hx9] at hf
    refine W.widen (k := 1) (n := 6) (Nat.le_of_ble_eq_true rfl) (Nat.le_of_ble_eq_true rfl) ?_
    have hP : va_P D vwCl (ce_X12 kA g o_this ++ (ce_X6 kA (g 15) o_this_racks)) H := hP
    refine lv_aload_n hx hb dX12_takeStamp_6 rfl (lv_at hl 0 rfl) ?_
    refine va_get (D := D) (ci := 8) (v := .ref ((g 15) 0)) (C := RX12) (T := TX12) (N := 15) hx hb hUX12 (fun _ h9 => h9) hown hK hP 0 rfl rfl 7 (by decide) (hts (Cond.fieldLink RX12 53 "ReliefBuilder" "racks" "LReliefBuilder$Racks;") (List.mem_of_getElem? (i := 1) rfl)) (fun _ h9 => h9) rfl dX12_takeStamp_7 ?_
    refine lv_iload_n hx hb dX12_takeStamp_10 rfl (lv_at hl 1 rfl) ?_
    refine lv_iload_n hx hb dX12_takeStamp_11 rfl (lv_at hl 2 rfl) ?_
    obtain ⟨u_3, he_4, hf⟩ := os_bd hf
    refine mc_callV ⟨hx, hb, hml, hown, hts⟩ (mm_X6_at l D kA N (g 15) o_this_racks a1 a2 u_3 he_4) (cwV 2 hts gX12_takeStamp_X6_at rfl rfl rfl (by decide +kernel) ⟨Nat.le_of_ble_eq_true rfl, Nat.le_of_ble_eq_true rfl⟩) (wc := (ce_X6 kA (g 15) o_this_racks)) (ci := 3) (q0 := 0) rfl rfl rfl hl.1 (As := [.int a1, .int a2]) (rest := []) rfl (Nat.le_of_ble_eq_true rfl) dX12_takeStamp_12 ⟨Nat.le_of_ble_eq_true rfl, Nat.le_of_ble_eq_true rfl⟩ hK hP hD hS hA [4, 5] [0, 1, 2, 3] [0, 1, 2, 3, 4, 5] rfl (by decide) rfl (by decide) (by decide) rfl (by decide) (wr := (ce_X12 kA g o_this)) (w2 := (ce_X12 kA g o_this ++ (ce_X6 kA (g 15) o_this_racks))) (fun H locs hP hD hS => ?_)
    have hP : va_P D vwCl (ce_X12 kA g o_this ++ (ce_X6 kA (g 15) o_this_racks)) H := hP
    refine lv_iconst (v := (-1)) hx hb dX12_takeStamp_15 (by decide) ?_
    refine lv_icmp_eq (tgt := 23) hx hb dX12_takeStamp_16 (by decide) (fun hc_5 => ?_) (fun hc_5 => ?_)
    · rw [if_pos hc_5] at hf
      refine lv_iconst (v := 0) hx hb dX12_takeStamp_23 (by decide) ?_
      exact hB24 o_this_racks a1 a2 (0 : Int32) _ _ _ hP hD hS (lv_sub hl [0, 1, 2] rfl) hf
    · rw [if_neg hc_5] at hf
      refine lv_iconst (v := 1) hx hb dX12_takeStamp_19 (by decide) ?_
      refine lv_goto (tgt := 24) hx hb dX12_takeStamp_20 (by decide) ?_
      exact hB24 o_this_racks a1 a2 (1 : Int32) _ _ _ hP hD hS (lv_sub hl [0, 1, 2] rfl) hf
def ff_X12_stampAt (N : Nat) (o_this : os_T) (o_this_racks : os_T) (a1 : Int32) (a2 : Int32) : Option (Nat × Int32) :=
  ((ff_X12_checkPlace N o_this a1 a2).bind fun u_1 => (if u_1 = 0 then ((ff_X6_at N o_this_racks a1 a2).bind fun u_3 => some (0, u_3)) else some (u_1, (0 : Int32))))
set_option maxHeartbeats 4000000 in
set_option maxRecDepth 100000 in
theorem mm_X12_stampAt (l : Launch) (hst : l.stackTraces = false) (zz : Nat → Nat → Nat) (D : va_G) (kA : Nat → ClassId) (N : Nat) (g : Nat → Nat → Nat) (o_this : os_T) (o_this_racks : os_T) (a1 : Int32) (a2 : Int32) (out : (Nat × Int32)) (hf : ff_X12_stampAt N o_this o_this_racks a1 a2 = some out) : mx_C l zz D kA yX12_stampAt wsX12_stampAt ({ frames := 7, cells := 1, slots := 6, locals := 112 } : Room) [.ref ((g 0) 0), .int a1, .int a2] (ce_X12 kA g o_this ++ (ce_X6 kA (g 15) o_this_racks)) out.1 (some (.int out.2)) (ce_X12 kA g o_this ++ (ce_X6 kA (g 15) o_this_racks)) := by
  refine mx_of (cc := cX12_stampAt) (maxL := 3) (ret := (some .int)) (by decide) rfl (Nat.le_of_ble_eq_true rfl) ?_
  intro p e s m below meth c A B hx0 hZ hD hP hS ls hl
  obtain ⟨hx, hb, hr, hlk, hml, hown, hts, hK, hA, hnm⟩ := B
  have hown : s.vm.findClass RX12 = some m.cls := hown
  have hl : lv_has ls 3 [(0, .ref ((g 0) 0)), (1, .int a1), (2, .int a2)] := hl
  have hUX12 : ∀ w ∈ u_ws RX12 TX12 15, w.before [.ref ((g 0) 0), .int a1, .int a2].toArray s = true := fun w h => hts w (List.mem_cons_of_mem _ (List.mem_append_left _ (List.mem_append_left _ (List.mem_append_right _ h))))
  unfold ff_X12_stampAt at hf
  refine lv_aload_n hx hb dX12_stampAt_0 rfl (lv_at hl 0 rfl) ?_
  refine lv_iload_n hx hb dX12_stampAt_1 rfl (lv_at hl 1 rfl) ?_
  refine lv_iload_n hx hb dX12_stampAt_2 rfl (lv_at hl 2 rfl) ?_
  obtain ⟨u_1, he_2, hf⟩ := os_bd hf
  refine mx_callV ⟨hx, hb, hml, hown, hts⟩ (mm_X12_checkPlace l hst zz D kA N g o_this a1 a2 u_1 he_2) (cwV 2 hts gX12_stampAt_X12_checkPlace rfl rfl rfl (by decide +kernel) ⟨Nat.le_of_ble_eq_true rfl, Nat.le_of_ble_eq_true rfl⟩) (wc := (ce_X12 kA g o_this)) (ci := 8) (q0 := 0) rfl rfl rfl hl.1 (As := [.int a1, .int a2]) (rest := []) rfl (Nat.le_of_ble_eq_true rfl) dX12_stampAt_3 ⟨Nat.le_of_ble_eq_true rfl, Nat.le_of_ble_eq_true rfl⟩ hK hP hD hS hA hZ [0, 1, 2, 3] [4, 5] [2, 3, 4, 5, 0, 1] rfl (by decide) rfl (by decide) (by decide) rfl (by decide) (wr := (ce_X6 kA (g 15) o_this_racks)) (w2 := (ce_X12 kA g o_this ++ (ce_X6 kA (g 15) o_this_racks))) (fun hx9 H locs q9 ce hP hD hS h91 h92 h93 => ?_) (fun hx9 H locs hP hD hS => ?_)
  · rw [if_neg hx9] at hf
    rw [← Option.some.inj hf]
    exact mx_out hx9 hx0 hlk hP hK hD hS h91 h92 h93 (Nat.le_of_ble_eq_true rfl) (Nat.le_of_ble_eq_true rfl)
  · rw [if_pos hx9] at hf
    refine W.widen (k := 1) (n := 6) (Nat.le_of_ble_eq_true rfl) (Nat.le_of_ble_eq_true rfl) ?_
    have hP : va_P D vwCl (ce_X12 kA g o_this ++ (ce_X6 kA (g 15) o_this_racks)) H := hP
    refine lv_aload_n hx hb dX12_stampAt_6 rfl (lv_at hl 0 rfl) ?_
    refine va_get (D := D) (ci := 8) (v := .ref ((g 15) 0)) (C := RX12) (T := TX12) (N := 15) hx hb hUX12 (fun _ h9 => h9) hown hK hP 0 rfl rfl 7 (by decide) (hts (Cond.fieldLink RX12 53 "ReliefBuilder" "racks" "LReliefBuilder$Racks;") (List.mem_of_getElem? (i := 1) rfl)) (fun _ h9 => h9) rfl dX12_stampAt_7 ?_
    refine lv_iload_n hx hb dX12_stampAt_10 rfl (lv_at hl 1 rfl) ?_
    refine lv_iload_n hx hb dX12_stampAt_11 rfl (lv_at hl 2 rfl) ?_
    obtain ⟨u_3, he_4, hf⟩ := os_bd hf
    refine mc_callV ⟨hx, hb, hml, hown, hts⟩ (mm_X6_at l D kA N (g 15) o_this_racks a1 a2 u_3 he_4) (cwV 2 hts gX12_stampAt_X6_at rfl rfl rfl (by decide +kernel) ⟨Nat.le_of_ble_eq_true rfl, Nat.le_of_ble_eq_true rfl⟩) (wc := (ce_X6 kA (g 15) o_this_racks)) (ci := 3) (q0 := 0) rfl rfl rfl hl.1 (As := [.int a1, .int a2]) (rest := []) rfl (Nat.le_of_ble_eq_true rfl) dX12_stampAt_12 ⟨Nat.le_of_ble_eq_true rfl, Nat.le_of_ble_eq_true rfl⟩ hK hP hD hS hA [4, 5] [0, 1, 2, 3] [0, 1, 2, 3, 4, 5] rfl (by decide) rfl (by decide) (by decide) rfl (by decide) (wr := (ce_X12 kA g o_this)) (w2 := (ce_X12 kA g o_this ++ (ce_X6 kA (g 15) o_this_racks))) (fun H locs hP hD hS => ?_)
    have hP : va_P D vwCl (ce_X12 kA g o_this ++ (ce_X6 kA (g 15) o_this_racks)) H := hP
    rw [← Option.some.inj hf]
    exact mx_reti (Nat.le_of_ble_eq_true rfl) (Nat.le_of_ble_eq_true rfl) hx hb hr hlk hP hK hD hS dX12_stampAt_15
def ff_X12_checkStamp (N : Nat) (o_this : os_T) (o_this_racks : os_T) (a1 : Int32) (a2 : Int32) : Option Nat :=
  ((ff_X6_at N o_this_racks a1 a2).bind fun u_1 => (if u_1 = (-1 : Int32) then some 1 else some 0))
set_option maxHeartbeats 4000000 in
set_option maxRecDepth 100000 in
theorem mm_X12_checkStamp (l : Launch) (hst : l.stackTraces = false) (zz : Nat → Nat → Nat) (D : va_G) (kA : Nat → ClassId) (N : Nat) (g : Nat → Nat → Nat) (o_this : os_T) (o_this_racks : os_T) (a1 : Int32) (a2 : Int32) (out : Nat) (hf : ff_X12_checkStamp N o_this o_this_racks a1 a2 = some out) : mx_C l zz D kA yX12_checkStamp wsX12_checkStamp ({ frames := 6, cells := 1, slots := 6, locals := 90 } : Room) [.ref ((g 0) 0), .int a1, .int a2] (ce_X12 kA g o_this ++ (ce_X6 kA (g 15) o_this_racks)) out none (ce_X12 kA g o_this ++ (ce_X6 kA (g 15) o_this_racks)) := by
  refine mx_of (cc := cX12_checkStamp) (maxL := 3) (ret := none) (by decide) rfl (Nat.le_of_ble_eq_true rfl) ?_
  intro p e s m below meth c A B hx0 hZ hD hP hS ls hl
  obtain ⟨hx, hb, hr, hlk, hml, hown, hts, hK, hA, hnm⟩ := B
  have hown : s.vm.findClass RX12 = some m.cls := hown
  have hl : lv_has ls 3 [(0, .ref ((g 0) 0)), (1, .int a1), (2, .int a2)] := hl
  have hUX12 : ∀ w ∈ u_ws RX12 TX12 15, w.before [.ref ((g 0) 0), .int a1, .int a2].toArray s = true := fun w h => hts w (List.mem_cons_of_mem _ (List.mem_append_left _ (List.mem_append_left _ (List.mem_append_right _ h))))
  unfold ff_X12_checkStamp at hf
  refine lv_aload_n hx hb dX12_checkStamp_0 rfl (lv_at hl 0 rfl) ?_
  refine va_get (D := D) (ci := 8) (v := .ref ((g 15) 0)) (C := RX12) (T := TX12) (N := 15) hx hb hUX12 (fun _ h9 => h9) hown hK hP 0 rfl rfl 7 (by decide) (hts (Cond.fieldLink RX12 53 "ReliefBuilder" "racks" "LReliefBuilder$Racks;") (List.mem_of_getElem? (i := 3) rfl)) (fun _ h9 => h9) rfl dX12_checkStamp_1 ?_
  refine lv_iload_n hx hb dX12_checkStamp_4 rfl (lv_at hl 1 rfl) ?_
  refine lv_iload_n hx hb dX12_checkStamp_5 rfl (lv_at hl 2 rfl) ?_
  obtain ⟨u_1, he_2, hf⟩ := os_bd hf
  refine mc_callV ⟨hx, hb, hml, hown, hts⟩ (mm_X6_at l D kA N (g 15) o_this_racks a1 a2 u_1 he_2) (cwV 2 hts gX12_checkStamp_X6_at rfl rfl rfl (by decide +kernel) ⟨Nat.le_of_ble_eq_true rfl, Nat.le_of_ble_eq_true rfl⟩) (wc := (ce_X6 kA (g 15) o_this_racks)) (ci := 3) (q0 := 0) rfl rfl rfl hl.1 (As := [.int a1, .int a2]) (rest := []) rfl (Nat.le_of_ble_eq_true rfl) dX12_checkStamp_6 ⟨Nat.le_of_ble_eq_true rfl, Nat.le_of_ble_eq_true rfl⟩ hK hP hD hS hA [4, 5] [0, 1, 2, 3] [0, 1, 2, 3, 4, 5] rfl (by decide) rfl (by decide) (by decide) rfl (by decide) (wr := (ce_X12 kA g o_this)) (w2 := (ce_X12 kA g o_this ++ (ce_X6 kA (g 15) o_this_racks))) (fun H locs hP hD hS => ?_)
  have hP : va_P D vwCl (ce_X12 kA g o_this ++ (ce_X6 kA (g 15) o_this_racks)) H := hP
  refine lv_iconst (v := (-1)) hx hb dX12_checkStamp_9 (by decide) ?_
  refine lv_icmp_ne (tgt := 21) hx hb dX12_checkStamp_10 (by decide) (fun hc_3 => ?_) (fun hc_3 => ?_)
  · rw [if_neg hc_3] at hf
    rw [← Option.some.inj hf]
    exact mx_retv (Nat.le_of_ble_eq_true rfl) (Nat.le_of_ble_eq_true rfl) hx hb hr hlk hP hK hD hS dX12_checkStamp_21
  · rw [if_pos hc_3] at hf
    rw [← Option.some.inj hf]
    exact mx_throw (xc := 1) (own := RX12) (ik := 94) (ic := 96) (by decide) hx hb hst hown (by decide +kernel) (hts (Cond.classLink RX12 94 "java/lang/IllegalStateException") (List.mem_of_getElem? (i := 1) rfl)) (hts (Cond.initialized "java/lang/IllegalStateException") (List.mem_of_getElem? (i := 2) rfl)) (vx_hat (L := vx_at0 RX12 96 "java/lang/IllegalStateException" ["java/lang/RuntimeException", "java/lang/Exception"]) (B := [.declares ⟨"java/lang/RuntimeException", "<init>", "()V"⟩, .declares ⟨"java/lang/Exception", "<init>", "()V"⟩, .declares ⟨"java/lang/Throwable", "<init>", "()V"⟩, .castable "java/lang/IllegalStateException" "java/lang/IllegalStateException"]) (fun w h => hts w (List.mem_cons_of_mem _ (List.mem_append_right _ h))) (by decide +kernel) (st_bad (xc := 1) hZ.2.2.1.2.2)) (by decide +kernel) hZ hS (hl.1.trans hml.symm) hP hK hD dX12_checkStamp_13 dX12_checkStamp_16 dX12_checkStamp_17 dX12_checkStamp_20 hx0 (Nat.le_of_ble_eq_true rfl) (Nat.le_of_ble_eq_true rfl) (Nat.le_of_ble_eq_true rfl) (Nat.le_of_ble_eq_true rfl) hlk (Nat.le_of_ble_eq_true rfl) (Nat.le_of_ble_eq_true rfl)
def ff_X12_moveStamp (N : Nat) (o_this : os_T) (o_this_racks : os_T) (a1 : Int32) (a2 : Int32) (a3 : Int32) (a4 : Int32) : Option (Nat × Int32 × os_T) :=
  ((ff_X12_checkPlace N o_this a1 a2).bind fun u_1 => (if u_1 = 0 then ((ff_X12_checkPlace N o_this a3 a4).bind fun u_3 => (if u_3 = 0 then ((ff_X12_checkStamp N o_this o_this_racks a1 a2).bind fun u_5 => (if u_5 = 0 then ((ff_X6_at N o_this_racks a1 a2).bind fun u_7 => ((ff_X6_kindOf N u_7).bind fun u_9 => ((ff_X6_takes N a3 u_9).bind fun u_11 => (if u_11 = 0 then some (0, (0 : Int32), o_this_racks) else ((ff_X6_put N o_this_racks a1 a2 (-1 : Int32)).bind fun u_14 => ((ff_X6_put N u_14 a3 a4 u_7).bind fun u_16 => some (0, (1 : Int32), u_16))))))) else some (u_5, (0 : Int32), o_this_racks))) else some (u_3, (0 : Int32), o_this_racks))) else some (u_1, (0 : Int32), o_this_racks)))
set_option maxHeartbeats 4000000 in
set_option maxRecDepth 100000 in
theorem mm_X12_moveStamp (l : Launch) (hst : l.stackTraces = false) (zz : Nat → Nat → Nat) (D : va_G) (kA : Nat → ClassId) (N : Nat) (g : Nat → Nat → Nat) (o_this : os_T) (o_this_racks : os_T) (a1 : Int32) (a2 : Int32) (a3 : Int32) (a4 : Int32) (out : (Nat × Int32 × os_T)) (hf : ff_X12_moveStamp N o_this o_this_racks a1 a2 a3 a4 = some out) : mx_C l zz D kA yX12_moveStamp wsX12_moveStamp ({ frames := 7, cells := 3, slots := 18, locals := 112 } : Room) [.ref ((g 0) 0), .int a1, .int a2, .int a3, .int a4] (ce_X12 kA g o_this ++ (ce_X6 kA (g 15) o_this_racks)) out.1 (some (.int out.2.1)) (ce_X12 kA g o_this ++ (ce_X6 kA (g 15) out.2.2)) := by
  refine mx_of (cc := cX12_moveStamp) (maxL := 6) (ret := (some .boolean)) (by decide) rfl (Nat.le_of_ble_eq_true rfl) ?_
  intro p e s m below meth c A B hx0 hZ hD hP hS ls hl
  obtain ⟨hx, hb, hr, hlk, hml, hown, hts, hK, hA, hnm⟩ := B
  have hown : s.vm.findClass RX12 = some m.cls := hown
  have hl : lv_has ls 6 [(0, .ref ((g 0) 0)), (1, .int a1), (2, .int a2), (3, .int a3), (4, .int a4)] := hl
  have hUX12 : ∀ w ∈ u_ws RX12 TX12 15, w.before [.ref ((g 0) 0), .int a1, .int a2, .int a3, .int a4].toArray s = true := fun w h => hts w (List.mem_cons_of_mem _ (List.mem_append_left _ (List.mem_append_left _ (List.mem_append_left _ (List.mem_append_right _ h)))))
  unfold ff_X12_moveStamp at hf
  refine lv_aload_n hx hb dX12_moveStamp_0 rfl (lv_at hl 0 rfl) ?_
  refine lv_iload_n hx hb dX12_moveStamp_1 rfl (lv_at hl 1 rfl) ?_
  refine lv_iload_n hx hb dX12_moveStamp_2 rfl (lv_at hl 2 rfl) ?_
  obtain ⟨u_1, he_2, hf⟩ := os_bd hf
  refine mx_callV ⟨hx, hb, hml, hown, hts⟩ (mm_X12_checkPlace l hst zz D kA N g o_this a1 a2 u_1 he_2) (cwV 2 hts gX12_moveStamp_X12_checkPlace rfl rfl rfl (by decide +kernel) ⟨Nat.le_of_ble_eq_true rfl, Nat.le_of_ble_eq_true rfl⟩) (wc := (ce_X12 kA g o_this)) (ci := 8) (q0 := 0) rfl rfl rfl hl.1 (As := [.int a1, .int a2]) (rest := []) rfl (Nat.le_of_ble_eq_true rfl) dX12_moveStamp_3 ⟨Nat.le_of_ble_eq_true rfl, Nat.le_of_ble_eq_true rfl⟩ hK hP hD hS hA hZ [0, 1, 2, 3] [4, 5] [2, 3, 4, 5, 0, 1] rfl (by decide) rfl (by decide) (by decide) rfl (by decide) (wr := (ce_X6 kA (g 15) o_this_racks)) (w2 := (ce_X12 kA g o_this ++ (ce_X6 kA (g 15) o_this_racks))) (fun hx9 H locs q9 ce hP hD hS h91 h92 h93 => ?_) (fun hx9 H locs hP hD hS => ?_)
  · rw [if_neg hx9] at hf
    rw [← Option.some.inj hf]
    exact mx_out hx9 hx0 hlk hP hK hD hS h91 h92 h93 (Nat.le_of_ble_eq_true rfl) (Nat.le_of_ble_eq_true rfl)
  · rw [if_pos hx9] at hf
    refine W.widen (k := 1) (n := 6) (Nat.le_of_ble_eq_true rfl) (Nat.le_of_ble_eq_true rfl) ?_
    have hP : va_P D vwCl (ce_X12 kA g o_this ++ (ce_X6 kA (g 15) o_this_racks)) H := hP
    refine lv_aload_n hx hb dX12_moveStamp_6 rfl (lv_at hl 0 rfl) ?_
    refine lv_iload_n hx hb dX12_moveStamp_7 rfl (lv_at hl 3 rfl) ?_
    refine lv_iload hx hb dX12_moveStamp_8 (lv_at hl 4 rfl) ?_
    obtain ⟨u_3, he_4, hf⟩ := os_bd hf
    refine mx_callV ⟨hx, hb, hml, hown, hts⟩ (mm_X12_checkPlace l hst zz D kA N g o_this a3 a4 u_3 he_4) (cwV 2 hts gX12_moveStamp_X12_checkPlace rfl rfl rfl (by decide +kernel) ⟨Nat.le_of_ble_eq_true rfl, Nat.le_of_ble_eq_true rfl⟩) (wc := (ce_X12 kA g o_this)) (ci := 8) (q0 := 0) rfl rfl rfl hl.1 (As := [.int a3, .int a4]) (rest := []) rfl (Nat.le_of_ble_eq_true rfl) dX12_moveStamp_10 ⟨Nat.le_of_ble_eq_true rfl, Nat.le_of_ble_eq_true rfl⟩ hK hP hD hS hA hZ [0, 1, 2, 3] [4, 5] [2, 3, 4, 5, 0, 1] rfl (by decide) rfl (by decide) (by decide) rfl (by decide) (wr := (ce_X6 kA (g 15) o_this_racks)) (w2 := (ce_X12 kA g o_this ++ (ce_X6 kA (g 15) o_this_racks))) (fun hx9 H locs q9 ce hP hD hS h91 h92 h93 => ?_) (fun hx9 H locs hP hD hS => ?_)
    · rw [if_neg hx9] at hf
      rw [← Option.some.inj hf]
      exact mx_out hx9 hx0 hlk hP hK hD hS h91 h92 h93 (Nat.le_of_ble_eq_true rfl) (Nat.le_of_ble_eq_true rfl)
    · rw [if_pos hx9] at hf
      refine W.widen (k := 2) (n := 12) (Nat.le_of_ble_eq_true rfl) (Nat.le_of_ble_eq_true rfl) ?_
      have hP : va_P D vwCl (ce_X12 kA g o_this ++ (ce_X6 kA (g 15) o_this_racks)) H := hP
      refine lv_aload_n hx hb dX12_moveStamp_13 rfl (lv_at hl 0 rfl) ?_
      refine lv_iload_n hx hb dX12_moveStamp_14 rfl (lv_at hl 1 rfl) ?_
      refine lv_iload_n hx hb dX12_moveStamp_15 rfl (lv_at hl 2 rfl) ?_
      obtain ⟨u_5, he_6, hf⟩ := os_bd hf
      refine mx_callV ⟨hx, hb, hml, hown, hts⟩ (mm_X12_checkStamp l hst zz D kA N g o_this o_this_racks a1 a2 u_5 he_6) (cwV 2 hts gX12_moveStamp_X12_checkStamp rfl rfl rfl (by decide +kernel) ⟨Nat.le_of_ble_eq_true rfl, Nat.le_of_ble_eq_true rfl⟩) (wc := (ce_X12 kA g o_this ++ (ce_X6 kA (g 15) o_this_racks))) (ci := 8) (q0 := 0) rfl rfl rfl hl.1 (As := [.int a1, .int a2]) (rest := []) rfl (Nat.le_of_ble_eq_true rfl) dX12_moveStamp_16 ⟨Nat.le_of_ble_eq_true rfl, Nat.le_of_ble_eq_true rfl⟩ hK hP hD hS hA hZ [0, 1, 2, 3, 4, 5] [] [0, 1, 2, 3, 4, 5] rfl (by decide) rfl (by decide) (by decide) rfl (by decide) (wr := []) (w2 := (ce_X12 kA g o_this ++ (ce_X6 kA (g 15) o_this_racks))) (fun hx9 H locs q9 ce hP hD hS h91 h92 h93 => ?_) (fun hx9 H locs hP hD hS => ?_)
      · rw [if_neg hx9] at hf
        rw [← Option.some.inj hf]
        exact mx_out hx9 hx0 hlk hP hK hD hS h91 h92 h93 (Nat.le_of_ble_eq_true rfl) (Nat.le_of_ble_eq_true rfl)
      · rw [if_pos hx9] at hf
        refine W.widen (k := 3) (n := 18) (Nat.le_of_ble_eq_true rfl) (Nat.le_of_ble_eq_true rfl) ?_
        have hP : va_P D vwCl (ce_X12 kA g o_this ++ (ce_X6 kA (g 15) o_this_racks)) H := hP
        refine lv_aload_n hx hb dX12_moveStamp_19 rfl (lv_at hl 0 rfl) ?_
        refine va_get (D := D) (ci := 8) (v := .ref ((g 15) 0)) (C := RX12) (T := TX12) (N := 15) hx hb hUX12 (fun _ h9 => h9) hown hK hP 0 rfl rfl 7 (by decide) (hts (Cond.fieldLink RX12 53 "ReliefBuilder" "racks" "LReliefBuilder$Racks;") (List.mem_of_getElem? (i := 1) rfl)) (fun _ h9 => h9) rfl dX12_moveStamp_20 ?_
        refine lv_iload_n hx hb dX12_moveStamp_23 rfl (lv_at hl 1 rfl) ?_
        refine lv_iload_n hx hb dX12_moveStamp_24 rfl (lv_at hl 2 rfl) ?_
        obtain ⟨u_7, he_8, hf⟩ := os_bd hf
        refine mc_callV ⟨hx, hb, hml, hown, hts⟩ (mm_X6_at l D kA N (g 15) o_this_racks a1 a2 u_7 he_8) (cwV 2 hts gX12_moveStamp_X6_at rfl rfl rfl (by decide +kernel) ⟨Nat.le_of_ble_eq_true rfl, Nat.le_of_ble_eq_true rfl⟩) (wc := (ce_X6 kA (g 15) o_this_racks)) (ci := 3) (q0 := 0) rfl rfl rfl hl.1 (As := [.int a1, .int a2]) (rest := []) rfl (Nat.le_of_ble_eq_true rfl) dX12_moveStamp_25 ⟨Nat.le_of_ble_eq_true rfl, Nat.le_of_ble_eq_true rfl⟩ hK hP hD hS hA [4, 5] [0, 1, 2, 3] [0, 1, 2, 3, 4, 5] rfl (by decide) rfl (by decide) (by decide) rfl (by decide) (wr := (ce_X12 kA g o_this)) (w2 := (ce_X12 kA g o_this ++ (ce_X6 kA (g 15) o_this_racks))) (fun H locs hP hD hS => ?_)
        have hP : va_P D vwCl (ce_X12 kA g o_this ++ (ce_X6 kA (g 15) o_this_racks)) H := hP
        refine lv_istore (lv' := [(5, .int u_7), (0, .ref ((g 0) 0)), (1, .int a1), (2, .int a2), (3, .int a3), (4, .int a4)]) hx hb dX12_moveStamp_28 hl (by decide) rfl (fun ls hl => ?_)
        refine lv_iload_n hx hb dX12_moveStamp_30 rfl (lv_at hl 4 rfl) ?_
        refine lv_iload hx hb dX12_moveStamp_31 (lv_at hl 0 rfl) ?_
        obtain ⟨u_9, he_10, hf⟩ := os_bd hf
        refine mc_callS ⟨hx, hb, hml, hown, hts⟩ (mm_X6_kindOf l D kA N u_7 u_9 he_10) (va_cwS 1 hts gX12_moveStamp_X6_kindOf rfl rfl rfl (by decide +kernel) ⟨Nat.le_of_ble_eq_true rfl, Nat.le_of_ble_eq_true rfl⟩) (wc := []) rfl hl.1 (As := [.int u_7]) (rest := [.int a3]) rfl (Nat.le_of_ble_eq_true rfl) dX12_moveStamp_33 ⟨Nat.le_of_ble_eq_true rfl, Nat.le_of_ble_eq_true rfl⟩ hK hP hD hS hA [] [0, 1, 2, 3, 4, 5] [0, 1, 2, 3, 4, 5] rfl (by decide) rfl (by decide) (by decide) rfl (by decide) (wr := (ce_X12 kA g o_this ++ (ce_X6 kA (g 15) o_this_racks))) (w2 := (ce_X12 kA g o_this ++ (ce_X6 kA (g 15) o_this_racks))) (fun H locs hP hD hS => ?_)
        have hP : va_P D vwCl (ce_X12 kA g o_this ++ (ce_X6 kA (g 15) o_this_racks)) H := hP
        obtain ⟨u_11, he_12, hf⟩ := os_bd hf
        refine mc_callS ⟨hx, hb, hml, hown, hts⟩ (mm_X6_takes l D kA N a3 u_9 u_11 he_12) (va_cwS 2 hts gX12_moveStamp_X6_takes rfl rfl rfl (by decide +kernel) ⟨Nat.le_of_ble_eq_true rfl, Nat.le_of_ble_eq_true rfl⟩) (wc := []) rfl hl.1 (As := [.int a3, .int u_9]) (rest := []) rfl (Nat.le_of_ble_eq_true rfl) dX12_moveStamp_36 ⟨Nat.le_of_ble_eq_true rfl, Nat.le_of_ble_eq_true rfl⟩ hK hP hD hS hA [] [0, 1, 2, 3, 4, 5] [0, 1, 2, 3, 4, 5] rfl (by decide) rfl (by decide) (by decide) rfl (by decide) (wr := (ce_X12 kA g o_this ++ (ce_X6 kA (g 15) o_this_racks))) (w2 := (ce_X12 kA g o_this ++ (ce_X6 kA (g 15) o_this_racks))) (fun H locs hP hD hS => ?_)
        have hP : va_P D vwCl (ce_X12 kA g o_this ++ (ce_X6 kA (g 15) o_this_racks)) H := hP
        refine lv_if_ne (tgt := 44) hx hb dX12_moveStamp_39 (by decide) (fun hc_13 => ?_) (fun hc_13 => ?_)
        · rw [if_neg hc_13] at hf
          refine lv_aload_n hx hb dX12_moveStamp_44 rfl (lv_at hl 1 rfl) ?_
          refine va_get (D := D) (ci := 8) (v := .ref ((g 15) 0)) (C := RX12) (T := TX12) (N := 15) hx hb hUX12 (fun _ h9 => h9) hown hK hP 0 rfl rfl 7 (by decide) (hts (Cond.fieldLink RX12 53 "ReliefBuilder" "racks" "LReliefBuilder$Racks;") (List.mem_of_getElem? (i := 1) rfl)) (fun _ h9 => h9) rfl dX12_moveStamp_45 ?_
          refine lv_iload_n hx hb dX12_moveStamp_48 rfl (lv_at hl 2 rfl) ?_
          refine lv_iload_n hx hb dX12_moveStamp_49 rfl (lv_at hl 3 rfl) ?_
          refine lv_iconst (v := (-1)) hx hb dX12_moveStamp_50 (by decide) ?_
          obtain ⟨u_14, he_15, hf⟩ := os_bd hf
          refine mc_callV ⟨hx, hb, hml, hown, hts⟩ (mm_X6_put l D kA N (g 15) o_this_racks a1 a2 (-1 : Int32) u_14 he_15) (cwV 3 hts gX12_moveStamp_X6_put rfl rfl rfl (by decide +kernel) ⟨Nat.le_of_ble_eq_true rfl, Nat.le_of_ble_eq_true rfl⟩) (wc := (ce_X6 kA (g 15) o_this_racks)) (ci := 3) (q0 := 0) rfl rfl rfl hl.1 (As := [.int a1, .int a2, .int (-1 : Int32)]) (rest := []) rfl (Nat.le_of_ble_eq_true rfl) dX12_moveStamp_51 ⟨Nat.le_of_ble_eq_true rfl, Nat.le_of_ble_eq_true rfl⟩ hK hP hD hS hA [4, 5] [0, 1, 2, 3] [0, 1, 2, 3, 4, 5] rfl (by decide) rfl (by decide) (by decide) rfl (by decide) (wr := (ce_X12 kA g o_this)) (w2 := (ce_X12 kA g o_this ++ (ce_X6 kA (g 15) u_14))) (fun H locs hP hD hS => ?_)
          have hP : va_P D vwCl (ce_X12 kA g o_this ++ (ce_X6 kA (g 15) u_14)) H := hP
          refine lv_aload_n hx hb dX12_moveStamp_54 rfl (lv_at hl 1 rfl) ?_
          refine va_get (D := D) (ci := 8) (v := .ref ((g 15) 0)) (C := RX12) (T := TX12) (N := 15) hx hb hUX12 (fun _ h9 => h9) hown hK hP 0 rfl rfl 7 (by decide) (hts (Cond.fieldLink RX12 53 "ReliefBuilder" "racks" "LReliefBuilder$Racks;") (List.mem_of_getElem? (i := 1) rfl)) (fun _ h9 => h9) rfl dX12_moveStamp_55 ?_
          refine lv_iload_n hx hb dX12_moveStamp_58 rfl (lv_at hl 4 rfl) ?_
          refine lv_iload hx hb dX12_moveStamp_59 (lv_at hl 5 rfl) ?_
          refine lv_iload hx hb dX12_moveStamp_61 (lv_at hl 0 rfl) ?_
          obtain ⟨u_16, he_17, hf⟩ := os_bd hf
          refine mc_callV ⟨hx, hb, hml, hown, hts⟩ (mm_X6_put l D kA N (g 15) u_14 a3 a4 u_7 u_16 he_17) (cwV 3 hts gX12_moveStamp_X6_put rfl rfl rfl (by decide +kernel) ⟨Nat.le_of_ble_eq_true rfl, Nat.le_of_ble_eq_true rfl⟩) (wc := (ce_X6 kA (g 15) u_14)) (ci := 3) (q0 := 0) rfl rfl rfl hl.1 (As := [.int a3, .int a4, .int u_7]) (rest := []) rfl (Nat.le_of_ble_eq_true rfl) dX12_moveStamp_63 ⟨Nat.le_of_ble_eq_true rfl, Nat.le_of_ble_eq_true rfl⟩ hK hP hD hS hA [4, 5] [0, 1, 2, 3] [0, 1, 2, 3, 4, 5] rfl (by decide) rfl (by decide) (by decide) rfl (by decide) (wr := (ce_X12 kA g o_this)) (w2 := (ce_X12 kA g o_this ++ (ce_X6 kA (g 15) u_16))) (fun H locs hP hD hS => ?_)
          have hP : va_P D vwCl (ce_X12 kA g o_this ++ (ce_X6 kA (g 15) u_16)) H := hP
          refine lv_iconst (v := 1) hx hb dX12_moveStamp_66 (by decide) ?_
          rw [← Option.some.inj hf]
          exact mx_retz (v := 1) (Nat.le_of_ble_eq_true rfl) (Nat.le_of_ble_eq_true rfl) hx hb hr rfl hlk hP hK hD hS dX12_moveStamp_67
        · rw [if_pos hc_13] at hf
          refine lv_iconst (v := 0) hx hb dX12_moveStamp_42 (by decide) ?_
          rw [← Option.some.inj hf]
          exact mx_retz (v := 0) (Nat.le_of_ble_eq_true rfl) (Nat.le_of_ble_eq_true rfl) hx hb hr rfl hlk hP hK hD hS dX12_moveStamp_43
def ff_X12_stamp (N : Nat) (o_this : os_T) (o_this_panel : os_T) (o_this_history : os_T) (o_this_history_panels0 : os_T) (o_this_history_panels1 : os_T) (o_this_history_panels2 : os_T) (o_this_history_panels3 : os_T) (o_this_history_panels4 : os_T) (o_this_history_panels5 : os_T) (o_this_history_panels6 : os_T) (o_this_racks : os_T) (a1 : Int32) (a2 : Int32) (a3 : Int32) (a4 : Int32) : Option (Nat × Int32 × os_T × os_T × os_T × os_T × os_T × os_T × os_T × os_T × os_T) :=
  ((ff_X12_checkPlace N o_this a1 a2).bind fun u_1 => (if u_1 = 0 then ((ff_X12_checkCell N o_this o_this_panel a3 a4).bind fun u_3 => (if u_3 = 0 then ((ff_X12_checkStamp N o_this o_this_racks a1 a2).bind fun u_5 => (if u_5 = 0 then ((ff_X3_open N o_this_history o_this_history_panels0 o_this_history_panels1 o_this_history_panels2 o_this_history_panels3 o_this_history_panels4 o_this_history_panels5 o_this_history_panels6 o_this_panel).bind fun u_7 => ((ff_X6_at N o_this_racks a1 a2).bind fun u_9 => ((ff_X6_press N o_this_panel u_9 a3 a4).bind fun u_11 => ((ff_X3_close N o_this_history u_7.1 u_7.2.1 u_7.2.2.1 u_7.2.2.2.1 u_7.2.2.2.2.1 u_7.2.2.2.2.2.1 u_7.2.2.2.2.2.2 u_11.2).bind fun u_13 => some (0, u_11.1, u_11.2, u_13, u_7.1, u_7.2.1, u_7.2.2.1, u_7.2.2.2.1, u_7.2.2.2.2.1, u_7.2.2.2.2.2.1, u_7.2.2.2.2.2.2))))) else some (u_5, (0 : Int32), o_this_panel, o_this_history, o_this_history_panels0, o_this_history_panels1, o_this_history_panels2, o_this_history_panels3, o_this_history_panels4, o_this_history_panels5, o_this_history_panels6))) else some (u_3, (0 : Int32), o_this_panel, o_this_history, o_this_history_panels0, o_this_history_panels1, o_this_history_panels2, o_this_history_panels3, o_this_history_panels4, o_this_history_panels5, o_this_history_panels6))) else some (u_1, (0 : Int32), o_this_panel, o_this_history, o_this_history_panels0, o_this_history_panels1, o_this_history_panels2, o_this_history_panels3, o_this_history_panels4, o_this_history_panels5, o_this_history_panels6)))
set_option maxHeartbeats 4000000 in
set_option maxRecDepth 100000 in
theorem mm_X12_stamp (l : Launch) (hst : l.stackTraces = false) (zz : Nat → Nat → Nat) (D : va_G) (kA : Nat → ClassId) (N : Nat) (g : Nat → Nat → Nat) (o_this : os_T) (o_this_panel : os_T) (o_this_history : os_T) (o_this_history_panels0 : os_T) (o_this_history_panels1 : os_T) (o_this_history_panels2 : os_T) (o_this_history_panels3 : os_T) (o_this_history_panels4 : os_T) (o_this_history_panels5 : os_T) (o_this_history_panels6 : os_T) (o_this_racks : os_T) (a1 : Int32) (a2 : Int32) (a3 : Int32) (a4 : Int32) (out : (Nat × Int32 × os_T × os_T × os_T × os_T × os_T × os_T × os_T × os_T × os_T)) (hf : ff_X12_stamp N o_this o_this_panel o_this_history o_this_history_panels0 o_this_history_panels1 o_this_history_panels2 o_this_history_panels3 o_this_history_panels4 o_this_history_panels5 o_this_history_panels6 o_this_racks a1 a2 a3 a4 = some out) : mx_C l zz D kA yX12_stamp wsX12_stamp ({ frames := 7, cells := 3, slots := 18, locals := 123 } : Room) [.ref ((g 0) 0), .int a1, .int a2, .int a3, .int a4] (ce_X12 kA g o_this ++ (ce_X5 kA (g 1) o_this_panel ++ (ce_X3 kA (g 5) (fun k => g (6 + k)) o_this_history ++ (ce_X5 kA (g 6) o_this_history_panels0 ++ (ce_X5 kA (g 7) o_this_history_panels1 ++ (ce_X5 kA (g 8) o_this_history_panels2 ++ (ce_X5 kA (g 9) o_this_history_panels3 ++ (ce_X5 kA (g 10) o_this_history_panels4 ++ (ce_X5 kA (g 11) o_this_history_panels5 ++ (ce_X5 kA (g 12) o_this_history_panels6 ++ (ce_X6 kA (g 15) o_this_racks))))))))))) out.1 (some (.int out.2.1)) (ce_X12 kA g o_this ++ (ce_X5 kA (g 1) out.2.2.1 ++ (ce_X3 kA (g 5) (fun k => g (6 + k)) out.2.2.2.1 ++ (ce_X5 kA (g 6) out.2.2.2.2.1 ++ (ce_X5 kA (g 7) out.2.2.2.2.2.1 ++ (ce_X5 kA (g 8) out.2.2.2.2.2.2.1 ++ (ce_X5 kA (g 9) out.2.2.2.2.2.2.2.1 ++ (ce_X5 kA (g 10) out.2.2.2.2.2.2.2.2.1 ++ (ce_X5 kA (g 11) out.2.2.2.2.2.2.2.2.2.1 ++ (ce_X5 kA (g 12) out.2.2.2.2.2.2.2.2.2.2 ++ (ce_X6 kA (g 15) o_this_racks))))))))))) := by
  refine mx_of (cc := cX12_stamp) (maxL := 6) (ret := (some .int)) (by decide) rfl (Nat.le_of_ble_eq_true rfl) ?_
  intro p e s m below meth c A B hx0 hZ hD hP hS ls hl
  obtain ⟨hx, hb, hr, hlk, hml, hown, hts, hK, hA, hnm⟩ := B
  have hown : s.vm.findClass RX12 = some m.cls := hown
  have hl : lv_has ls 6 [(0, .ref ((g 0) 0)), (1, .int a1), (2, .int a2), (3, .int a3), (4, .int a4)] := hl
  have hUX12 : ∀ w ∈ u_ws RX12 TX12 15, w.before [.ref ((g 0) 0), .int a1, .int a2, .int a3, .int a4].toArray s = true := fun w h => hts w (List.mem_cons_of_mem _ (List.mem_append_left _ (List.mem_append_left _ (List.mem_append_left _ (List.mem_append_left _ (List.mem_append_left _ (List.mem_append_right _ h)))))))
  unfold ff_X12_stamp at hf
  refine lv_aload_n hx hb dX12_stamp_0 rfl (lv_at hl 0 rfl) ?_
  refine lv_iload_n hx hb dX12_stamp_1 rfl (lv_at hl 1 rfl) ?_
  refine lv_iload_n hx hb dX12_stamp_2 rfl (lv_at hl 2 rfl) ?_
  obtain ⟨u_1, he_2, hf⟩ := os_bd hf
  refine mx_callV ⟨hx, hb, hml, hown, hts⟩ (mm_X12_checkPlace l hst zz D kA N g o_this a1 a2 u_1 he_2) (cwV 2 hts gX12_stamp_X12_checkPlace rfl rfl rfl (by decide +kernel) ⟨Nat.le_of_ble_eq_true rfl, Nat.le_of_ble_eq_true rfl⟩) (wc := (ce_X12 kA g o_this)) (ci := 8) (q0 := 0) rfl rfl rfl hl.1 (As := [.int a1, .int a2]) (rest := []) rfl (Nat.le_of_ble_eq_true rfl) dX12_stamp_3 ⟨Nat.le_of_ble_eq_true rfl, Nat.le_of_ble_eq_true rfl⟩ hK hP hD hS hA hZ [0, 1, 2, 3] [4, 5, 6, 7, 8, 9, 10, 11, 12, 13, 14, 15, 16, 17, 18, 19, 20, 21, 22, 23, 24, 25, 26, 27, 28, 29, 30, 31, 32, 33, 34, 35, 36, 37, 38, 39] [36, 37, 38, 39, 0, 1, 2, 3, 4, 5, 6, 7, 8, 9, 10, 11, 12, 13, 14, 15, 16, 17, 18, 19, 20, 21, 22, 23, 24, 25, 26, 27, 28, 29, 30, 31, 32, 33, 34, 35] rfl (by decide) rfl (by decide) (by decide) rfl (by decide) (wr := (ce_X5 kA (g 1) o_this_panel ++ (ce_X3 kA (g 5) (fun k => g (6 + k)) o_this_history ++ (ce_X5 kA (g 6) o_this_history_panels0 ++ (ce_X5 kA (g 7) o_this_history_panels1 ++ (ce_X5 kA (g 8) o_this_history_panels2 ++ (ce_X5 kA (g 9) o_this_history_panels3 ++ (ce_X5 kA (g 10) o_this_history_panels4 ++ (ce_X5 kA (g 11) o_this_history_panels5 ++ (ce_X5 kA (g 12) o_this_history_panels6 ++ (ce_X6 kA (g 15) o_this_racks))))))))))) (w2 := (ce_X12 kA g o_this ++ (ce_X5 kA (g 1) o_this_panel ++ (ce_X3 kA (g 5) (fun k => g (6 + k)) o_this_history ++ (ce_X5 kA (g 6) o_this_history_panels0 ++ (ce_X5 kA (g 7) o_this_history_panels1 ++ (ce_X5 kA (g 8) o_this_history_panels2 ++ (ce_X5 kA (g 9) o_this_history_panels3 ++ (ce_X5 kA (g 10) o_this_history_panels4 ++ (ce_X5 kA (g 11) o_this_history_panels5 ++ (ce_X5 kA (g 12) o_this_history_panels6 ++ (ce_X6 kA (g 15) o_this_racks)))))))))))) (fun hx9 H locs q9 ce hP hD hS h91 h92 h93 => ?_) (fun hx9 H locs hP hD hS => ?_)
  · rw [if_neg hx9] at hf
    rw [← Option.some.inj hf]
    exact mx_out hx9 hx0 hlk hP hK hD hS h91 h92 h93 (Nat.le_of_ble_eq_true rfl) (Nat.le_of_ble_eq_true rfl)
  · rw [if_pos hx9] at hf
    refine W.widen (k := 1) (n := 6) (Nat.le_of_ble_eq_true rfl) (Nat.le_of_ble_eq_true rfl) ?_
    have hP : va_P D vwCl (ce_X12 kA g o_this ++ (ce_X5 kA (g 1) o_this_panel ++ (ce_X3 kA (g 5) (fun k => g (6 + k)) o_this_history ++ (ce_X5 kA (g 6) o_this_history_panels0 ++ (ce_X5 kA (g 7) o_this_history_panels1 ++ (ce_X5 kA (g 8) o_this_history_panels2 ++ (ce_X5 kA (g 9) o_this_history_panels3 ++ (ce_X5 kA (g 10) o_this_history_panels4 ++ (ce_X5 kA (g 11) o_this_history_panels5 ++ (ce_X5 kA (g 12) o_this_history_panels6 ++ (ce_X6 kA (g 15) o_this_racks))))))))))) H := hP
    refine lv_aload_n hx hb dX12_stamp_6 rfl (lv_at hl 0 rfl) ?_
    refine lv_iload_n hx hb dX12_stamp_7 rfl (lv_at hl 3 rfl) ?_
    refine lv_iload hx hb dX12_stamp_8 (lv_at hl 4 rfl) ?_
    obtain ⟨u_3, he_4, hf⟩ := os_bd hf
    refine mx_callV ⟨hx, hb, hml, hown, hts⟩ (mm_X12_checkCell l hst zz D kA N g o_this o_this_panel a3 a4 u_3 he_4) (cwV 2 hts gX12_stamp_X12_checkCell rfl rfl rfl (by decide +kernel) ⟨Nat.le_of_ble_eq_true rfl, Nat.le_of_ble_eq_true rfl⟩) (wc := (ce_X12 kA g o_this ++ (ce_X5 kA (g 1) o_this_panel))) (ci := 8) (q0 := 0) rfl rfl rfl hl.1 (As := [.int a3, .int a4]) (rest := []) rfl (Nat.le_of_ble_eq_true rfl) dX12_stamp_10 ⟨Nat.le_of_ble_eq_true rfl, Nat.le_of_ble_eq_true rfl⟩ hK hP hD hS hA hZ [0, 1, 2, 3, 4, 5, 6, 7] [8, 9, 10, 11, 12, 13, 14, 15, 16, 17, 18, 19, 20, 21, 22, 23, 24, 25, 26, 27, 28, 29, 30, 31, 32, 33, 34, 35, 36, 37, 38, 39] [32, 33, 34, 35, 36, 37, 38, 39, 0, 1, 2, 3, 4, 5, 6, 7, 8, 9, 10, 11, 12, 13, 14, 15, 16, 17, 18, 19, 20, 21, 22, 23, 24, 25, 26, 27, 28, 29, 30, 31] rfl (by decide) rfl (by decide) (by decide) rfl (by decide) (wr := (ce_X3 kA (g 5) (fun k => g (6 + k)) o_this_history ++ (ce_X5 kA (g 6) o_this_history_panels0 ++ (ce_X5 kA (g 7) o_this_history_panels1 ++ (ce_X5 kA (g 8) o_this_history_panels2 ++ (ce_X5 kA (g 9) o_this_history_panels3 ++ (ce_X5 kA (g 10) o_this_history_panels4 ++ (ce_X5 kA (g 11) o_this_history_panels5 ++ (ce_X5 kA (g 12) o_this_history_panels6 ++ (ce_X6 kA (g 15) o_this_racks)))))))))) (w2 := (ce_X12 kA g o_this ++ (ce_X5 kA (g 1) o_this_panel ++ (ce_X3 kA (g 5) (fun k => g (6 + k)) o_this_history ++ (ce_X5 kA (g 6) o_this_history_panels0 ++ (ce_X5 kA (g 7) o_this_history_panels1 ++ (ce_X5 kA (g 8) o_this_history_panels2 ++ (ce_X5 kA (g 9) o_this_history_panels3 ++ (ce_X5 kA (g 10) o_this_history_panels4 ++ (ce_X5 kA (g 11) o_this_history_panels5 ++ (ce_X5 kA (g 12) o_this_history_panels6 ++ (ce_X6 kA (g 15) o_this_racks)))))))))))) (fun hx9 H locs q9 ce hP hD hS h91 h92 h93 => ?_) (fun hx9 H locs hP hD hS => ?_)
    · rw [if_neg hx9] at hf
      rw [← Option.some.inj hf]
      exact mx_out hx9 hx0 hlk hP hK hD hS h91 h92 h93 (Nat.le_of_ble_eq_true rfl) (Nat.le_of_ble_eq_true rfl)
    · rw [if_pos hx9] at hf
      refine W.widen (k := 2) (n := 12) (Nat.le_of_ble_eq_true rfl) (Nat.le_of_ble_eq_true rfl) ?_
      have hP : va_P D vwCl (ce_X12 kA g o_this ++ (ce_X5 kA (g 1) o_this_panel ++ (ce_X3 kA (g 5) (fun k => g (6 + k)) o_this_history ++ (ce_X5 kA (g 6) o_this_history_panels0 ++ (ce_X5 kA (g 7) o_this_history_panels1 ++ (ce_X5 kA (g 8) o_this_history_panels2 ++ (ce_X5 kA (g 9) o_this_history_panels3 ++ (ce_X5 kA (g 10) o_this_history_panels4 ++ (ce_X5 kA (g 11) o_this_history_panels5 ++ (ce_X5 kA (g 12) o_this_history_panels6 ++ (ce_X6 kA (g 15) o_this_racks))))))))))) H := hP
      refine lv_aload_n hx hb dX12_stamp_13 rfl (lv_at hl 0 rfl) ?_
      refine lv_iload_n hx hb dX12_stamp_14 rfl (lv_at hl 1 rfl) ?_
      refine lv_iload_n hx hb dX12_stamp_15 rfl (lv_at hl 2 rfl) ?_
      obtain ⟨u_5, he_6, hf⟩ := os_bd hf
      refine mx_callV ⟨hx, hb, hml, hown, hts⟩ (mm_X12_checkStamp l hst zz D kA N g o_this o_this_racks a1 a2 u_5 he_6) (cwV 2 hts gX12_stamp_X12_checkStamp rfl rfl rfl (by decide +kernel) ⟨Nat.le_of_ble_eq_true rfl, Nat.le_of_ble_eq_true rfl⟩) (wc := (ce_X12 kA g o_this ++ (ce_X6 kA (g 15) o_this_racks))) (ci := 8) (q0 := 0) rfl rfl rfl hl.1 (As := [.int a1, .int a2]) (rest := []) rfl (Nat.le_of_ble_eq_true rfl) dX12_stamp_16 ⟨Nat.le_of_ble_eq_true rfl, Nat.le_of_ble_eq_true rfl⟩ hK hP hD hS hA hZ [0, 1, 2, 3, 38, 39] [4, 5, 6, 7, 8, 9, 10, 11, 12, 13, 14, 15, 16, 17, 18, 19, 20, 21, 22, 23, 24, 25, 26, 27, 28, 29, 30, 31, 32, 33, 34, 35, 36, 37] [34, 35, 36, 37, 0, 1, 2, 3, 4, 5, 6, 7, 8, 9, 10, 11, 12, 13, 14, 15, 16, 17, 18, 19, 20, 21, 22, 23, 24, 25, 26, 27, 28, 29, 30, 31, 32, 33, 38, 39] rfl (by decide) rfl (by decide) (by decide) rfl (by decide) (wr := (ce_X5 kA (g 1) o_this_panel ++ (ce_X3 kA (g 5) (fun k => g (6 + k)) o_this_history ++ (ce_X5 kA (g 6) o_this_history_panels0 ++ (ce_X5 kA (g 7) o_this_history_panels1 ++ (ce_X5 kA (g 8) o_this_history_panels2 ++ (ce_X5 kA (g 9) o_this_history_panels3 ++ (ce_X5 kA (g 10) o_this_history_panels4 ++ (ce_X5 kA (g 11) o_this_history_panels5 ++ (ce_X5 kA (g 12) o_this_history_panels6)))))))))) (w2 := (ce_X12 kA g o_this ++ (ce_X5 kA (g 1) o_this_panel ++ (ce_X3 kA (g 5) (fun k => g (6 + k)) o_this_history ++ (ce_X5 kA (g 6) o_this_history_panels0 ++ (ce_X5 kA (g 7) o_this_history_panels1 ++ (ce_X5 kA (g 8) o_this_history_panels2 ++ (ce_X5 kA (g 9) o_this_history_panels3 ++ (ce_X5 kA (g 10) o_this_history_panels4 ++ (ce_X5 kA (g 11) o_this_history_panels5 ++ (ce_X5 kA (g 12) o_this_history_panels6 ++ (ce_X6 kA (g 15) o_this_racks)))))))))))) (fun hx9 H locs q9 ce hP hD hS h91 h92 h93 => ?_) (fun hx9 H locs hP hD hS => ?_)
      · rw [if_neg hx9] at hf
        rw [← Option.some.inj hf]
        exact mx_out hx9 hx0 hlk hP hK hD hS h91 h92 h93 (Nat.le_of_ble_eq_true rfl) (Nat.le_of_ble_eq_true rfl)
      · rw [if_pos hx9] at hf
        refine W.widen (k := 3) (n := 18) (Nat.le_of_ble_eq_true rfl) (Nat.le_of_ble_eq_true rfl) ?_
        have hP : va_P D vwCl (ce_X12 kA g o_this ++ (ce_X5 kA (g 1) o_this_panel ++ (ce_X3 kA (g 5) (fun k => g (6 + k)) o_this_history ++ (ce_X5 kA (g 6) o_this_history_panels0 ++ (ce_X5 kA (g 7) o_this_history_panels1 ++ (ce_X5 kA (g 8) o_this_history_panels2 ++ (ce_X5 kA (g 9) o_this_history_panels3 ++ (ce_X5 kA (g 10) o_this_history_panels4 ++ (ce_X5 kA (g 11) o_this_history_panels5 ++ (ce_X5 kA (g 12) o_this_history_panels6 ++ (ce_X6 kA (g 15) o_this_racks))))))))))) H := hP
        refine lv_aload_n hx hb dX12_stamp_19 rfl (lv_at hl 0 rfl) ?_
        refine va_get (D := D) (ci := 8) (v := .ref ((g 5) 0)) (C := RX12) (T := TX12) (N := 15) hx hb hUX12 (fun _ h9 => h9) hown hK hP 0 rfl rfl 4 (by decide) (hts (Cond.fieldLink RX12 30 "ReliefBuilder" "history" "LReliefBuilder$History;") (List.mem_of_getElem? (i := 1) rfl)) (fun _ h9 => h9) rfl dX12_stamp_20 ?_
        refine lv_aload_n hx hb dX12_stamp_23 rfl (lv_at hl 0 rfl) ?_
        refine va_get (D := D) (ci := 8) (v := .ref ((g 1) 0)) (C := RX12) (T := TX12) (N := 15) hx hb hUX12 (fun _ h9 => h9) hown hK hP 0 rfl rfl 0 (by decide) (hts (Cond.fieldLink RX12 12 "ReliefBuilder" "panel" "LReliefBuilder$Panel;") (List.mem_of_getElem? (i := 2) rfl)) (fun _ h9 => h9) rfl dX12_stamp_24 ?_
        obtain ⟨u_7, he_8, hf⟩ := os_bd hf
        refine mc_callV ⟨hx, hb, hml, hown, hts⟩ (mm_X3_open l D kA N (g 5) (fun k => g (6 + k)) (g 1) o_this_history o_this_history_panels0 o_this_history_panels1 o_this_history_panels2 o_this_history_panels3 o_this_history_panels4 o_this_history_panels5 o_this_history_panels6 o_this_panel u_7 he_8) (cwV 1 hts gX12_stamp_X3_open rfl rfl rfl (by decide +kernel) ⟨Nat.le_of_ble_eq_true rfl, Nat.le_of_ble_eq_true rfl⟩) (wc := (ce_X3 kA (g 5) (fun k => g (6 + k)) o_this_history ++ (ce_X5 kA (g 6) o_this_history_panels0 ++ (ce_X5 kA (g 7) o_this_history_panels1 ++ (ce_X5 kA (g 8) o_this_history_panels2 ++ (ce_X5 kA (g 9) o_this_history_panels3 ++ (ce_X5 kA (g 10) o_this_history_panels4 ++ (ce_X5 kA (g 11) o_this_history_panels5 ++ (ce_X5 kA (g 12) o_this_history_panels6 ++ (ce_X5 kA (g 1) o_this_panel)))))))))) (ci := 0) (q0 := 0) rfl rfl rfl hl.1 (As := [.ref ((g 1) 0)]) (rest := []) rfl (Nat.le_of_ble_eq_true rfl) dX12_stamp_27 ⟨Nat.le_of_ble_eq_true rfl, Nat.le_of_ble_eq_true rfl⟩ hK hP hD hS hA [8, 9, 10, 11, 12, 13, 14, 15, 16, 17, 18, 19, 20, 21, 22, 23, 24, 25, 26, 27, 28, 29, 30, 31, 32, 33, 34, 35, 36, 37, 4, 5, 6, 7] [0, 1, 2, 3, 38, 39] [0, 1, 2, 3, 36, 37, 38, 39, 6, 7, 8, 9, 10, 11, 12, 13, 14, 15, 16, 17, 18, 19, 20, 21, 22, 23, 24, 25, 26, 27, 28, 29, 30, 31, 32, 33, 34, 35, 4, 5] rfl (by decide) rfl (by decide) (by decide) rfl (by decide) (wr := (ce_X12 kA g o_this ++ (ce_X6 kA (g 15) o_this_racks))) (w2 := (ce_X12 kA g o_this ++ (ce_X5 kA (g 1) o_this_panel ++ (ce_X3 kA (g 5) (fun k => g (6 + k)) o_this_history ++ (ce_X5 kA (g 6) u_7.1 ++ (ce_X5 kA (g 7) u_7.2.1 ++ (ce_X5 kA (g 8) u_7.2.2.1 ++ (ce_X5 kA (g 9) u_7.2.2.2.1 ++ (ce_X5 kA (g 10) u_7.2.2.2.2.1 ++ (ce_X5 kA (g 11) u_7.2.2.2.2.2.1 ++ (ce_X5 kA (g 12) u_7.2.2.2.2.2.2 ++ (ce_X6 kA (g 15) o_this_racks)))))))))))) (fun H locs hP hD hS => ?_)
        have hP : va_P D vwCl (ce_X12 kA g o_this ++ (ce_X5 kA (g 1) o_this_panel ++ (ce_X3 kA (g 5) (fun k => g (6 + k)) o_this_history ++ (ce_X5 kA (g 6) u_7.1 ++ (ce_X5 kA (g 7) u_7.2.1 ++ (ce_X5 kA (g 8) u_7.2.2.1 ++ (ce_X5 kA (g 9) u_7.2.2.2.1 ++ (ce_X5 kA (g 10) u_7.2.2.2.2.1 ++ (ce_X5 kA (g 11) u_7.2.2.2.2.2.1 ++ (ce_X5 kA (g 12) u_7.2.2.2.2.2.2 ++ (ce_X6 kA (g 15) o_this_racks))))))))))) H := hP
        refine lv_aload_n hx hb dX12_stamp_30 rfl (lv_at hl 0 rfl) ?_
        refine va_get (D := D) (ci := 8) (v := .ref ((g 1) 0)) (C := RX12) (T := TX12) (N := 15) hx hb hUX12 (fun _ h9 => h9) hown hK hP 0 rfl rfl 0 (by decide) (hts (Cond.fieldLink RX12 12 "ReliefBuilder" "panel" "LReliefBuilder$Panel;") (List.mem_of_getElem? (i := 2) rfl)) (fun _ h9 => h9) rfl dX12_stamp_31 ?_
        refine lv_aload_n hx hb dX12_stamp_34 rfl (lv_at hl 0 rfl) ?_
        refine va_get (D := D) (ci := 8) (v := .ref ((g 15) 0)) (C := RX12) (T := TX12) (N := 15) hx hb hUX12 (fun _ h9 => h9) hown hK hP 0 rfl rfl 7 (by decide) (hts (Cond.fieldLink RX12 53 "ReliefBuilder" "racks" "LReliefBuilder$Racks;") (List.mem_of_getElem? (i := 3) rfl)) (fun _ h9 => h9) rfl dX12_stamp_35 ?_
        refine lv_iload_n hx hb dX12_stamp_38 rfl (lv_at hl 1 rfl) ?_
        refine lv_iload_n hx hb dX12_stamp_39 rfl (lv_at hl 2 rfl) ?_
        obtain ⟨u_9, he_10, hf⟩ := os_bd hf
        refine mc_callV ⟨hx, hb, hml, hown, hts⟩ (mm_X6_at l D kA N (g 15) o_this_racks a1 a2 u_9 he_10) (cwV 2 hts gX12_stamp_X6_at rfl rfl rfl (by decide +kernel) ⟨Nat.le_of_ble_eq_true rfl, Nat.le_of_ble_eq_true rfl⟩) (wc := (ce_X6 kA (g 15) o_this_racks)) (ci := 3) (q0 := 0) rfl rfl rfl hl.1 (As := [.int a1, .int a2]) (rest := [.ref ((g 1) 0)]) rfl (Nat.le_of_ble_eq_true rfl) dX12_stamp_40 ⟨Nat.le_of_ble_eq_true rfl, Nat.le_of_ble_eq_true rfl⟩ hK hP hD hS hA [38, 39] [0, 1, 2, 3, 4, 5, 6, 7, 8, 9, 10, 11, 12, 13, 14, 15, 16, 17, 18, 19, 20, 21, 22, 23, 24, 25, 26, 27, 28, 29, 30, 31, 32, 33, 34, 35, 36, 37] [0, 1, 2, 3, 4, 5, 6, 7, 8, 9, 10, 11, 12, 13, 14, 15, 16, 17, 18, 19, 20, 21, 22, 23, 24, 25, 26, 27, 28, 29, 30, 31, 32, 33, 34, 35, 36, 37, 38, 39] rfl (by decide) rfl (by decide) (by decide) rfl (by decide) (wr := (ce_X12 kA g o_this ++ (ce_X5 kA (g 1) o_this_panel ++ (ce_X3 kA (g 5) (fun k => g (6 + k)) o_this_history ++ (ce_X5 kA (g 6) u_7.1 ++ (ce_X5 kA (g 7) u_7.2.1 ++ (ce_X5 kA (g 8) u_7.2.2.1 ++ (ce_X5 kA (g 9) u_7.2.2.2.1 ++ (ce_X5 kA (g 10) u_7.2.2.2.2.1 ++ (ce_X5 kA (g 11) u_7.2.2.2.2.2.1 ++ (ce_X5 kA (g 12) u_7.2.2.2.2.2.2))))))))))) (w2 := (ce_X12 kA g o_this ++ (ce_X5 kA (g 1) o_this_panel ++ (ce_X3 kA (g 5) (fun k => g (6 + k)) o_this_history ++ (ce_X5 kA (g 6) u_7.1 ++ (ce_X5 kA (g 7) u_7.2.1 ++ (ce_X5 kA (g 8) u_7.2.2.1 ++ (ce_X5 kA (g 9) u_7.2.2.2.1 ++ (ce_X5 kA (g 10) u_7.2.2.2.2.1 ++ (ce_X5 kA (g 11) u_7.2.2.2.2.2.1 ++ (ce_X5 kA (g 12) u_7.2.2.2.2.2.2 ++ (ce_X6 kA (g 15) o_this_racks)))))))))))) (fun H locs hP hD hS => ?_)
        have hP : va_P D vwCl (ce_X12 kA g o_this ++ (ce_X5 kA (g 1) o_this_panel ++ (ce_X3 kA (g 5) (fun k => g (6 + k)) o_this_history ++ (ce_X5 kA (g 6) u_7.1 ++ (ce_X5 kA (g 7) u_7.2.1 ++ (ce_X5 kA (g 8) u_7.2.2.1 ++ (ce_X5 kA (g 9) u_7.2.2.2.1 ++ (ce_X5 kA (g 10) u_7.2.2.2.2.1 ++ (ce_X5 kA (g 11) u_7.2.2.2.2.2.1 ++ (ce_X5 kA (g 12) u_7.2.2.2.2.2.2 ++ (ce_X6 kA (g 15) o_this_racks))))))))))) H := hP
        refine lv_iload_n hx hb dX12_stamp_43 rfl (lv_at hl 3 rfl) ?_
        refine lv_iload hx hb dX12_stamp_44 (lv_at hl 4 rfl) ?_
        obtain ⟨u_11, he_12, hf⟩ := os_bd hf
        refine mc_callS ⟨hx, hb, hml, hown, hts⟩ (mm_X6_press l D kA N (g 1) o_this_panel u_9 a3 a4 u_11 he_12) (va_cwS 4 hts gX12_stamp_X6_press rfl rfl rfl (by decide +kernel) ⟨Nat.le_of_ble_eq_true rfl, Nat.le_of_ble_eq_true rfl⟩) (wc := (ce_X5 kA (g 1) o_this_panel)) rfl hl.1 (As := [.ref ((g 1) 0), .int u_9, .int a3, .int a4]) (rest := []) rfl (Nat.le_of_ble_eq_true rfl) dX12_stamp_46 ⟨Nat.le_of_ble_eq_true rfl, Nat.le_of_ble_eq_true rfl⟩ hK hP hD hS hA [4, 5, 6, 7] [0, 1, 2, 3, 8, 9, 10, 11, 12, 13, 14, 15, 16, 17, 18, 19, 20, 21, 22, 23, 24, 25, 26, 27, 28, 29, 30, 31, 32, 33, 34, 35, 36, 37, 38, 39] [0, 1, 2, 3, 36, 37, 38, 39, 4, 5, 6, 7, 8, 9, 10, 11, 12, 13, 14, 15, 16, 17, 18, 19, 20, 21, 22, 23, 24, 25, 26, 27, 28, 29, 30, 31, 32, 33, 34, 35] rfl (by decide) rfl (by decide) (by decide) rfl (by decide) (wr := (ce_X12 kA g o_this ++ (ce_X3 kA (g 5) (fun k => g (6 + k)) o_this_history ++ (ce_X5 kA (g 6) u_7.1 ++ (ce_X5 kA (g 7) u_7.2.1 ++ (ce_X5 kA (g 8) u_7.2.2.1 ++ (ce_X5 kA (g 9) u_7.2.2.2.1 ++ (ce_X5 kA (g 10) u_7.2.2.2.2.1 ++ (ce_X5 kA (g 11) u_7.2.2.2.2.2.1 ++ (ce_X5 kA (g 12) u_7.2.2.2.2.2.2 ++ (ce_X6 kA (g 15) o_this_racks))))))))))) (w2 := (ce_X12 kA g o_this ++ (ce_X5 kA (g 1) u_11.2 ++ (ce_X3 kA (g 5) (fun k => g (6 + k)) o_this_history ++ (ce_X5 kA (g 6) u_7.1 ++ (ce_X5 kA (g 7) u_7.2.1 ++ (ce_X5 kA (g 8) u_7.2.2.1 ++ (ce_X5 kA (g 9) u_7.2.2.2.1 ++ (ce_X5 kA (g 10) u_7.2.2.2.2.1 ++ (ce_X5 kA (g 11) u_7.2.2.2.2.2.1 ++ (ce_X5 kA (g 12) u_7.2.2.2.2.2.2 ++ (ce_X6 kA (g 15) o_this_racks)))))))))))) (fun H locs hP hD hS => ?_)
        have hP : va_P D vwCl (ce_X12 kA g o_this ++ (ce_X5 kA (g 1) u_11.2 ++ (ce_X3 kA (g 5) (fun k => g (6 + k)) o_this_history ++ (ce_X5 kA (g 6) u_7.1 ++ (ce_X5 kA (g 7) u_7.2.1 ++ (ce_X5 kA (g 8) u_7.2.2.1 ++ (ce_X5 kA (g 9) u_7.2.2.2.1 ++ (ce_X5 kA (g 10) u_7.2.2.2.2.1 ++ (ce_X5 kA (g 11) u_7.2.2.2.2.2.1 ++ (ce_X5 kA (g 12) u_7.2.2.2.2.2.2 ++ (ce_X6 kA (g 15) o_this_racks))))))))))) H := hP
        refine lv_istore (lv' := [(5, .int u_11.1), (0, .ref ((g 0) 0)), (1, .int a1), (2, .int a2), (3, .int a3), (4, .int a4)]) hx hb dX12_stamp_49 hl (by decide) rfl (fun ls hl => ?_)
        refine lv_aload_n hx hb dX12_stamp_51 rfl (lv_at hl 1 rfl) ?_
        refine va_get (D := D) (ci := 8) (v := .ref ((g 5) 0)) (C := RX12) (T := TX12) (N := 15) hx hb hUX12 (fun _ h9 => h9) hown hK hP 0 rfl rfl 4 (by decide) (hts (Cond.fieldLink RX12 30 "ReliefBuilder" "history" "LReliefBuilder$History;") (List.mem_of_getElem? (i := 1) rfl)) (fun _ h9 => h9) rfl dX12_stamp_52 ?_
        refine lv_aload_n hx hb dX12_stamp_55 rfl (lv_at hl 1 rfl) ?_
        refine va_get (D := D) (ci := 8) (v := .ref ((g 1) 0)) (C := RX12) (T := TX12) (N := 15) hx hb hUX12 (fun _ h9 => h9) hown hK hP 0 rfl rfl 0 (by decide) (hts (Cond.fieldLink RX12 12 "ReliefBuilder" "panel" "LReliefBuilder$Panel;") (List.mem_of_getElem? (i := 2) rfl)) (fun _ h9 => h9) rfl dX12_stamp_56 ?_
        obtain ⟨u_13, he_14, hf⟩ := os_bd hf
        refine mc_callV ⟨hx, hb, hml, hown, hts⟩ (mm_X3_close l D kA N (g 5) (fun k => g (6 + k)) (g 1) o_this_history u_7.1 u_7.2.1 u_7.2.2.1 u_7.2.2.2.1 u_7.2.2.2.2.1 u_7.2.2.2.2.2.1 u_7.2.2.2.2.2.2 u_11.2 u_13 he_14) (cwV 1 hts gX12_stamp_X3_close rfl rfl rfl (by decide +kernel) ⟨Nat.le_of_ble_eq_true rfl, Nat.le_of_ble_eq_true rfl⟩) (wc := (ce_X3 kA (g 5) (fun k => g (6 + k)) o_this_history ++ (ce_X5 kA (g 6) u_7.1 ++ (ce_X5 kA (g 7) u_7.2.1 ++ (ce_X5 kA (g 8) u_7.2.2.1 ++ (ce_X5 kA (g 9) u_7.2.2.2.1 ++ (ce_X5 kA (g 10) u_7.2.2.2.2.1 ++ (ce_X5 kA (g 11) u_7.2.2.2.2.2.1 ++ (ce_X5 kA (g 12) u_7.2.2.2.2.2.2 ++ (ce_X5 kA (g 1) u_11.2)))))))))) (ci := 0) (q0 := 0) rfl rfl rfl hl.1 (As := [.ref ((g 1) 0)]) (rest := []) rfl (Nat.le_of_ble_eq_true rfl) dX12_stamp_59 ⟨Nat.le_of_ble_eq_true rfl, Nat.le_of_ble_eq_true rfl⟩ hK hP hD hS hA [8, 9, 10, 11, 12, 13, 14, 15, 16, 17, 18, 19, 20, 21, 22, 23, 24, 25, 26, 27, 28, 29, 30, 31, 32, 33, 34, 35, 36, 37, 4, 5, 6, 7] [0, 1, 2, 3, 38, 39] [0, 1, 2, 3, 36, 37, 38, 39, 6, 7, 8, 9, 10, 11, 12, 13, 14, 15, 16, 17, 18, 19, 20, 21, 22, 23, 24, 25, 26, 27, 28, 29, 30, 31, 32, 33, 34, 35, 4, 5] rfl (by decide) rfl (by decide) (by decide) rfl (by decide) (wr := (ce_X12 kA g o_this ++ (ce_X6 kA (g 15) o_this_racks))) (w2 := (ce_X12 kA g o_this ++ (ce_X5 kA (g 1) u_11.2 ++ (ce_X3 kA (g 5) (fun k => g (6 + k)) u_13 ++ (ce_X5 kA (g 6) u_7.1 ++ (ce_X5 kA (g 7) u_7.2.1 ++ (ce_X5 kA (g 8) u_7.2.2.1 ++ (ce_X5 kA (g 9) u_7.2.2.2.1 ++ (ce_X5 kA (g 10) u_7.2.2.2.2.1 ++ (ce_X5 kA (g 11) u_7.2.2.2.2.2.1 ++ (ce_X5 kA (g 12) u_7.2.2.2.2.2.2 ++ (ce_X6 kA (g 15) o_this_racks)))))))))))) (fun H locs hP hD hS => ?_)
        have hP : va_P D vwCl (ce_X12 kA g o_this ++ (ce_X5 kA (g 1) u_11.2 ++ (ce_X3 kA (g 5) (fun k => g (6 + k)) u_13 ++ (ce_X5 kA (g 6) u_7.1 ++ (ce_X5 kA (g 7) u_7.2.1 ++ (ce_X5 kA (g 8) u_7.2.2.1 ++ (ce_X5 kA (g 9) u_7.2.2.2.1 ++ (ce_X5 kA (g 10) u_7.2.2.2.2.1 ++ (ce_X5 kA (g 11) u_7.2.2.2.2.2.1 ++ (ce_X5 kA (g 12) u_7.2.2.2.2.2.2 ++ (ce_X6 kA (g 15) o_this_racks))))))))))) H := hP
        refine lv_iload hx hb dX12_stamp_62 (lv_at hl 0 rfl) ?_
        rw [← Option.some.inj hf]
        exact mx_reti (Nat.le_of_ble_eq_true rfl) (Nat.le_of_ble_eq_true rfl) hx hb hr hlk hP hK hD hS dX12_stamp_64
def ff_X12_stampGain (N : Nat) (o_this : os_T) (o_this_panel : os_T) (o_this_spare : os_T) (o_this_racks : os_T) (a1 : Int32) (a2 : Int32) (a3 : Int32) (a4 : Int32) : Option (Nat × Int32 × os_T) :=
  ((ff_X12_checkPlace N o_this a1 a2).bind fun u_1 => (if u_1 = 0 then ((ff_X12_checkCell N o_this o_this_panel a3 a4).bind fun u_3 => (if u_3 = 0 then ((ff_X12_checkStamp N o_this o_this_racks a1 a2).bind fun u_5 => (if u_5 = 0 then ((ff_X5_copyFrom N o_this_spare o_this_panel).bind fun u_7 => ((ff_X6_at N o_this_racks a1 a2).bind fun u_9 => ((ff_X6_press N u_7 u_9 a3 a4).bind fun u_11 => ((ff_X5_sumOfHeights N u_11.2).bind fun u_13 => ((ff_X5_sumOfHeights N o_this_panel).bind fun u_15 => some (0, u_13 - u_15, u_11.2)))))) else some (u_5, (0 : Int32), o_this_spare))) else some (u_3, (0 : Int32), o_this_spare))) else some (u_1, (0 : Int32), o_this_spare)))
set_option maxHeartbeats 4000000 in
set_option maxRecDepth 100000 in
theorem mm_X12_stampGain (l : Launch) (hst : l.stackTraces = false) (zz : Nat → Nat → Nat) (D : va_G) (kA : Nat → ClassId) (N : Nat) (g : Nat → Nat → Nat) (o_this : os_T) (o_this_panel : os_T) (o_this_spare : os_T) (o_this_racks : os_T) (a1 : Int32) (a2 : Int32) (a3 : Int32) (a4 : Int32) (out : (Nat × Int32 × os_T)) (hf : ff_X12_stampGain N o_this o_this_panel o_this_spare o_this_racks a1 a2 a3 a4 = some out) : mx_C l zz D kA yX12_stampGain wsX12_stampGain ({ frames := 7, cells := 3, slots := 18, locals := 112 } : Room) [.ref ((g 0) 0), .int a1, .int a2, .int a3, .int a4] (ce_X12 kA g o_this ++ (ce_X5 kA (g 1) o_this_panel ++ (ce_X5 kA (g 2) o_this_spare ++ (ce_X6 kA (g 15) o_this_racks)))) out.1 (some (.int out.2.1)) (ce_X12 kA g o_this ++ (ce_X5 kA (g 1) o_this_panel ++ (ce_X5 kA (g 2) out.2.2 ++ (ce_X6 kA (g 15) o_this_racks)))) := by
  refine mx_of (cc := cX12_stampGain) (maxL := 5) (ret := (some .int)) (by decide) rfl (Nat.le_of_ble_eq_true rfl) ?_
  intro p e s m below meth c A B hx0 hZ hD hP hS ls hl
  obtain ⟨hx, hb, hr, hlk, hml, hown, hts, hK, hA, hnm⟩ := B
  have hown : s.vm.findClass RX12 = some m.cls := hown
  have hl : lv_has ls 5 [(0, .ref ((g 0) 0)), (1, .int a1), (2, .int a2), (3, .int a3), (4, .int a4)] := hl
  have hUX12 : ∀ w ∈ u_ws RX12 TX12 15, w.before [.ref ((g 0) 0), .int a1, .int a2, .int a3, .int a4].toArray s = true := fun w h => hts w (List.mem_cons_of_mem _ (List.mem_append_left _ (List.mem_append_left _ (List.mem_append_left _ (List.mem_append_left _ (List.mem_append_right _ h))))))
  unfold ff_X12_stampGain at hf
  refine lv_aload_n hx hb dX12_stampGain_0 rfl (lv_at hl 0 rfl) ?_
  refine lv_iload_n hx hb dX12_stampGain_1 rfl (lv_at hl 1 rfl) ?_
  refine lv_iload_n hx hb dX12_stampGain_2 rfl (lv_at hl 2 rfl) ?_
  obtain ⟨u_1, he_2, hf⟩ := os_bd hf
  refine mx_callV ⟨hx, hb, hml, hown, hts⟩ (mm_X12_checkPlace l hst zz D kA N g o_this a1 a2 u_1 he_2) (cwV 2 hts gX12_stampGain_X12_checkPlace rfl rfl rfl (by decide +kernel) ⟨Nat.le_of_ble_eq_true rfl, Nat.le_of_ble_eq_true rfl⟩) (wc := (ce_X12 kA g o_this)) (ci := 8) (q0 := 0) rfl rfl rfl hl.1 (As := [.int a1, .int a2]) (rest := []) rfl (Nat.le_of_ble_eq_true rfl) dX12_stampGain_3 ⟨Nat.le_of_ble_eq_true rfl, Nat.le_of_ble_eq_true rfl⟩ hK hP hD hS hA hZ [0, 1, 2, 3] [4, 5, 6, 7, 8, 9, 10, 11, 12, 13] [10, 11, 12, 13, 0, 1, 2, 3, 4, 5, 6, 7, 8, 9] rfl (by decide) rfl (by decide) (by decide) rfl (by decide) (wr := (ce_X5 kA (g 1) o_this_panel ++ (ce_X5 kA (g 2) o_this_spare ++ (ce_X6 kA (g 15) o_this_racks)))) (w2 := (ce_X12 kA g o_this ++ (ce_X5 kA (g 1) o_this_panel ++ (ce_X5 kA (g 2) o_this_spare ++ (ce_X6 kA (g 15) o_this_racks))))) (fun hx9 H locs q9 ce hP hD hS h91 h92 h93 => ?_) (fun hx9 H locs hP hD hS => ?_)
  · rw [if_neg hx9] at hf
    rw [← Option.some.inj hf]
    exact mx_out hx9 hx0 hlk hP hK hD hS h91 h92 h93 (Nat.le_of_ble_eq_true rfl) (Nat.le_of_ble_eq_true rfl)
  · rw [if_pos hx9] at hf
    refine W.widen (k := 1) (n := 6) (Nat.le_of_ble_eq_true rfl) (Nat.le_of_ble_eq_true rfl) ?_
    have hP : va_P D vwCl (ce_X12 kA g o_this ++ (ce_X5 kA (g 1) o_this_panel ++ (ce_X5 kA (g 2) o_this_spare ++ (ce_X6 kA (g 15) o_this_racks)))) H := hP
    refine lv_aload_n hx hb dX12_stampGain_6 rfl (lv_at hl 0 rfl) ?_
    refine lv_iload_n hx hb dX12_stampGain_7 rfl (lv_at hl 3 rfl) ?_
    refine lv_iload hx hb dX12_stampGain_8 (lv_at hl 4 rfl) ?_
    obtain ⟨u_3, he_4, hf⟩ := os_bd hf
    refine mx_callV ⟨hx, hb, hml, hown, hts⟩ (mm_X12_checkCell l hst zz D kA N g o_this o_this_panel a3 a4 u_3 he_4) (cwV 2 hts gX12_stampGain_X12_checkCell rfl rfl rfl (by decide +kernel) ⟨Nat.le_of_ble_eq_true rfl, Nat.le_of_ble_eq_true rfl⟩) (wc := (ce_X12 kA g o_this ++ (ce_X5 kA (g 1) o_this_panel))) (ci := 8) (q0 := 0) rfl rfl rfl hl.1 (As := [.int a3, .int a4]) (rest := []) rfl (Nat.le_of_ble_eq_true rfl) dX12_stampGain_10 ⟨Nat.le_of_ble_eq_true rfl, Nat.le_of_ble_eq_true rfl⟩ hK hP hD hS hA hZ [0, 1, 2, 3, 4, 5, 6, 7] [8, 9, 10, 11, 12, 13] [6, 7, 8, 9, 10, 11, 12, 13, 0, 1, 2, 3, 4, 5] rfl (by decide) rfl (by decide) (by decide) rfl (by decide) (wr := (ce_X5 kA (g 2) o_this_spare ++ (ce_X6 kA (g 15) o_this_racks))) (w2 := (ce_X12 kA g o_this ++ (ce_X5 kA (g 1) o_this_panel ++ (ce_X5 kA (g 2) o_this_spare ++ (ce_X6 kA (g 15) o_this_racks))))) (fun hx9 H locs q9 ce hP hD hS h91 h92 h93 => ?_) (fun hx9 H locs hP hD hS => ?_)
    · rw [if_neg hx9] at hf
      rw [← Option.some.inj hf]
      exact mx_out hx9 hx0 hlk hP hK hD hS h91 h92 h93 (Nat.le_of_ble_eq_true rfl) (Nat.le_of_ble_eq_true rfl)
    · rw [if_pos hx9] at hf
      refine W.widen (k := 2) (n := 12) (Nat.le_of_ble_eq_true rfl) (Nat.le_of_ble_eq_true rfl) ?_
      have hP : va_P D vwCl (ce_X12 kA g o_this ++ (ce_X5 kA (g 1) o_this_panel ++ (ce_X5 kA (g 2) o_this_spare ++ (ce_X6 kA (g 15) o_this_racks)))) H := hP
      refine lv_aload_n hx hb dX12_stampGain_13 rfl (lv_at hl 0 rfl) ?_
      refine lv_iload_n hx hb dX12_stampGain_14 rfl (lv_at hl 1 rfl) ?_
      refine lv_iload_n hx hb dX12_stampGain_15 rfl (lv_at hl 2 rfl) ?_
      obtain ⟨u_5, he_6, hf⟩ := os_bd hf
      refine mx_callV ⟨hx, hb, hml, hown, hts⟩ (mm_X12_checkStamp l hst zz D kA N g o_this o_this_racks a1 a2 u_5 he_6) (cwV 2 hts gX12_stampGain_X12_checkStamp rfl rfl rfl (by decide +kernel) ⟨Nat.le_of_ble_eq_true rfl, Nat.le_of_ble_eq_true rfl⟩) (wc := (ce_X12 kA g o_this ++ (ce_X6 kA (g 15) o_this_racks))) (ci := 8) (q0 := 0) rfl rfl rfl hl.1 (As := [.int a1, .int a2]) (rest := []) rfl (Nat.le_of_ble_eq_true rfl) dX12_stampGain_16 ⟨Nat.le_of_ble_eq_true rfl, Nat.le_of_ble_eq_true rfl⟩ hK hP hD hS hA hZ [0, 1, 2, 3, 12, 13] [4, 5, 6, 7, 8, 9, 10, 11] [8, 9, 10, 11, 0, 1, 2, 3, 4, 5, 6, 7, 12, 13] rfl (by decide) rfl (by decide) (by decide) rfl (by decide) (wr := (ce_X5 kA (g 1) o_this_panel ++ (ce_X5 kA (g 2) o_this_spare))) (w2 := (ce_X12 kA g o_this ++ (ce_X5 kA (g 1) o_this_panel ++ (ce_X5 kA (g 2) o_this_spare ++ (ce_X6 kA (g 15) o_this_racks))))) (fun hx9 H locs q9 ce hP hD hS h91 h92 h93 => ?_) (fun hx9 H locs hP hD hS => ?_)
      · rw [if_neg hx9] at hf
        rw [← Option.some.inj hf]
        exact mx_out hx9 hx0 hlk hP hK hD hS h91 h92 h93 (Nat.le_of_ble_eq_true rfl) (Nat.le_of_ble_eq_true rfl)
      · rw [if_pos hx9] at hf
        refine W.widen (k := 3) (n := 18) (Nat.le_of_ble_eq_true rfl) (Nat.le_of_ble_eq_true rfl) ?_
        have hP : va_P D vwCl (ce_X12 kA g o_this ++ (ce_X5 kA (g 1) o_this_panel ++ (ce_X5 kA (g 2) o_this_spare ++ (ce_X6 kA (g 15) o_this_racks)))) H := hP
        refine lv_aload_n hx hb dX12_stampGain_19 rfl (lv_at hl 0 rfl) ?_
        refine va_get (D := D) (ci := 8) (v := .ref ((g 2) 0)) (C := RX12) (T := TX12) (N := 15) hx hb hUX12 (fun _ h9 => h9) hown hK hP 0 rfl rfl 1 (by decide) (hts (Cond.fieldLink RX12 16 "ReliefBuilder" "spare" "LReliefBuilder$Panel;") (List.mem_of_getElem? (i := 1) rfl)) (fun _ h9 => h9) rfl dX12_stampGain_20 ?_
        refine lv_aload_n hx hb dX12_stampGain_23 rfl (lv_at hl 0 rfl) ?_
        refine va_get (D := D) (ci := 8) (v := .ref ((g 1) 0)) (C := RX12) (T := TX12) (N := 15) hx hb hUX12 (fun _ h9 => h9) hown hK hP 0 rfl rfl 0 (by decide) (hts (Cond.fieldLink RX12 12 "ReliefBuilder" "panel" "LReliefBuilder$Panel;") (List.mem_of_getElem? (i := 2) rfl)) (fun _ h9 => h9) rfl dX12_stampGain_24 ?_
        obtain ⟨u_7, he_8, hf⟩ := os_bd hf
        refine mc_callV ⟨hx, hb, hml, hown, hts⟩ (mm_X5_copyFrom l D kA N (g 2) (g 1) o_this_spare o_this_panel u_7 he_8) (cwV 1 hts gX12_stampGain_X5_copyFrom rfl rfl rfl (by decide +kernel) ⟨Nat.le_of_ble_eq_true rfl, Nat.le_of_ble_eq_true rfl⟩) (wc := (ce_X5 kA (g 2) o_this_spare ++ (ce_X5 kA (g 1) o_this_panel))) (ci := 2) (q0 := 0) rfl rfl rfl hl.1 (As := [.ref ((g 1) 0)]) (rest := []) rfl (Nat.le_of_ble_eq_true rfl) dX12_stampGain_27 ⟨Nat.le_of_ble_eq_true rfl, Nat.le_of_ble_eq_true rfl⟩ hK hP hD hS hA [8, 9, 10, 11, 4, 5, 6, 7] [0, 1, 2, 3, 12, 13] [0, 1, 2, 3, 10, 11, 12, 13, 6, 7, 8, 9, 4, 5] rfl (by decide) rfl (by decide) (by decide) rfl (by decide) (wr := (ce_X12 kA g o_this ++ (ce_X6 kA (g 15) o_this_racks))) (w2 := (ce_X12 kA g o_this ++ (ce_X5 kA (g 1) o_this_panel ++ (ce_X5 kA (g 2) u_7 ++ (ce_X6 kA (g 15) o_this_racks))))) (fun H locs hP hD hS => ?_)
        have hP : va_P D vwCl (ce_X12 kA g o_this ++ (ce_X5 kA (g 1) o_this_panel ++ (ce_X5 kA (g 2) u_7 ++ (ce_X6 kA (g 15) o_this_racks)))) H := hP
        refine lv_aload_n hx hb dX12_stampGain_30 rfl (lv_at hl 0 rfl) ?_
        refine va_get (D := D) (ci := 8) (v := .ref ((g 2) 0)) (C := RX12) (T := TX12) (N := 15) hx hb hUX12 (fun _ h9 => h9) hown hK hP 0 rfl rfl 1 (by decide) (hts (Cond.fieldLink RX12 16 "ReliefBuilder" "spare" "LReliefBuilder$Panel;") (List.mem_of_getElem? (i := 1) rfl)) (fun _ h9 => h9) rfl dX12_stampGain_31 ?_
        refine lv_aload_n hx hb dX12_stampGain_34 rfl (lv_at hl 0 rfl) ?_
        refine va_get (D := D) (ci := 8) (v := .ref ((g 15) 0)) (C := RX12) (T := TX12) (N := 15) hx hb hUX12 (fun _ h9 => h9) hown hK hP 0 rfl rfl 7 (by decide) (hts (Cond.fieldLink RX12 53 "ReliefBuilder" "racks" "LReliefBuilder$Racks;") (List.mem_of_getElem? (i := 3) rfl)) (fun _ h9 => h9) rfl dX12_stampGain_35 ?_
        refine lv_iload_n hx hb dX12_stampGain_38 rfl (lv_at hl 1 rfl) ?_
        refine lv_iload_n hx hb dX12_stampGain_39 rfl (lv_at hl 2 rfl) ?_
        obtain ⟨u_9, he_10, hf⟩ := os_bd hf
        refine mc_callV ⟨hx, hb, hml, hown, hts⟩ (mm_X6_at l D kA N (g 15) o_this_racks a1 a2 u_9 he_10) (cwV 2 hts gX12_stampGain_X6_at rfl rfl rfl (by decide +kernel) ⟨Nat.le_of_ble_eq_true rfl, Nat.le_of_ble_eq_true rfl⟩) (wc := (ce_X6 kA (g 15) o_this_racks)) (ci := 3) (q0 := 0) rfl rfl rfl hl.1 (As := [.int a1, .int a2]) (rest := [.ref ((g 2) 0)]) rfl (Nat.le_of_ble_eq_true rfl) dX12_stampGain_40 ⟨Nat.le_of_ble_eq_true rfl, Nat.le_of_ble_eq_true rfl⟩ hK hP hD hS hA [12, 13] [0, 1, 2, 3, 4, 5, 6, 7, 8, 9, 10, 11] [0, 1, 2, 3, 4, 5, 6, 7, 8, 9, 10, 11, 12, 13] rfl (by decide) rfl (by decide) (by decide) rfl (by decide) (wr := (ce_X12 kA g o_this ++ (ce_X5 kA (g 1) o_this_panel ++ (ce_X5 kA (g 2) u_7)))) (w2 := (ce_X12 kA g o_this ++ (ce_X5 kA (g 1) o_this_panel ++ (ce_X5 kA (g 2) u_7 ++ (ce_X6 kA (g 15) o_this_racks))))) (fun H locs hP hD hS => ?_)
        have hP : va_P D vwCl (ce_X12 kA g o_this ++ (ce_X5 kA (g 1) o_this_panel ++ (ce_X5 kA (g 2) u_7 ++ (ce_X6 kA (g 15) o_this_racks)))) H := hP
        refine lv_iload_n hx hb dX12_stampGain_43 rfl (lv_at hl 3 rfl) ?_
        refine lv_iload hx hb dX12_stampGain_44 (lv_at hl 4 rfl) ?_
        obtain ⟨u_11, he_12, hf⟩ := os_bd hf
        refine mc_callS ⟨hx, hb, hml, hown, hts⟩ (mm_X6_press l D kA N (g 2) u_7 u_9 a3 a4 u_11 he_12) (va_cwS 4 hts gX12_stampGain_X6_press rfl rfl rfl (by decide +kernel) ⟨Nat.le_of_ble_eq_true rfl, Nat.le_of_ble_eq_true rfl⟩) (wc := (ce_X5 kA (g 2) u_7)) rfl hl.1 (As := [.ref ((g 2) 0), .int u_9, .int a3, .int a4]) (rest := []) rfl (Nat.le_of_ble_eq_true rfl) dX12_stampGain_46 ⟨Nat.le_of_ble_eq_true rfl, Nat.le_of_ble_eq_true rfl⟩ hK hP hD hS hA [8, 9, 10, 11] [0, 1, 2, 3, 4, 5, 6, 7, 12, 13] [0, 1, 2, 3, 4, 5, 6, 7, 10, 11, 12, 13, 8, 9] rfl (by decide) rfl (by decide) (by decide) rfl (by decide) (wr := (ce_X12 kA g o_this ++ (ce_X5 kA (g 1) o_this_panel ++ (ce_X6 kA (g 15) o_this_racks)))) (w2 := (ce_X12 kA g o_this ++ (ce_X5 kA (g 1) o_this_panel ++ (ce_X5 kA (g 2) u_11.2 ++ (ce_X6 kA (g 15) o_this_racks))))) (fun H locs hP hD hS => ?_)
        have hP : va_P D vwCl (ce_X12 kA g o_this ++ (ce_X5 kA (g 1) o_this_panel ++ (ce_X5 kA (g 2) u_11.2 ++ (ce_X6 kA (g 15) o_this_racks)))) H := hP
        refine lv_pop hx hb dX12_stampGain_49 rfl ?_
        refine lv_aload_n hx hb dX12_stampGain_50 rfl (lv_at hl 0 rfl) ?_
        refine va_get (D := D) (ci := 8) (v := .ref ((g 2) 0)) (C := RX12) (T := TX12) (N := 15) hx hb hUX12 (fun _ h9 => h9) hown hK hP 0 rfl rfl 1 (by decide) (hts (Cond.fieldLink RX12 16 "ReliefBuilder" "spare" "LReliefBuilder$Panel;") (List.mem_of_getElem? (i := 1) rfl)) (fun _ h9 => h9) rfl dX12_stampGain_51 ?_
        obtain ⟨u_13, he_14, hf⟩ := os_bd hf
        refine mc_callV ⟨hx, hb, hml, hown, hts⟩ (mm_X5_sumOfHeights l D kA N (g 2) u_11.2 u_13 he_14) (cwV 0 hts gX12_stampGain_X5_sumOfHeights rfl rfl rfl (by decide +kernel) ⟨Nat.le_of_ble_eq_true rfl, Nat.le_of_ble_eq_true rfl⟩) (wc := (ce_X5 kA (g 2) u_11.2)) (ci := 2) (q0 := 0) rfl rfl rfl hl.1 (As := []) (rest := []) rfl (Nat.le_of_ble_eq_true rfl) dX12_stampGain_54 ⟨Nat.le_of_ble_eq_true rfl, Nat.le_of_ble_eq_true rfl⟩ hK hP hD hS hA [8, 9, 10, 11] [0, 1, 2, 3, 4, 5, 6, 7, 12, 13] [0, 1, 2, 3, 4, 5, 6, 7, 10, 11, 12, 13, 8, 9] rfl (by decide) rfl (by decide) (by decide) rfl (by decide) (wr := (ce_X12 kA g o_this ++ (ce_X5 kA (g 1) o_this_panel ++ (ce_X6 kA (g 15) o_this_racks)))) (w2 := (ce_X12 kA g o_this ++ (ce_X5 kA (g 1) o_this_panel ++ (ce_X5 kA (g 2) u_11.2 ++ (ce_X6 kA (g 15) o_this_racks))))) (fun H locs hP hD hS => ?_)
        have hP : va_P D vwCl (ce_X12 kA g o_this ++ (ce_X5 kA (g 1) o_this_panel ++ (ce_X5 kA (g 2) u_11.2 ++ (ce_X6 kA (g 15) o_this_racks)))) H := hP
        refine lv_aload_n hx hb dX12_stampGain_57 rfl (lv_at hl 0 rfl) ?_
        refine va_get (D := D) (ci := 8) (v := .ref ((g 1) 0)) (C := RX12) (T := TX12) (N := 15) hx hb hUX12 (fun _ h9 => h9) hown hK hP 0 rfl rfl 0 (by decide) (hts (Cond.fieldLink RX12 12 "ReliefBuilder" "panel" "LReliefBuilder$Panel;") (List.mem_of_getElem? (i := 2) rfl)) (fun _ h9 => h9) rfl dX12_stampGain_58 ?_
        obtain ⟨u_15, he_16, hf⟩ := os_bd hf
        refine mc_callV ⟨hx, hb, hml, hown, hts⟩ (mm_X5_sumOfHeights l D kA N (g 1) o_this_panel u_15 he_16) (cwV 0 hts gX12_stampGain_X5_sumOfHeights rfl rfl rfl (by decide +kernel) ⟨Nat.le_of_ble_eq_true rfl, Nat.le_of_ble_eq_true rfl⟩) (wc := (ce_X5 kA (g 1) o_this_panel)) (ci := 2) (q0 := 0) rfl rfl rfl hl.1 (As := []) (rest := [.int u_13]) rfl (Nat.le_of_ble_eq_true rfl) dX12_stampGain_61 ⟨Nat.le_of_ble_eq_true rfl, Nat.le_of_ble_eq_true rfl⟩ hK hP hD hS hA [4, 5, 6, 7] [0, 1, 2, 3, 8, 9, 10, 11, 12, 13] [0, 1, 2, 3, 10, 11, 12, 13, 4, 5, 6, 7, 8, 9] rfl (by decide) rfl (by decide) (by decide) rfl (by decide) (wr := (ce_X12 kA g o_this ++ (ce_X5 kA (g 2) u_11.2 ++ (ce_X6 kA (g 15) o_this_racks)))) (w2 := (ce_X12 kA g o_this ++ (ce_X5 kA (g 1) o_this_panel ++ (ce_X5 kA (g 2) u_11.2 ++ (ce_X6 kA (g 15) o_this_racks))))) (fun H locs hP hD hS => ?_)
        have hP : va_P D vwCl (ce_X12 kA g o_this ++ (ce_X5 kA (g 1) o_this_panel ++ (ce_X5 kA (g 2) u_11.2 ++ (ce_X6 kA (g 15) o_this_racks)))) H := hP
        refine lv_isub hx hb dX12_stampGain_64 ?_
        rw [← Option.some.inj hf]
        exact mx_reti (Nat.le_of_ble_eq_true rfl) (Nat.le_of_ble_eq_true rfl) hx hb hr hlk hP hK hD hS dX12_stampGain_65
def ff_X12_writeByte (N : Nat) (o_this : os_T) (a1 : Int32) : Option os_T :=
  (if (576 : Int32) ≤ (os_I o_this 12) then some o_this else (if os_in (os_I o_this 12) 576 then some (ss_I (ss_A o_this 1 (upd (os_A o_this 1) (Int32.toNatClampNeg (os_I o_this 12)) (vp_nar .byte ((Int32.toInt8 a1).toInt32)))) 12 ((os_I o_this 12) + (1 : Int32))) else none))
set_option maxHeartbeats 4000000 in
set_option maxRecDepth 100000 in
theorem mm_X12_writeByte (l : Launch) (D : va_G) (kA : Nat → ClassId) (N : Nat) (g : Nat → Nat → Nat) (o_this : os_T) (a1 : Int32) (out : os_T) (hf : ff_X12_writeByte N o_this a1 = some out) : mc_C l D kA yX12_writeByte wsX12_writeByte ({ frames := 0, cells := 0, slots := 0, locals := 0 } : Room) [.ref ((g 0) 0), .int a1] (ce_X12 kA g o_this) none (ce_X12 kA g out) := by
  refine mc_of (cc := cX12_writeByte) (maxL := 2) (ret := none) (by decide) rfl (Nat.le_of_ble_eq_true rfl) ?_
  intro p e s m below meth c A B hD hP hS ls hl
  obtain ⟨hx, hb, hr, hlk, hml, hown, hts, hK, hA, hnm⟩ := B
  have hown : s.vm.findClass RX12 = some m.cls := hown
  have hl : lv_has ls 2 [(0, .ref ((g 0) 0)), (1, .int a1)] := hl
  have hUX12 : ∀ w ∈ u_ws RX12 TX12 15, w.before [.ref ((g 0) 0), .int a1].toArray s = true := fun w h => hts w (List.mem_cons_of_mem _ (List.mem_append_right _ h))
  unfold ff_X12_writeByte at hf
  refine lv_aload_n hx hb dX12_writeByte_0 rfl (lv_at hl 0 rfl) ?_
  refine va_get (D := D) (ci := 8) (v := .int (os_I o_this 12)) (C := RX12) (T := TX12) (N := 15) hx hb hUX12 (fun _ h9 => h9) hown hK hP 0 rfl rfl 12 (by decide) (hts (Cond.fieldLink RX12 426 "ReliefBuilder" "reportLength" "I") (List.mem_of_getElem? (i := 1) rfl)) (fun _ h9 => h9) rfl dX12_writeByte_1 ?_
  refine lv_aload_n hx hb dX12_writeByte_4 rfl (lv_at hl 0 rfl) ?_
  refine va_get (D := D) (ci := 8) (v := .ref ((g 0) 3)) (C := RX12) (T := TX12) (N := 15) hx hb hUX12 (fun _ h9 => h9) hown hK hP 0 rfl rfl 11 (by decide) (hts (Cond.fieldLink RX12 82 "ReliefBuilder" "reportBytes" "[B") (List.mem_of_getElem? (i := 2) rfl)) (fun _ h9 => h9) rfl dX12_writeByte_5 ?_
  refine va_alen (v := 576) hx hb hK hP 3 2 rfl rfl rfl dX12_writeByte_8 ?_
  refine lv_icmp_ge (tgt := 33) hx hb dX12_writeByte_9 (by decide) (fun hc_1 => ?_) (fun hc_1 => ?_)
  · rw [if_pos hc_1] at hf
    rw [← Option.some.inj hf]
    exact mc_retv hx hb hr hlk hP hK hD hS dX12_writeByte_33
  · rw [if_neg hc_1] at hf
    refine lv_aload_n hx hb dX12_writeByte_12 rfl (lv_at hl 0 rfl) ?_
    refine va_get (D := D) (ci := 8) (v := .ref ((g 0) 3)) (C := RX12) (T := TX12) (N := 15) hx hb hUX12 (fun _ h9 => h9) hown hK hP 0 rfl rfl 11 (by decide) (hts (Cond.fieldLink RX12 82 "ReliefBuilder" "reportBytes" "[B") (List.mem_of_getElem? (i := 2) rfl)) (fun _ h9 => h9) rfl dX12_writeByte_13 ?_
    refine lv_aload_n hx hb dX12_writeByte_16 rfl (lv_at hl 0 rfl) ?_
    refine va_get (D := D) (ci := 8) (v := .int (os_I o_this 12)) (C := RX12) (T := TX12) (N := 15) hx hb hUX12 (fun _ h9 => h9) hown hK hP 0 rfl rfl 12 (by decide) (hts (Cond.fieldLink RX12 426 "ReliefBuilder" "reportLength" "I") (List.mem_of_getElem? (i := 1) rfl)) (fun _ h9 => h9) rfl dX12_writeByte_17 ?_
    refine lv_iload_n hx hb dX12_writeByte_20 rfl (lv_at hl 1 rfl) ?_
    refine lv_i2b hx hb dX12_writeByte_21 rfl ?_
    obtain ⟨hi_2, hf⟩ := os_if hf
    refine va_bast hx hb hK hP hD hS 3 2 rfl rfl hi_2 dX12_writeByte_22 (fun H locs hP hD hS => ?_)
    have hP : va_P D vwCl (ce_X12 kA g (ss_A o_this 1 (upd (os_A o_this 1) (Int32.toNatClampNeg (os_I o_this 12)) (vp_nar .byte ((Int32.toInt8 a1).toInt32))))) H := hP
    have hD : va_D A (ce_X12 kA g (ss_A o_this 1 (upd (os_A o_this 1) (Int32.toNatClampNeg (os_I o_this 12)) (vp_nar .byte ((Int32.toInt8 a1).toInt32))))) := hD
    refine lv_aload_n hx hb dX12_writeByte_23 rfl (lv_at hl 0 rfl) ?_
    refine lv_dup hx hb dX12_writeByte_24 rfl ?_
    refine va_get (D := D) (ci := 8) (v := .int (os_I o_this 12)) (C := RX12) (T := TX12) (N := 15) hx hb hUX12 (fun _ h9 => h9) hown hK hP 0 rfl rfl 12 (by decide) (hts (Cond.fieldLink RX12 426 "ReliefBuilder" "reportLength" "I") (List.mem_of_getElem? (i := 1) rfl)) (fun _ h9 => h9) rfl dX12_writeByte_25 ?_
    refine lv_iconst (v := 1) hx hb dX12_writeByte_28 (by decide) ?_
    refine lv_iadd hx hb dX12_writeByte_29 ?_
    refine va_put (D := D) (ci := 8) (v := .int ((os_I o_this 12) + (1 : Int32))) (ty := .int) (C := RX12) (T := TX12) (N := 15) hx hb hUX12 (fun _ h9 => h9) tyX12 tyX12_ok nmX12 hown hK hP hD hS 0 rfl rfl 12 (by decide) (hts (Cond.fieldLink RX12 426 "ReliefBuilder" "reportLength" "I") (List.mem_of_getElem? (i := 1) rfl)) (fun _ h9 => h9) rfl (tyX12_ok 12 (by decide)) rfl rfl (Nat.le_of_ble_eq_true rfl) dX12_writeByte_30 (fun H locs hP hD hS => ?_)
    have hP : va_P D vwCl (ce_X12 kA g (ss_I (ss_A o_this 1 (upd (os_A o_this 1) (Int32.toNatClampNeg (os_I o_this 12)) (vp_nar .byte ((Int32.toInt8 a1).toInt32)))) 12 ((os_I o_this 12) + (1 : Int32)))) H := hP
    have hD : va_D A (ce_X12 kA g (ss_I (ss_A o_this 1 (upd (os_A o_this 1) (Int32.toNatClampNeg (os_I o_this 12)) (vp_nar .byte ((Int32.toInt8 a1).toInt32)))) 12 ((os_I o_this 12) + (1 : Int32)))) := hD
    rw [← Option.some.inj hf]
    exact mc_retv hx hb hr hlk hP hK hD hS dX12_writeByte_33
def ff_X12_writeNumber_b17 (N : Nat) (o_this : os_T) (x1 : Int32) : Option os_T :=
  ((ff_X12_writeByte N o_this ((48 : Int32) + (x1 - x1 / (10 : Int32) * (10 : Int32)))).bind fun u_4 => some u_4)
def ff_X12_writeNumber (N : Nat) (o_this : os_T) (a1 : Int32) : Option os_T :=
  (if a1 < (10 : Int32) then ff_X12_writeNumber_b17 N o_this a1 else ((ff_X12_writeByte N o_this ((48 : Int32) + (a1 / (10 : Int32)))).bind fun u_2 => ff_X12_writeNumber_b17 N u_2 a1))
set_option maxHeartbeats 4000000 in
set_option maxRecDepth 100000 in
theorem mm_X12_writeNumber (l : Launch) (D : va_G) (kA : Nat → ClassId) (N : Nat) (g : Nat → Nat → Nat) (o_this : os_T) (a1 : Int32) (out : os_T) (hf : ff_X12_writeNumber N o_this a1 = some out) : mc_C l D kA yX12_writeNumber wsX12_writeNumber ({ frames := 1, cells := 0, slots := 0, locals := 21 } : Room) [.ref ((g 0) 0), .int a1] (ce_X12 kA g o_this) none (ce_X12 kA g out) := by
  refine mc_of (cc := cX12_writeNumber) (maxL := 2) (ret := none) (by decide) rfl (Nat.le_of_ble_eq_true rfl) ?_
  intro p e s m below meth c A B hD hP hS ls hl
  obtain ⟨hx, hb, hr, hlk, hml, hown, hts, hK, hA, hnm⟩ := B
  have hown : s.vm.findClass RX12 = some m.cls := hown
  have hl : lv_has ls 2 [(0, .ref ((g 0) 0)), (1, .int a1)] := hl
  have hB17 : ∀ (o_this : os_T) (x1 : Int32) (H : Heap) (locs : List Loc) (ls : Array Slot), va_P D vwCl (ce_X12 kA g o_this) H → va_D A (ce_X12 kA g o_this) → va_S A s.heap H locs → lv_has ls 2 [(0, .ref ((g 0) 0)), (1, .int x1)] → ff_X12_writeNumber_b17 N o_this x1 = some out → W p l e ({ frames := 1, cells := 0, slots := 0, locals := 21 } : Room) s m [.ref ((g 0) 0), .int a1].toArray below meth c H locs 0 0 (MQ below (mc_Q D kA A none (ce_X12 kA g out)) [.ref ((g 0) 0), .int a1].toArray s 0 0 A) (F0 m 17 ls []) := by
    intro o_this x1 H locs ls hP hD hS hl hf
    unfold ff_X12_writeNumber_b17 at hf
    refine lv_aload_n hx hb dX12_writeNumber_17 rfl (lv_at hl 0 rfl) ?_
    refine lv_bipush (v := 48) hx hb dX12_writeNumber_18 (by decide) ?_
    refine lv_iload_n hx hb dX12_writeNumber_20 rfl (lv_at hl 1 rfl) ?_
    refine lv_bipush (v := 10) hx hb dX12_writeNumber_21 (by decide) ?_
    refine lv_irem hx hb dX12_writeNumber_23 (by decide) ?_
    refine lv_iadd hx hb dX12_writeNumber_24 ?_
    obtain ⟨u_4, he_5, hf⟩ := os_bd hf
    refine mc_callV ⟨hx, hb, hml, hown, hts⟩ (mm_X12_writeByte l D kA N g o_this ((48 : Int32) + (x1 - x1 / (10 : Int32) * (10 : Int32))) u_4 he_5) (cwV 1 hts gX12_writeNumber_X12_writeByte rfl rfl rfl (by decide +kernel) ⟨Nat.le_of_ble_eq_true rfl, Nat.le_of_ble_eq_true rfl⟩) (wc := (ce_X12 kA g o_this)) (ci := 8) (q0 := 0) rfl rfl rfl hl.1 (As := [.int ((48 : Int32) + (x1 - x1 / (10 : Int32) * (10 : Int32)))]) (rest := []) rfl (Nat.le_of_ble_eq_true rfl) dX12_writeNumber_25 ⟨Nat.le_of_ble_eq_true rfl, Nat.le_of_ble_eq_true rfl⟩ hK hP hD hS hA [0, 1, 2, 3] [] [0, 1, 2, 3] rfl (by decide) rfl (by decide) (by decide) rfl (by decide) (wr := []) (w2 := (ce_X12 kA g u_4)) (fun H locs hP hD hS => ?_)
    have hP : va_P D vwCl (ce_X12 kA g u_4) H := hP
    rw [← Option.some.inj hf]
    exact mc_retv hx hb hr hlk hP hK hD hS dX12_writeNumber_28
  unfold ff_X12_writeNumber at hf
  refine lv_iload_n hx hb dX12_writeNumber_0 rfl (lv_at hl 1 rfl) ?_
  refine lv_bipush (v := 10) hx hb dX12_writeNumber_1 (by decide) ?_
  refine lv_icmp_lt (tgt := 17) hx hb dX12_writeNumber_3 (by decide) (fun hc_1 => ?_) (fun hc_1 => ?_)
  · rw [if_pos hc_1] at hf
    exact hB17 o_this a1 _ _ _ hP hD hS (lv_sub hl [0, 1] rfl) hf
  · rw [if_neg hc_1] at hf
    refine lv_aload_n hx hb dX12_writeNumber_6 rfl (lv_at hl 0 rfl) ?_
    refine lv_bipush (v := 48) hx hb dX12_writeNumber_7 (by decide) ?_
    refine lv_iload_n hx hb dX12_writeNumber_9 rfl (lv_at hl 1 rfl) ?_
    refine lv_bipush (v := 10) hx hb dX12_writeNumber_10 (by decide) ?_
    refine lv_idiv hx hb dX12_writeNumber_12 (by decide) ?_
    refine lv_iadd hx hb dX12_writeNumber_13 ?_
    obtain ⟨u_2, he_3, hf⟩ := os_bd hf
    refine mc_callV ⟨hx, hb, hml, hown, hts⟩ (mm_X12_writeByte l D kA N g o_this ((48 : Int32) + (a1 / (10 : Int32))) u_2 he_3) (cwV 1 hts gX12_writeNumber_X12_writeByte rfl rfl rfl (by decide +kernel) ⟨Nat.le_of_ble_eq_true rfl, Nat.le_of_ble_eq_true rfl⟩) (wc := (ce_X12 kA g o_this)) (ci := 8) (q0 := 0) rfl rfl rfl hl.1 (As := [.int ((48 : Int32) + (a1 / (10 : Int32)))]) (rest := []) rfl (Nat.le_of_ble_eq_true rfl) dX12_writeNumber_14 ⟨Nat.le_of_ble_eq_true rfl, Nat.le_of_ble_eq_true rfl⟩ hK hP hD hS hA [0, 1, 2, 3] [] [0, 1, 2, 3] rfl (by decide) rfl (by decide) (by decide) rfl (by decide) (wr := []) (w2 := (ce_X12 kA g u_2)) (fun H locs hP hD hS => ?_)
    have hP : va_P D vwCl (ce_X12 kA g u_2) H := hP
    exact hB17 u_2 a1 _ _ _ hP hD hS (lv_sub hl [0, 1] rfl) hf
def ff_X12_report_b42 (N : Nat) (o_this_panel : os_T) (k15 : (os_T × Int32) → Option (Int32 × os_T)) (k21 : (os_T × Int32 × Int32) → Option (Int32 × os_T)) (o_this : os_T) (x1 : Int32) (x2 : Int32) : Option (Int32 × os_T) :=
  ((ff_X5_heightAt N o_this_panel x2 x1).bind fun u_8 => ((ff_X12_writeNumber N o_this u_8).bind fun u_10 => k21 (u_10, x1, x2 + 1)))
def ff_X12_report_c21 (N : Nat) (o_this_panel : os_T) (k15 : (os_T × Int32) → Option (Int32 × os_T)) (k21 : (os_T × Int32 × Int32) → Option (Int32 × os_T)) (o_this : os_T) (x1 : Int32) (x2 : Int32) : Option (Int32 × os_T) :=
  (if (os_I o_this_panel 0) ≤ x2 then ((ff_X12_writeByte N o_this (10 : Int32)).bind fun u_3 => k15 (u_3, x1 + (-1))) else (if x2 ≤ 0 then ff_X12_report_b42 N o_this_panel k15 k21 o_this x1 x2 else ((ff_X12_writeByte N o_this (32 : Int32)).bind fun u_6 => ff_X12_report_b42 N o_this_panel k15 k21 u_6 x1 x2)))
def ff_X12_report_l21 (N : Nat) (o_this_panel : os_T) (k15 : (os_T × Int32) → Option (Int32 × os_T)) : Nat → (os_T × Int32 × Int32) → Option (Int32 × os_T) := os_loop (fun k21 s1 => ff_X12_report_c21 N o_this_panel k15 k21 s1.1 s1.2.1 s1.2.2)
def ff_X12_report_c15 (N : Nat) (o_this_panel : os_T) (k15 : (os_T × Int32) → Option (Int32 × os_T)) (o_this : os_T) (x1 : Int32) : Option (Int32 × os_T) :=
  (if x1 < 0 then some (os_I o_this 12, o_this) else ff_X12_report_l21 N o_this_panel k15 N (o_this, x1, (0 : Int32)))
def ff_X12_report_l15 (N : Nat) (o_this_panel : os_T) : Nat → (os_T × Int32) → Option (Int32 × os_T) := os_loop (fun k15 s1 => ff_X12_report_c15 N o_this_panel k15 s1.1 s1.2)
def ff_X12_report (N : Nat) (o_this : os_T) (o_this_panel : os_T) : Option (Int32 × os_T) :=
  ff_X12_report_l15 N o_this_panel N (ss_I o_this 12 (0 : Int32), (os_I o_this_panel 1) - (1 : Int32))
set_option maxHeartbeats 4000000 in
set_option maxRecDepth 100000 in
theorem mm_X12_report (l : Launch) (D : va_G) (kA : Nat → ClassId) (N : Nat) (g : Nat → Nat → Nat) (o_this : os_T) (o_this_panel : os_T) (out : (Int32 × os_T)) (hf : ff_X12_report N o_this o_this_panel = some out) : mc_C l D kA yX12_report wsX12_report ({ frames := 2, cells := 0, slots := 0, locals := 42 } : Room) [.ref ((g 0) 0)] (ce_X12 kA g o_this ++ (ce_X5 kA (g 1) o_this_panel)) (some (.int out.1)) (ce_X12 kA g out.2 ++ (ce_X5 kA (g 1) o_this_panel)) := by
  refine mc_of (cc := cX12_report) (maxL := 3) (ret := (some .int)) (by decide) rfl (Nat.le_of_ble_eq_true rfl) ?_
  intro p e s m below meth c A B hD hP hS ls hl
  obtain ⟨hx, hb, hr, hlk, hml, hown, hts, hK, hA, hnm⟩ := B
  have hown : s.vm.findClass RX12 = some m.cls := hown
  have hl : lv_has ls 3 [(0, .ref ((g 0) 0))] := hl
  have hUX12 : ∀ w ∈ u_ws RX12 TX12 15, w.before [.ref ((g 0) 0)].toArray s = true := fun w h => hts w (List.mem_cons_of_mem _ (List.mem_append_left _ (List.mem_append_right _ h)))
  have hUX5 : ∀ w ∈ u_ws RX5 TX5 10, w.before [.ref ((g 0) 0)].toArray s = true := fun w h => hts w (List.mem_cons_of_mem _ (List.mem_append_right _ h))
  have hB42 : ∀ (k15 : (os_T × Int32) → Option (Int32 × os_T)), (∀ (o_this : os_T) (x1 : Int32) (H : Heap) (locs : List Loc) (ls : Array Slot), va_P D vwCl (ce_X12 kA g o_this ++ (ce_X5 kA (g 1) o_this_panel)) H → va_D A (ce_X12 kA g o_this ++ (ce_X5 kA (g 1) o_this_panel)) → va_S A s.heap H locs → lv_has ls 3 [(0, .ref ((g 0) 0)), (1, .int x1)] → k15 (o_this, x1) = some out → W p l e ({ frames := 2, cells := 0, slots := 0, locals := 42 } : Room) s m [.ref ((g 0) 0)].toArray below meth c H locs 0 0 (MQ below (mc_Q D kA A (some (.int out.1)) (ce_X12 kA g out.2 ++ (ce_X5 kA (g 1) o_this_panel))) [.ref ((g 0) 0)].toArray s 0 0 A) (F0 m 15 ls [])) → ∀ (k21 : (os_T × Int32 × Int32) → Option (Int32 × os_T)), (∀ (o_this : os_T) (x1 : Int32) (x2 : Int32) (H : Heap) (locs : List Loc) (ls : Array Slot), va_P D vwCl (ce_X12 kA g o_this ++ (ce_X5 kA (g 1) o_this_panel)) H → va_D A (ce_X12 kA g o_this ++ (ce_X5 kA (g 1) o_this_panel)) → va_S A s.heap H locs → lv_has ls 3 [(0, .ref ((g 0) 0)), (1, .int x1), (2, .int x2)] → k21 (o_this, x1, x2) = some out → W p l e ({ frames := 2, cells := 0, slots := 0, locals := 42 } : Room) s m [.ref ((g 0) 0)].toArray below meth c H locs 0 0 (MQ below (mc_Q D kA A (some (.int out.1)) (ce_X12 kA g out.2 ++ (ce_X5 kA (g 1) o_this_panel))) [.ref ((g 0) 0)].toArray s 0 0 A) (F0 m 21 ls [])) → ∀ (o_this : os_T) (x1 : Int32) (x2 : Int32) (H : Heap) (locs : List Loc) (ls : Array Slot), va_P D vwCl (ce_X12 kA g o_this ++ (ce_X5 kA (g 1) o_this_panel)) H → va_D A (ce_X12 kA g o_this ++ (ce_X5 kA (g 1) o_this_panel)) → va_S A s.heap H locs → lv_has ls 3 [(0, .ref ((g 0) 0)), (1, .int x1), (2, .int x2)] → ff_X12_report_b42 N o_this_panel k15 k21 o_this x1 x2 = some out → W p l e ({ frames := 2, cells := 0, slots := 0, locals := 42 } : Room) s m [.ref ((g 0) 0)].toArray below meth c H locs 0 0 (MQ below (mc_Q D kA A (some (.int out.1)) (ce_X12 kA g out.2 ++ (ce_X5 kA (g 1) o_this_panel))) [.ref ((g 0) 0)].toArray s 0 0 A) (F0 m 42 ls []) := by
    intro k15 hk15 k21 hk21 o_this x1 x2 H locs ls hP hD hS hl hf
    unfold ff_X12_report_b42 at hf
    refine lv_aload_n hx hb dX12_report_42 rfl (lv_at hl 0 rfl) ?_
    refine lv_aload_n hx hb dX12_report_43 rfl (lv_at hl 0 rfl) ?_
    refine va_get (D := D) (ci := 8) (v := .ref ((g 1) 0)) (C := RX12) (T := TX12) (N := 15) hx hb hUX12 (fun _ h9 => h9) hown hK hP 0 rfl rfl 0 (by decide) (hts (Cond.fieldLink RX12 12 "ReliefBuilder" "panel" "LReliefBuilder$Panel;") (List.mem_of_getElem? (i := 2) rfl)) (fun _ h9 => h9) rfl dX12_report_44 ?_
    refine lv_iload_n hx hb dX12_report_47 rfl (lv_at hl 2 rfl) ?_
    refine lv_iload_n hx hb dX12_report_48 rfl (lv_at hl 1 rfl) ?_
    obtain ⟨u_8, he_9, hf⟩ := os_bd hf
    refine mc_callV ⟨hx, hb, hml, hown, hts⟩ (mm_X5_heightAt l D kA N (g 1) o_this_panel x2 x1 u_8 he_9) (cwV 2 hts gX12_report_X5_heightAt rfl rfl rfl (by decide +kernel) ⟨Nat.le_of_ble_eq_true rfl, Nat.le_of_ble_eq_true rfl⟩) (wc := (ce_X5 kA (g 1) o_this_panel)) (ci := 2) (q0 := 0) rfl rfl rfl hl.1 (As := [.int x2, .int x1]) (rest := [.ref ((g 0) 0)]) rfl (Nat.le_of_ble_eq_true rfl) dX12_report_49 ⟨Nat.le_of_ble_eq_true rfl, Nat.le_of_ble_eq_true rfl⟩ hK hP hD hS hA [4, 5, 6, 7] [0, 1, 2, 3] [0, 1, 2, 3, 4, 5, 6, 7] rfl (by decide) rfl (by decide) (by decide) rfl (by decide) (wr := (ce_X12 kA g o_this)) (w2 := (ce_X12 kA g o_this ++ (ce_X5 kA (g 1) o_this_panel))) (fun H locs hP hD hS => ?_)
    have hP : va_P D vwCl (ce_X12 kA g o_this ++ (ce_X5 kA (g 1) o_this_panel)) H := hP
    obtain ⟨u_10, he_11, hf⟩ := os_bd hf
    refine mc_callV ⟨hx, hb, hml, hown, hts⟩ (mm_X12_writeNumber l D kA N g o_this u_8 u_10 he_11) (cwV 1 hts gX12_report_X12_writeNumber rfl rfl rfl (by decide +kernel) ⟨Nat.le_of_ble_eq_true rfl, Nat.le_of_ble_eq_true rfl⟩) (wc := (ce_X12 kA g o_this)) (ci := 8) (q0 := 0) rfl rfl rfl hl.1 (As := [.int u_8]) (rest := []) rfl (Nat.le_of_ble_eq_true rfl) dX12_report_52 ⟨Nat.le_of_ble_eq_true rfl, Nat.le_of_ble_eq_true rfl⟩ hK hP hD hS hA [0, 1, 2, 3] [4, 5, 6, 7] [4, 5, 6, 7, 0, 1, 2, 3] rfl (by decide) rfl (by decide) (by decide) rfl (by decide) (wr := (ce_X5 kA (g 1) o_this_panel)) (w2 := (ce_X12 kA g u_10 ++ (ce_X5 kA (g 1) o_this_panel))) (fun H locs hP hD hS => ?_)
    have hP : va_P D vwCl (ce_X12 kA g u_10 ++ (ce_X5 kA (g 1) o_this_panel)) H := hP
    refine lv_iinc (v := x2 + 1) (lv' := [(2, .int (x2 + 1)), (0, .ref ((g 0) 0)), (1, .int x1)]) hx hb dX12_report_55 hl (k := 2) rfl rfl (by decide) rfl (fun ls hl => ?_)
    refine lv_goto (tgt := 21) hx hb dX12_report_58 (by decide) ?_
    exact hk21 u_10 x1 (x2 + 1) _ _ _ hP hD hS (lv_sub hl [1, 2, 0] rfl) hf
  have hL21 : ∀ (k15 : (os_T × Int32) → Option (Int32 × os_T)), (∀ (o_this : os_T) (x1 : Int32) (H : Heap) (locs : List Loc) (ls : Array Slot), va_P D vwCl (ce_X12 kA g o_this ++ (ce_X5 kA (g 1) o_this_panel)) H → va_D A (ce_X12 kA g o_this ++ (ce_X5 kA (g 1) o_this_panel)) → va_S A s.heap H locs → lv_has ls 3 [(0, .ref ((g 0) 0)), (1, .int x1)] → k15 (o_this, x1) = some out → W p l e ({ frames := 2, cells := 0, slots := 0, locals := 42 } : Room) s m [.ref ((g 0) 0)].toArray below meth c H locs 0 0 (MQ below (mc_Q D kA A (some (.int out.1)) (ce_X12 kA g out.2 ++ (ce_X5 kA (g 1) o_this_panel))) [.ref ((g 0) 0)].toArray s 0 0 A) (F0 m 15 ls [])) → ∀ (n : Nat) (o_this : os_T) (x1 : Int32) (x2 : Int32) (H : Heap) (locs : List Loc) (ls : Array Slot), va_P D vwCl (ce_X12 kA g o_this ++ (ce_X5 kA (g 1) o_this_panel)) H → va_D A (ce_X12 kA g o_this ++ (ce_X5 kA (g 1) o_this_panel)) → va_S A s.heap H locs → lv_has ls 3 [(0, .ref ((g 0) 0)), (1, .int x1), (2, .int x2)] → ff_X12_report_l21 N o_this_panel k15 n (o_this, x1, x2) = some out → W p l e ({ frames := 2, cells := 0, slots := 0, locals := 42 } : Room) s m [.ref ((g 0) 0)].toArray below meth c H locs 0 0 (MQ below (mc_Q D kA A (some (.int out.1)) (ce_X12 kA g out.2 ++ (ce_X5 kA (g 1) o_this_panel))) [.ref ((g 0) 0)].toArray s 0 0 A) (F0 m 21 ls []) := by
    intro k15 hk15 n
    induction n with
    | zero => intro o_this x1 x2 H locs ls _ _ _ _ hf; cases hf
    | succ n hk21 =>
      intro o_this x1 x2 H locs ls hP hD hS hl hf
      have hf : ff_X12_report_c21 N o_this_panel k15 (ff_X12_report_l21 N o_this_panel k15 n) o_this x1 x2 = some out := hf
      generalize hke : ff_X12_report_l21 N o_this_panel k15 n = k21 at hk21 hf
      unfold ff_X12_report_c21 at hf
      refine lv_iload_n hx hb dX12_report_21 rfl (lv_at hl 2 rfl) ?_
      refine lv_aload_n hx hb dX12_report_22 rfl (lv_at hl 0 rfl) ?_
      refine va_get (D := D) (ci := 8) (v := .ref ((g 1) 0)) (C := RX12) (T := TX12) (N := 15) hx hb hUX12 (fun _ h9 => h9) hown hK hP 0 rfl rfl 0 (by decide) (hts (Cond.fieldLink RX12 12 "ReliefBuilder" "panel" "LReliefBuilder$Panel;") (List.mem_of_getElem? (i := 2) rfl)) (fun _ h9 => h9) rfl dX12_report_23 ?_
      refine va_get (D := D) (ci := 2) (v := .int (os_I o_this_panel 0)) (C := RX5) (T := TX5) (N := 10) hx hb hUX5 (fun _ h9 => h9) hown hK hP 4 rfl rfl 0 (by decide) (hts (Cond.fieldLink RX12 247 "ReliefBuilder$Panel" "width" "I") (List.mem_of_getElem? (i := 4) rfl)) (fun _ h9 => h9) rfl dX12_report_26 ?_
      refine lv_icmp_ge (tgt := 61) hx hb dX12_report_29 (by decide) (fun hc_2 => ?_) (fun hc_2 => ?_)
      · rw [if_pos hc_2] at hf
        refine lv_aload_n hx hb dX12_report_61 rfl (lv_at hl 0 rfl) ?_
        refine lv_bipush (v := 10) hx hb dX12_report_62 (by decide) ?_
        obtain ⟨u_3, he_4, hf⟩ := os_bd hf
        refine mc_callV ⟨hx, hb, hml, hown, hts⟩ (mm_X12_writeByte l D kA N g o_this (10 : Int32) u_3 he_4) (cwV 1 hts gX12_report_X12_writeByte rfl rfl rfl (by decide +kernel) ⟨Nat.le_of_ble_eq_true rfl, Nat.le_of_ble_eq_true rfl⟩) (wc := (ce_X12 kA g o_this)) (ci := 8) (q0 := 0) rfl rfl rfl hl.1 (As := [.int (10 : Int32)]) (rest := []) rfl (Nat.le_of_ble_eq_true rfl) dX12_report_64 ⟨Nat.le_of_ble_eq_true rfl, Nat.le_of_ble_eq_true rfl⟩ hK hP hD hS hA [0, 1, 2, 3] [4, 5, 6, 7] [4, 5, 6, 7, 0, 1, 2, 3] rfl (by decide) rfl (by decide) (by decide) rfl (by decide) (wr := (ce_X5 kA (g 1) o_this_panel)) (w2 := (ce_X12 kA g u_3 ++ (ce_X5 kA (g 1) o_this_panel))) (fun H locs hP hD hS => ?_)
        have hP : va_P D vwCl (ce_X12 kA g u_3 ++ (ce_X5 kA (g 1) o_this_panel)) H := hP
        refine lv_iinc (v := x1 + (-1)) (lv' := [(1, .int (x1 + (-1))), (0, .ref ((g 0) 0)), (2, .int x2)]) hx hb dX12_report_67 hl (k := 1) rfl rfl (by decide) rfl (fun ls hl => ?_)
        refine lv_goto (tgt := 15) hx hb dX12_report_70 (by decide) ?_
        exact hk15 u_3 (x1 + (-1)) _ _ _ hP hD hS (lv_sub hl [1, 0] rfl) hf
      · rw [if_neg hc_2] at hf
        refine lv_iload_n hx hb dX12_report_32 rfl (lv_at hl 2 rfl) ?_
        refine lv_if_le (tgt := 42) hx hb dX12_report_33 (by decide) (fun hc_5 => ?_) (fun hc_5 => ?_)
        · rw [if_pos hc_5] at hf
          exact hB42 k15 hk15 k21 hk21 o_this x1 x2 _ _ _ hP hD hS (lv_sub hl [0, 1, 2] rfl) hf
        · rw [if_neg hc_5] at hf
          refine lv_aload_n hx hb dX12_report_36 rfl (lv_at hl 0 rfl) ?_
          refine lv_bipush (v := 32) hx hb dX12_report_37 (by decide) ?_
          obtain ⟨u_6, he_7, hf⟩ := os_bd hf
          refine mc_callV ⟨hx, hb, hml, hown, hts⟩ (mm_X12_writeByte l D kA N g o_this (32 : Int32) u_6 he_7) (cwV 1 hts gX12_report_X12_writeByte rfl rfl rfl (by decide +kernel) ⟨Nat.le_of_ble_eq_true rfl, Nat.le_of_ble_eq_true rfl⟩) (wc := (ce_X12 kA g o_this)) (ci := 8) (q0 := 0) rfl rfl rfl hl.1 (As := [.int (32 : Int32)]) (rest := []) rfl (Nat.le_of_ble_eq_true rfl) dX12_report_39 ⟨Nat.le_of_ble_eq_true rfl, Nat.le_of_ble_eq_true rfl⟩ hK hP hD hS hA [0, 1, 2, 3] [4, 5, 6, 7] [4, 5, 6, 7, 0, 1, 2, 3] rfl (by decide) rfl (by decide) (by decide) rfl (by decide) (wr := (ce_X5 kA (g 1) o_this_panel)) (w2 := (ce_X12 kA g u_6 ++ (ce_X5 kA (g 1) o_this_panel))) (fun H locs hP hD hS => ?_)
          have hP : va_P D vwCl (ce_X12 kA g u_6 ++ (ce_X5 kA (g 1) o_this_panel)) H := hP
          exact hB42 k15 hk15 k21 hk21 u_6 x1 x2 _ _ _ hP hD hS (lv_sub hl [0, 1, 2] rfl) hf
  have hL15 : ∀ (n : Nat) (o_this : os_T) (x1 : Int32) (H : Heap) (locs : List Loc) (ls : Array Slot), va_P D vwCl (ce_X12 kA g o_this ++ (ce_X5 kA (g 1) o_this_panel)) H → va_D A (ce_X12 kA g o_this ++ (ce_X5 kA (g 1) o_this_panel)) → va_S A s.heap H locs → lv_has ls 3 [(0, .ref ((g 0) 0)), (1, .int x1)] → ff_X12_report_l15 N o_this_panel n (o_this, x1) = some out → W p l e ({ frames := 2, cells := 0, slots := 0, locals := 42 } : Room) s m [.ref ((g 0) 0)].toArray below meth c H locs 0 0 (MQ below (mc_Q D kA A (some (.int out.1)) (ce_X12 kA g out.2 ++ (ce_X5 kA (g 1) o_this_panel))) [.ref ((g 0) 0)].toArray s 0 0 A) (F0 m 15 ls []) := by
    intro n
    induction n with
    | zero => intro o_this x1 H locs ls _ _ _ _ hf; cases hf
    | succ n hk15 =>
      intro o_this x1 H locs ls hP hD hS hl hf
      have hf : ff_X12_report_c15 N o_this_panel (ff_X12_report_l15 N o_this_panel n) o_this x1 = some out := hf
      generalize hke : ff_X12_report_l15 N o_this_panel n = k15 at hk15 hf
      unfold ff_X12_report_c15 at hf
      refine lv_iload_n hx hb dX12_report_15 rfl (lv_at hl 1 rfl) ?_
      refine lv_if_lt (tgt := 73) hx hb dX12_report_16 (by decide) (fun hc_1 => ?_) (fun hc_1 => ?_)
      · rw [if_pos hc_1] at hf
        refine lv_aload_n hx hb dX12_report_73 rfl (lv_at hl 0 rfl) ?_
        refine va_get (D := D) (ci := 8) (v := .int (os_I o_this 12)) (C := RX12) (T := TX12) (N := 15) hx hb hUX12 (fun _ h9 => h9) hown hK hP 0 rfl rfl 12 (by decide) (hts (Cond.fieldLink RX12 426 "ReliefBuilder" "reportLength" "I") (List.mem_of_getElem? (i := 1) rfl)) (fun _ h9 => h9) rfl dX12_report_74 ?_
        rw [← Option.some.inj hf]
        exact mc_reti hx hb hr hlk hP hK hD hS dX12_report_77
      · rw [if_neg hc_1] at hf
        refine lv_iconst (v := 0) hx hb dX12_report_19 (by decide) ?_
        refine lv_istore_n (lv' := [(2, .int (0 : Int32)), (0, .ref ((g 0) 0)), (1, .int x1)]) hx hb dX12_report_20 rfl hl (by decide) rfl (fun ls hl => ?_)
        exact hL21 k15 hk15 N o_this x1 (0 : Int32) _ _ _ hP hD hS (lv_sub hl [1, 2, 0] rfl) hf
  unfold ff_X12_report at hf
  refine lv_aload_n hx hb dX12_report_0 rfl (lv_at hl 0 rfl) ?_
  refine lv_iconst (v := 0) hx hb dX12_report_1 (by decide) ?_
  refine va_put (D := D) (ci := 8) (v := .int (0 : Int32)) (ty := .int) (C := RX12) (T := TX12) (N := 15) hx hb hUX12 (fun _ h9 => h9) tyX12 tyX12_ok nmX12 hown hK hP hD hS 0 rfl rfl 12 (by decide) (hts (Cond.fieldLink RX12 426 "ReliefBuilder" "reportLength" "I") (List.mem_of_getElem? (i := 1) rfl)) (fun _ h9 => h9) rfl (tyX12_ok 12 (by decide)) rfl rfl (Nat.le_of_ble_eq_true rfl) dX12_report_2 (fun H locs hP hD hS => ?_)
  have hP : va_P D vwCl (ce_X12 kA g (ss_I o_this 12 (0 : Int32)) ++ (ce_X5 kA (g 1) o_this_panel)) H := hP
  have hD : va_D A (ce_X12 kA g (ss_I o_this 12 (0 : Int32)) ++ (ce_X5 kA (g 1) o_this_panel)) := hD
  refine lv_aload_n hx hb dX12_report_5 rfl (lv_at hl 0 rfl) ?_
  refine va_get (D := D) (ci := 8) (v := .ref ((g 1) 0)) (C := RX12) (T := TX12) (N := 15) hx hb hUX12 (fun _ h9 => h9) hown hK hP 0 rfl rfl 0 (by decide) (hts (Cond.fieldLink RX12 12 "ReliefBuilder" "panel" "LReliefBuilder$Panel;") (List.mem_of_getElem? (i := 2) rfl)) (fun _ h9 => h9) rfl dX12_report_6 ?_
  refine va_get (D := D) (ci := 2) (v := .int (os_I o_this_panel 1)) (C := RX5) (T := TX5) (N := 10) hx hb hUX5 (fun _ h9 => h9) hown hK hP 4 rfl rfl 1 (by decide) (hts (Cond.fieldLink RX12 250 "ReliefBuilder$Panel" "rows" "I") (List.mem_of_getElem? (i := 3) rfl)) (fun _ h9 => h9) rfl dX12_report_9 ?_
  refine lv_iconst (v := 1) hx hb dX12_report_12 (by decide) ?_
  refine lv_isub hx hb dX12_report_13 ?_
  refine lv_istore_n (lv' := [(1, .int ((os_I o_this_panel 1) - (1 : Int32))), (0, .ref ((g 0) 0))]) hx hb dX12_report_14 rfl hl (by decide) rfl (fun ls hl => ?_)
  exact hL15 N (ss_I o_this 12 (0 : Int32)) ((os_I o_this_panel 1) - (1 : Int32)) _ _ _ hP hD hS (lv_sub hl [1, 0] rfl) hf
def ff_X12_reportByte_b12 (N : Nat) (o_this : os_T) : Option (Nat × Int32) :=
  some (3, (0 : Int32))
def ff_X12_reportByte (N : Nat) (o_this : os_T) (a1 : Int32) : Option (Nat × Int32) :=
  (if a1 < 0 then ff_X12_reportByte_b12 N o_this else (if a1 < (os_I o_this 12) then (if os_in a1 576 then some (0, (os_A o_this 1) (Int32.toNatClampNeg a1)) else none) else ff_X12_reportByte_b12 N o_this))
set_option maxHeartbeats 4000000 in
set_option maxRecDepth 100000 in
theorem mm_X12_reportByte (l : Launch) (hst : l.stackTraces = false) (zz : Nat → Nat → Nat) (D : va_G) (kA : Nat → ClassId) (N : Nat) (g : Nat → Nat → Nat) (o_this : os_T) (a1 : Int32) (out : (Nat × Int32)) (hf : ff_X12_reportByte N o_this a1 = some out) : mx_C l zz D kA yX12_reportByte wsX12_reportByte ({ frames := 6, cells := 1, slots := 6, locals := 90 } : Room) [.ref ((g 0) 0), .int a1] (ce_X12 kA g o_this) out.1 (some (.int out.2)) (ce_X12 kA g o_this) := by
  refine mx_of (cc := cX12_reportByte) (maxL := 2) (ret := (some .int)) (by decide) rfl (Nat.le_of_ble_eq_true rfl) ?_
  intro p e s m below meth c A B hx0 hZ hD hP hS ls hl
  obtain ⟨hx, hb, hr, hlk, hml, hown, hts, hK, hA, hnm⟩ := B
  have hown : s.vm.findClass RX12 = some m.cls := hown
  have hl : lv_has ls 2 [(0, .ref ((g 0) 0)), (1, .int a1)] := hl
  have hUX12 : ∀ w ∈ u_ws RX12 TX12 15, w.before [.ref ((g 0) 0), .int a1].toArray s = true := fun w h => hts w (List.mem_cons_of_mem _ (List.mem_append_left _ (List.mem_append_right _ h)))
  have hB12 : ∀ (H : Heap) (locs : List Loc) (ls : Array Slot), va_P D vwCl (ce_X12 kA g o_this) H → va_D A (ce_X12 kA g o_this) → va_S A s.heap H locs → lv_has ls 2 [] → ff_X12_reportByte_b12 N o_this = some out → W p l e ({ frames := 6, cells := 1, slots := 6, locals := 90 } : Room) s m [.ref ((g 0) 0), .int a1].toArray below meth c H locs 0 0 (vx_MQ below (mx_Q D kA A out.1 (some (.int out.2)) (ce_X12 kA g o_this)) (mx_X D kA A out.1 (ce_X12 kA g o_this)) [.ref ((g 0) 0), .int a1].toArray s 1 6 A) (F0 m 12 ls []) := by
    intro H locs ls hP hD hS hl hf
    unfold ff_X12_reportByte_b12 at hf
    rw [← Option.some.inj hf]
    exact mx_throw (xc := 3) (own := RX12) (ik := 290) (ic := 292) (by decide) hx hb hst hown (by decide +kernel) (hts (Cond.classLink RX12 290 "java/lang/IndexOutOfBoundsException") (List.mem_of_getElem? (i := 1) rfl)) (hts (Cond.initialized "java/lang/IndexOutOfBoundsException") (List.mem_of_getElem? (i := 2) rfl)) (vx_hat (L := vx_at0 RX12 292 "java/lang/IndexOutOfBoundsException" ["java/lang/RuntimeException", "java/lang/Exception"]) (B := [.declares ⟨"java/lang/RuntimeException", "<init>", "()V"⟩, .declares ⟨"java/lang/Exception", "<init>", "()V"⟩, .declares ⟨"java/lang/Throwable", "<init>", "()V"⟩, .castable "java/lang/IndexOutOfBoundsException" "java/lang/IndexOutOfBoundsException"]) (fun w h => hts w (List.mem_cons_of_mem _ (List.mem_append_right _ h))) (by decide +kernel) (st_bad (xc := 3) hZ.2.2.1.2.2)) (by decide +kernel) hZ hS (hl.1.trans hml.symm) hP hK hD dX12_reportByte_12 dX12_reportByte_15 dX12_reportByte_16 dX12_reportByte_19 hx0 (Nat.le_of_ble_eq_true rfl) (Nat.le_of_ble_eq_true rfl) (Nat.le_of_ble_eq_true rfl) (Nat.le_of_ble_eq_true rfl) hlk (Nat.le_of_ble_eq_true rfl) (Nat.le_of_ble_eq_true rfl)
  unfold ff_X12_reportByte at hf
  refine lv_iload_n hx hb dX12_reportByte_0 rfl (lv_at hl 1 rfl) ?_
  refine lv_if_lt (tgt := 12) hx hb dX12_reportByte_1 (by decide) (fun hc_1 => ?_) (fun hc_1 => ?_)
  · rw [if_pos hc_1] at hf
    exact hB12 _ _ _ hP hD hS (lv_sub hl [] rfl) hf
  · rw [if_neg hc_1] at hf
    refine lv_iload_n hx hb dX12_reportByte_4 rfl (lv_at hl 1 rfl) ?_
    refine lv_aload_n hx hb dX12_reportByte_5 rfl (lv_at hl 0 rfl) ?_
    refine va_get (D := D) (ci := 8) (v := .int (os_I o_this 12)) (C := RX12) (T := TX12) (N := 15) hx hb hUX12 (fun _ h9 => h9) hown hK hP 0 rfl rfl 12 (by decide) (hts (Cond.fieldLink RX12 426 "ReliefBuilder" "reportLength" "I") (List.mem_of_getElem? (i := 3) rfl)) (fun _ h9 => h9) rfl dX12_reportByte_6 ?_
    refine lv_icmp_lt (tgt := 20) hx hb dX12_reportByte_9 (by decide) (fun hc_2 => ?_) (fun hc_2 => ?_)
    · rw [if_pos hc_2] at hf
      refine lv_aload_n hx hb dX12_reportByte_20 rfl (lv_at hl 0 rfl) ?_
      refine va_get (D := D) (ci := 8) (v := .ref ((g 0) 3)) (C := RX12) (T := TX12) (N := 15) hx hb hUX12 (fun _ h9 => h9) hown hK hP 0 rfl rfl 11 (by decide) (hts (Cond.fieldLink RX12 82 "ReliefBuilder" "reportBytes" "[B") (List.mem_of_getElem? (i := 4) rfl)) (fun _ h9 => h9) rfl dX12_reportByte_21 ?_
      refine lv_iload_n hx hb dX12_reportByte_24 rfl (lv_at hl 1 rfl) ?_
      obtain ⟨hi_3, hf⟩ := os_if hf
      refine va_bald hx hb hK hP 3 2 rfl rfl hi_3 dX12_reportByte_25 ?_
      rw [← Option.some.inj hf]
      exact mx_reti (Nat.le_of_ble_eq_true rfl) (Nat.le_of_ble_eq_true rfl) hx hb hr hlk hP hK hD hS dX12_reportByte_26
    · rw [if_neg hc_2] at hf
      exact hB12 _ _ _ hP hD hS (lv_sub hl [] rfl) hf
def ff_X12_undo (N : Nat) (o_this : os_T) (o_this_panel : os_T) (o_this_history : os_T) (o_this_history_panels0 : os_T) (o_this_history_panels1 : os_T) (o_this_history_panels2 : os_T) (o_this_history_panels3 : os_T) (o_this_history_panels4 : os_T) (o_this_history_panels5 : os_T) (o_this_history_panels6 : os_T) : Option (Int32 × os_T × os_T) :=
  ((ff_X3_takeBack N o_this_history o_this_history_panels0 o_this_history_panels1 o_this_history_panels2 o_this_history_panels3 o_this_history_panels4 o_this_history_panels5 o_this_history_panels6 o_this_panel).bind fun u_1 => (if u_1.1 = 0 then some ((-1 : Int32), u_1.2.2, u_1.2.1) else some (os_I u_1.2.1 2, u_1.2.2, u_1.2.1)))
set_option maxHeartbeats 4000000 in
set_option maxRecDepth 100000 in
theorem mm_X12_undo (l : Launch) (D : va_G) (kA : Nat → ClassId) (N : Nat) (g : Nat → Nat → Nat) (o_this : os_T) (o_this_panel : os_T) (o_this_history : os_T) (o_this_history_panels0 : os_T) (o_this_history_panels1 : os_T) (o_this_history_panels2 : os_T) (o_this_history_panels3 : os_T) (o_this_history_panels4 : os_T) (o_this_history_panels5 : os_T) (o_this_history_panels6 : os_T) (out : (Int32 × os_T × os_T)) (hf : ff_X12_undo N o_this o_this_panel o_this_history o_this_history_panels0 o_this_history_panels1 o_this_history_panels2 o_this_history_panels3 o_this_history_panels4 o_this_history_panels5 o_this_history_panels6 = some out) : mc_C l D kA yX12_undo wsX12_undo ({ frames := 4, cells := 0, slots := 0, locals := 124 } : Room) [.ref ((g 0) 0)] (ce_X12 kA g o_this ++ (ce_X5 kA (g 1) o_this_panel ++ (ce_X3 kA (g 5) (fun k => g (6 + k)) o_this_history ++ (ce_X5 kA (g 6) o_this_history_panels0 ++ (ce_X5 kA (g 7) o_this_history_panels1 ++ (ce_X5 kA (g 8) o_this_history_panels2 ++ (ce_X5 kA (g 9) o_this_history_panels3 ++ (ce_X5 kA (g 10) o_this_history_panels4 ++ (ce_X5 kA (g 11) o_this_history_panels5 ++ (ce_X5 kA (g 12) o_this_history_panels6)))))))))) (some (.int out.1)) (ce_X12 kA g o_this ++ (ce_X5 kA (g 1) out.2.1 ++ (ce_X3 kA (g 5) (fun k => g (6 + k)) out.2.2 ++ (ce_X5 kA (g 6) o_this_history_panels0 ++ (ce_X5 kA (g 7) o_this_history_panels1 ++ (ce_X5 kA (g 8) o_this_history_panels2 ++ (ce_X5 kA (g 9) o_this_history_panels3 ++ (ce_X5 kA (g 10) o_this_history_panels4 ++ (ce_X5 kA (g 11) o_this_history_panels5 ++ (ce_X5 kA (g 12) o_this_history_panels6)))))))))) := by
  refine mc_of (cc := cX12_undo) (maxL := 1) (ret := (some .int)) (by decide) rfl (Nat.le_of_ble_eq_true rfl) ?_
  intro p e s m below meth c A B hD hP hS ls hl
  obtain ⟨hx, hb, hr, hlk, hml, hown, hts, hK, hA, hnm⟩ := B
  have hown : s.vm.findClass RX12 = some m.cls := hown
  have hl : lv_has ls 1 [(0, .ref ((g 0) 0))] := hl
  have hUX12 : ∀ w ∈ u_ws RX12 TX12 15, w.before [.ref ((g 0) 0)].toArray s = true := fun w h => hts w (List.mem_cons_of_mem _ (List.mem_append_left _ (List.mem_append_left _ (List.mem_append_right _ h))))
  have hUX3 : ∀ w ∈ u_ws RX3 TX3 3, w.before [.ref ((g 0) 0)].toArray s = true := fun w h => hts w (List.mem_cons_of_mem _ (List.mem_append_left _ (List.mem_append_right _ h)))
  unfold ff_X12_undo at hf
  refine lv_aload_n hx hb dX12_undo_0 rfl (lv_at hl 0 rfl) ?_
  refine va_get (D := D) (ci := 8) (v := .ref ((g 5) 0)) (C := RX12) (T := TX12) (N := 15) hx hb hUX12 (fun _ h9 => h9) hown hK hP 0 rfl rfl 4 (by decide) (hts (Cond.fieldLink RX12 30 "ReliefBuilder" "history" "LReliefBuilder$History;") (List.mem_of_getElem? (i := 1) rfl)) (fun _ h9 => h9) rfl dX12_undo_1 ?_
  refine lv_aload_n hx hb dX12_undo_4 rfl (lv_at hl 0 rfl) ?_
  refine va_get (D := D) (ci := 8) (v := .ref ((g 1) 0)) (C := RX12) (T := TX12) (N := 15) hx hb hUX12 (fun _ h9 => h9) hown hK hP 0 rfl rfl 0 (by decide) (hts (Cond.fieldLink RX12 12 "ReliefBuilder" "panel" "LReliefBuilder$Panel;") (List.mem_of_getElem? (i := 2) rfl)) (fun _ h9 => h9) rfl dX12_undo_5 ?_
  obtain ⟨u_1, he_2, hf⟩ := os_bd hf
  refine mc_callV ⟨hx, hb, hml, hown, hts⟩ (mm_X3_takeBack l D kA N (g 5) (fun k => g (6 + k)) (g 1) o_this_history o_this_history_panels0 o_this_history_panels1 o_this_history_panels2 o_this_history_panels3 o_this_history_panels4 o_this_history_panels5 o_this_history_panels6 o_this_panel u_1 he_2) (cwV 1 hts gX12_undo_X3_takeBack rfl rfl rfl (by decide +kernel) ⟨Nat.le_of_ble_eq_true rfl, Nat.le_of_ble_eq_true rfl⟩) (wc := (ce_X3 kA (g 5) (fun k => g (6 + k)) o_this_history ++ (ce_X5 kA (g 6) o_this_history_panels0 ++ (ce_X5 kA (g 7) o_this_history_panels1 ++ (ce_X5 kA (g 8) o_this_history_panels2 ++ (ce_X5 kA (g 9) o_this_history_panels3 ++ (ce_X5 kA (g 10) o_this_history_panels4 ++ (ce_X5 kA (g 11) o_this_history_panels5 ++ (ce_X5 kA (g 12) o_this_history_panels6 ++ (ce_X5 kA (g 1) o_this_panel)))))))))) (ci := 0) (q0 := 0) rfl rfl rfl hl.1 (As := [.ref ((g 1) 0)]) (rest := []) rfl (Nat.le_of_ble_eq_true rfl) dX12_undo_8 ⟨Nat.le_of_ble_eq_true rfl, Nat.le_of_ble_eq_true rfl⟩ hK hP hD hS hA [8, 9, 10, 11, 12, 13, 14, 15, 16, 17, 18, 19, 20, 21, 22, 23, 24, 25, 26, 27, 28, 29, 30, 31, 32, 33, 34, 35, 36, 37, 4, 5, 6, 7] [0, 1, 2, 3] [0, 1, 2, 3, 34, 35, 36, 37, 4, 5, 6, 7, 8, 9, 10, 11, 12, 13, 14, 15, 16, 17, 18, 19, 20, 21, 22, 23, 24, 25, 26, 27, 28, 29, 30, 31, 32, 33] rfl (by decide) rfl (by decide) (by decide) rfl (by decide) (wr := (ce_X12 kA g o_this)) (w2 := (ce_X12 kA g o_this ++ (ce_X5 kA (g 1) u_1.2.2 ++ (ce_X3 kA (g 5) (fun k => g (6 + k)) u_1.2.1 ++ (ce_X5 kA (g 6) o_this_history_panels0 ++ (ce_X5 kA (g 7) o_this_history_panels1 ++ (ce_X5 kA (g 8) o_this_history_panels2 ++ (ce_X5 kA (g 9) o_this_history_panels3 ++ (ce_X5 kA (g 10) o_this_history_panels4 ++ (ce_X5 kA (g 11) o_this_history_panels5 ++ (ce_X5 kA (g 12) o_this_history_panels6))))))))))) (fun H locs hP hD hS => ?_)
  have hP : va_P D vwCl (ce_X12 kA g o_this ++ (ce_X5 kA (g 1) u_1.2.2 ++ (ce_X3 kA (g 5) (fun k => g (6 + k)) u_1.2.1 ++ (ce_X5 kA (g 6) o_this_history_panels0 ++ (ce_X5 kA (g 7) o_this_history_panels1 ++ (ce_X5 kA (g 8) o_this_history_panels2 ++ (ce_X5 kA (g 9) o_this_history_panels3 ++ (ce_X5 kA (g 10) o_this_history_panels4 ++ (ce_X5 kA (g 11) o_this_history_panels5 ++ (ce_X5 kA (g 12) o_this_history_panels6)))))))))) H := hP
  refine lv_if_eq (tgt := 24) hx hb dX12_undo_11 (by decide) (fun hc_3 => ?_) (fun hc_3 => ?_)
  · rw [if_pos hc_3] at hf
    refine lv_iconst (v := (-1)) hx hb dX12_undo_24 (by decide) ?_
    rw [← Option.some.inj hf]
    exact mc_reti hx hb hr hlk hP hK hD hS dX12_undo_25
  · rw [if_neg hc_3] at hf
    refine lv_aload_n hx hb dX12_undo_14 rfl (lv_at hl 0 rfl) ?_
    refine va_get (D := D) (ci := 8) (v := .ref ((g 5) 0)) (C := RX12) (T := TX12) (N := 15) hx hb hUX12 (fun _ h9 => h9) hown hK hP 0 rfl rfl 4 (by decide) (hts (Cond.fieldLink RX12 30 "ReliefBuilder" "history" "LReliefBuilder$History;") (List.mem_of_getElem? (i := 1) rfl)) (fun _ h9 => h9) rfl dX12_undo_15 ?_
    refine va_get (D := D) (ci := 0) (v := .int (os_I u_1.2.1 2)) (C := RX3) (T := TX3) (N := 3) hx hb hUX3 (fun _ h9 => h9) hown hK hP 8 rfl rfl 2 (by decide) (hts (Cond.fieldLink RX12 439 "ReliefBuilder$History" "count" "I") (List.mem_of_getElem? (i := 3) rfl)) (fun _ h9 => h9) rfl dX12_undo_18 ?_
    refine lv_goto (tgt := 25) hx hb dX12_undo_21 (by decide) ?_
    rw [← Option.some.inj hf]
    exact mc_reti hx hb hr hlk hP hK hD hS dX12_undo_25
def ff_X12_checkSlot_b9 (N : Nat) (o_this : os_T) : Option Nat :=
  some 2
def ff_X12_checkSlot (N : Nat) (o_this : os_T) (a1 : Int32) : Option Nat :=
  (if a1 < 0 then ff_X12_checkSlot_b9 N o_this else (if a1 < (2 : Int32) then some 0 else ff_X12_checkSlot_b9 N o_this))
set_option maxHeartbeats 4000000 in
set_option maxRecDepth 100000 in
theorem mm_X12_checkSlot (l : Launch) (hst : l.stackTraces = false) (zz : Nat → Nat → Nat) (D : va_G) (kA : Nat → ClassId) (N : Nat) (g : Nat → Nat → Nat) (o_this : os_T) (a1 : Int32) (out : Nat) (hf : ff_X12_checkSlot N o_this a1 = some out) : mx_C l zz D kA yX12_checkSlot wsX12_checkSlot ({ frames := 6, cells := 1, slots := 6, locals := 90 } : Room) [.ref ((g 0) 0), .int a1] (ce_X12 kA g o_this) out none (ce_X12 kA g o_this) := by
  refine mx_of (cc := cX12_checkSlot) (maxL := 2) (ret := none) (by decide) rfl (Nat.le_of_ble_eq_true rfl) ?_
  intro p e s m below meth c A B hx0 hZ hD hP hS ls hl
  obtain ⟨hx, hb, hr, hlk, hml, hown, hts, hK, hA, hnm⟩ := B
  have hown : s.vm.findClass RX12 = some m.cls := hown
  have hl : lv_has ls 2 [(0, .ref ((g 0) 0)), (1, .int a1)] := hl
  have hB9 : ∀ (H : Heap) (locs : List Loc) (ls : Array Slot), va_P D vwCl (ce_X12 kA g o_this) H → va_D A (ce_X12 kA g o_this) → va_S A s.heap H locs → lv_has ls 2 [] → ff_X12_checkSlot_b9 N o_this = some out → W p l e ({ frames := 6, cells := 1, slots := 6, locals := 90 } : Room) s m [.ref ((g 0) 0), .int a1].toArray below meth c H locs 0 0 (vx_MQ below (mx_Q D kA A out none (ce_X12 kA g o_this)) (mx_X D kA A out (ce_X12 kA g o_this)) [.ref ((g 0) 0), .int a1].toArray s 1 6 A) (F0 m 9 ls []) := by
    intro H locs ls hP hD hS hl hf
    unfold ff_X12_checkSlot_b9 at hf
    rw [← Option.some.inj hf]
    exact mx_throw (xc := 2) (own := RX12) (ik := 104) (ic := 106) (by decide) hx hb hst hown (by decide +kernel) (hts (Cond.classLink RX12 104 "java/lang/IllegalArgumentException") (List.mem_of_getElem? (i := 1) rfl)) (hts (Cond.initialized "java/lang/IllegalArgumentException") (List.mem_of_getElem? (i := 2) rfl)) (vx_hat (L := vx_at0 RX12 106 "java/lang/IllegalArgumentException" ["java/lang/RuntimeException", "java/lang/Exception"]) (B := [.declares ⟨"java/lang/RuntimeException", "<init>", "()V"⟩, .declares ⟨"java/lang/Exception", "<init>", "()V"⟩, .declares ⟨"java/lang/Throwable", "<init>", "()V"⟩, .castable "java/lang/IllegalArgumentException" "java/lang/IllegalArgumentException"]) (fun w h => hts w (List.mem_cons_of_mem _ (List.mem_append_right _ h))) (by decide +kernel) (st_bad (xc := 2) hZ.2.2.1.2.2)) (by decide +kernel) hZ hS (hl.1.trans hml.symm) hP hK hD dX12_checkSlot_9 dX12_checkSlot_12 dX12_checkSlot_13 dX12_checkSlot_16 hx0 (Nat.le_of_ble_eq_true rfl) (Nat.le_of_ble_eq_true rfl) (Nat.le_of_ble_eq_true rfl) (Nat.le_of_ble_eq_true rfl) hlk (Nat.le_of_ble_eq_true rfl) (Nat.le_of_ble_eq_true rfl)
  unfold ff_X12_checkSlot at hf
  refine lv_iload_n hx hb dX12_checkSlot_0 rfl (lv_at hl 1 rfl) ?_
  refine lv_if_lt (tgt := 9) hx hb dX12_checkSlot_1 (by decide) (fun hc_1 => ?_) (fun hc_1 => ?_)
  · rw [if_pos hc_1] at hf
    exact hB9 _ _ _ hP hD hS (lv_sub hl [] rfl) hf
  · rw [if_neg hc_1] at hf
    refine lv_iload_n hx hb dX12_checkSlot_4 rfl (lv_at hl 1 rfl) ?_
    refine lv_iconst (v := 2) hx hb dX12_checkSlot_5 (by decide) ?_
    refine lv_icmp_lt (tgt := 17) hx hb dX12_checkSlot_6 (by decide) (fun hc_2 => ?_) (fun hc_2 => ?_)
    · rw [if_pos hc_2] at hf
      rw [← Option.some.inj hf]
      exact mx_retv (Nat.le_of_ble_eq_true rfl) (Nat.le_of_ble_eq_true rfl) hx hb hr hlk hP hK hD hS dX12_checkSlot_17
    · rw [if_neg hc_2] at hf
      exact hB9 _ _ _ hP hD hS (lv_sub hl [] rfl) hf
def ff_X12_save (N : Nat) (o_this : os_T) (o_this_panel : os_T) (o_this_saved0 : os_T) (o_this_saved1 : os_T) (a1 : Int32) : Option (Nat × Int32 × os_T × os_T × os_T) :=
  ((ff_X12_checkSlot N o_this a1).bind fun u_1 => (if u_1 = 0 then (if os_in a1 2 then (if a1 = 0 then ((ff_X5_copyFrom N o_this_saved0 o_this_panel).bind fun u_5 => (if os_in a1 2 then ((ff_X5_sumOfHeights N o_this_panel).bind fun u_8 => some (0, u_8, ss_A o_this 0 (upd (os_A o_this 0) (Int32.toNatClampNeg a1) (vp_nar .boolean (1 : Int32))), u_5, o_this_saved1)) else none)) else (if a1 = 1 then ((ff_X5_copyFrom N o_this_saved1 o_this_panel).bind fun u_11 => (if os_in a1 2 then ((ff_X5_sumOfHeights N o_this_panel).bind fun u_14 => some (0, u_14, ss_A o_this 0 (upd (os_A o_this 0) (Int32.toNatClampNeg a1) (vp_nar .boolean (1 : Int32))), o_this_saved0, u_11)) else none)) else none)) else none) else some (u_1, (0 : Int32), o_this, o_this_saved0, o_this_saved1)))
set_option maxHeartbeats 4000000 in
set_option maxRecDepth 100000 in
theorem mm_X12_save (l : Launch) (hst : l.stackTraces = false) (zz : Nat → Nat → Nat) (D : va_G) (kA : Nat → ClassId) (N : Nat) (g : Nat → Nat → Nat) (o_this : os_T) (o_this_panel : os_T) (o_this_saved0 : os_T) (o_this_saved1 : os_T) (a1 : Int32) (out : (Nat × Int32 × os_T × os_T × os_T)) (hf : ff_X12_save N o_this o_this_panel o_this_saved0 o_this_saved1 a1 = some out) : mx_C l zz D kA yX12_save wsX12_save ({ frames := 7, cells := 1, slots := 6, locals := 111 } : Room) [.ref ((g 0) 0), .int a1] (ce_X12 kA g o_this ++ (ce_X5 kA (g 1) o_this_panel ++ (ce_X5 kA (g 3) o_this_saved0 ++ (ce_X5 kA (g 4) o_this_saved1)))) out.1 (some (.int out.2.1)) (ce_X12 kA g out.2.2.1 ++ (ce_X5 kA (g 1) o_this_panel ++ (ce_X5 kA (g 3) out.2.2.2.1 ++ (ce_X5 kA (g 4) out.2.2.2.2)))) := by
  refine mx_of (cc := cX12_save) (maxL := 2) (ret := (some .int)) (by decide) rfl (Nat.le_of_ble_eq_true rfl) ?_
  intro p e s m below meth c A B hx0 hZ hD hP hS ls hl
  obtain ⟨hx, hb, hr, hlk, hml, hown, hts, hK, hA, hnm⟩ := B
  have hown : s.vm.findClass RX12 = some m.cls := hown
  have hl : lv_has ls 2 [(0, .ref ((g 0) 0)), (1, .int a1)] := hl
  have hUX12 : ∀ w ∈ u_ws RX12 TX12 15, w.before [.ref ((g 0) 0), .int a1].toArray s = true := fun w h => hts w (List.mem_cons_of_mem _ (List.mem_append_left _ (List.mem_append_left _ (List.mem_append_right _ h))))
  unfold ff_X12_save at hf
  refine lv_aload_n hx hb dX12_save_0 rfl (lv_at hl 0 rfl) ?_
  refine lv_iload_n hx hb dX12_save_1 rfl (lv_at hl 1 rfl) ?_
  obtain ⟨u_1, he_2, hf⟩ := os_bd hf
  refine mx_callV ⟨hx, hb, hml, hown, hts⟩ (mm_X12_checkSlot l hst zz D kA N g o_this a1 u_1 he_2) (cwV 1 hts gX12_save_X12_checkSlot rfl rfl rfl (by decide +kernel) ⟨Nat.le_of_ble_eq_true rfl, Nat.le_of_ble_eq_true rfl⟩) (wc := (ce_X12 kA g o_this)) (ci := 8) (q0 := 0) rfl rfl rfl hl.1 (As := [.int a1]) (rest := []) rfl (Nat.le_of_ble_eq_true rfl) dX12_save_2 ⟨Nat.le_of_ble_eq_true rfl, Nat.le_of_ble_eq_true rfl⟩ hK hP hD hS hA hZ [0, 1, 2, 3] [4, 5, 6, 7, 8, 9, 10, 11, 12, 13, 14, 15] [12, 13, 14, 15, 0, 1, 2, 3, 4, 5, 6, 7, 8, 9, 10, 11] rfl (by decide) rfl (by decide) (by decide) rfl (by decide) (wr := (ce_X5 kA (g 1) o_this_panel ++ (ce_X5 kA (g 3) o_this_saved0 ++ (ce_X5 kA (g 4) o_this_saved1)))) (w2 := (ce_X12 kA g o_this ++ (ce_X5 kA (g 1) o_this_panel ++ (ce_X5 kA (g 3) o_this_saved0 ++ (ce_X5 kA (g 4) o_this_saved1))))) (fun hx9 H locs q9 ce hP hD hS h91 h92 h93 => ?_) (fun hx9 H locs hP hD hS => ?_)
  · rw [if_neg hx9] at hf
    rw [← Option.some.inj hf]
    exact mx_out hx9 hx0 hlk hP hK hD hS h91 h92 h93 (Nat.le_of_ble_eq_true rfl) (Nat.le_of_ble_eq_true rfl)
  · rw [if_pos hx9] at hf
    refine W.widen (k := 1) (n := 6) (Nat.le_of_ble_eq_true rfl) (Nat.le_of_ble_eq_true rfl) ?_
    have hP : va_P D vwCl (ce_X12 kA g o_this ++ (ce_X5 kA (g 1) o_this_panel ++ (ce_X5 kA (g 3) o_this_saved0 ++ (ce_X5 kA (g 4) o_this_saved1)))) H := hP
    refine lv_aload_n hx hb dX12_save_5 rfl (lv_at hl 0 rfl) ?_
    refine va_get (D := D) (ci := 8) (v := .ref ((g 0) 1)) (C := RX12) (T := TX12) (N := 15) hx hb hUX12 (fun _ h9 => h9) hown hK hP 0 rfl rfl 2 (by decide) (hts (Cond.fieldLink RX12 19 "ReliefBuilder" "saved" "[LReliefBuilder$Panel;") (List.mem_of_getElem? (i := 1) rfl)) (fun _ h9 => h9) rfl dX12_save_6 ?_
    refine lv_iload_n hx hb dX12_save_9 rfl (lv_at hl 1 rfl) ?_
    obtain ⟨hi_3, hf⟩ := os_if hf
    refine va_aldq hx hb hK hP 1 6 rfl rfl hi_3 dX12_save_10 ?_
    by_cases hc_4 : a1 = 0
    · rw [if_pos hc_4] at hf
      refine W.eq (g2 := F0 m 11 ls [.ref ((g 3) 0)]) (by rw [hc_4] <;> rfl) ?_
      refine lv_aload_n hx hb dX12_save_11 rfl (lv_at hl 0 rfl) ?_
      refine va_get (D := D) (ci := 8) (v := .ref ((g 1) 0)) (C := RX12) (T := TX12) (N := 15) hx hb hUX12 (fun _ h9 => h9) hown hK hP 0 rfl rfl 0 (by decide) (hts (Cond.fieldLink RX12 12 "ReliefBuilder" "panel" "LReliefBuilder$Panel;") (List.mem_of_getElem? (i := 2) rfl)) (fun _ h9 => h9) rfl dX12_save_12 ?_
      obtain ⟨u_5, he_6, hf⟩ := os_bd hf
      refine mc_callV ⟨hx, hb, hml, hown, hts⟩ (mm_X5_copyFrom l D kA N (g 3) (g 1) o_this_saved0 o_this_panel u_5 he_6) (cwV 1 hts gX12_save_X5_copyFrom rfl rfl rfl (by decide +kernel) ⟨Nat.le_of_ble_eq_true rfl, Nat.le_of_ble_eq_true rfl⟩) (wc := (ce_X5 kA (g 3) o_this_saved0 ++ (ce_X5 kA (g 1) o_this_panel))) (ci := 2) (q0 := 0) rfl rfl rfl hl.1 (As := [.ref ((g 1) 0)]) (rest := []) rfl (Nat.le_of_ble_eq_true rfl) dX12_save_15 ⟨Nat.le_of_ble_eq_true rfl, Nat.le_of_ble_eq_true rfl⟩ hK hP hD hS hA [8, 9, 10, 11, 4, 5, 6, 7] [0, 1, 2, 3, 12, 13, 14, 15] [0, 1, 2, 3, 12, 13, 14, 15, 8, 9, 10, 11, 4, 5, 6, 7] rfl (by decide) rfl (by decide) (by decide) rfl (by decide) (wr := (ce_X12 kA g o_this ++ (ce_X5 kA (g 4) o_this_saved1))) (w2 := (ce_X12 kA g o_this ++ (ce_X5 kA (g 1) o_this_panel ++ (ce_X5 kA (g 3) u_5 ++ (ce_X5 kA (g 4) o_this_saved1))))) (fun H locs hP hD hS => ?_)
      have hP : va_P D vwCl (ce_X12 kA g o_this ++ (ce_X5 kA (g 1) o_this_panel ++ (ce_X5 kA (g 3) u_5 ++ (ce_X5 kA (g 4) o_this_saved1)))) H := hP
      refine lv_aload_n hx hb dX12_save_18 rfl (lv_at hl 0 rfl) ?_
      refine va_get (D := D) (ci := 8) (v := .ref ((g 0) 2)) (C := RX12) (T := TX12) (N := 15) hx hb hUX12 (fun _ h9 => h9) hown hK hP 0 rfl rfl 3 (by decide) (hts (Cond.fieldLink RX12 23 "ReliefBuilder" "isSaved" "[Z") (List.mem_of_getElem? (i := 3) rfl)) (fun _ h9 => h9) rfl dX12_save_19 ?_
      refine lv_iload_n hx hb dX12_save_22 rfl (lv_at hl 1 rfl) ?_
      refine lv_iconst (v := 1) hx hb dX12_save_23 (by decide) ?_
      obtain ⟨hi_7, hf⟩ := os_if hf
      refine va_zast hx hb hK hP hD hS 2 1 rfl rfl hi_7 dX12_save_24 (fun H locs hP hD hS => ?_)
      have hP : va_P D vwCl (ce_X12 kA g (ss_A o_this 0 (upd (os_A o_this 0) (Int32.toNatClampNeg a1) (vp_nar .boolean (1 : Int32)))) ++ (ce_X5 kA (g 1) o_this_panel ++ (ce_X5 kA (g 3) u_5 ++ (ce_X5 kA (g 4) o_this_saved1)))) H := hP
      have hD : va_D A (ce_X12 kA g (ss_A o_this 0 (upd (os_A o_this 0) (Int32.toNatClampNeg a1) (vp_nar .boolean (1 : Int32)))) ++ (ce_X5 kA (g 1) o_this_panel ++ (ce_X5 kA (g 3) u_5 ++ (ce_X5 kA (g 4) o_this_saved1)))) := hD
      refine lv_aload_n hx hb dX12_save_25 rfl (lv_at hl 0 rfl) ?_
      refine va_get (D := D) (ci := 8) (v := .ref ((g 1) 0)) (C := RX12) (T := TX12) (N := 15) hx hb hUX12 (fun _ h9 => h9) hown hK hP 0 rfl rfl 0 (by decide) (hts (Cond.fieldLink RX12 12 "ReliefBuilder" "panel" "LReliefBuilder$Panel;") (List.mem_of_getElem? (i := 2) rfl)) (fun _ h9 => h9) rfl dX12_save_26 ?_
      obtain ⟨u_8, he_9, hf⟩ := os_bd hf
      refine mc_callV ⟨hx, hb, hml, hown, hts⟩ (mm_X5_sumOfHeights l D kA N (g 1) o_this_panel u_8 he_9) (cwV 0 hts gX12_save_X5_sumOfHeights rfl rfl rfl (by decide +kernel) ⟨Nat.le_of_ble_eq_true rfl, Nat.le_of_ble_eq_true rfl⟩) (wc := (ce_X5 kA (g 1) o_this_panel)) (ci := 2) (q0 := 0) rfl rfl rfl hl.1 (As := []) (rest := []) rfl (Nat.le_of_ble_eq_true rfl) dX12_save_29 ⟨Nat.le_of_ble_eq_true rfl, Nat.le_of_ble_eq_true rfl⟩ hK hP hD hS hA [4, 5, 6, 7] [0, 1, 2, 3, 8, 9, 10, 11, 12, 13, 14, 15] [0, 1, 2, 3, 12, 13, 14, 15, 4, 5, 6, 7, 8, 9, 10, 11] rfl (by decide) rfl (by decide) (by decide) rfl (by decide) (wr := (ce_X12 kA g (ss_A o_this 0 (upd (os_A o_this 0) (Int32.toNatClampNeg a1) (vp_nar .boolean (1 : Int32)))) ++ (ce_X5 kA (g 3) u_5 ++ (ce_X5 kA (g 4) o_this_saved1)))) (w2 := (ce_X12 kA g (ss_A o_this 0 (upd (os_A o_this 0) (Int32.toNatClampNeg a1) (vp_nar .boolean (1 : Int32)))) ++ (ce_X5 kA (g 1) o_this_panel ++ (ce_X5 kA (g 3) u_5 ++ (ce_X5 kA (g 4) o_this_saved1))))) (fun H locs hP hD hS => ?_)
      have hP : va_P D vwCl (ce_X12 kA g (ss_A o_this 0 (upd (os_A o_this 0) (Int32.toNatClampNeg a1) (vp_nar .boolean (1 : Int32)))) ++ (ce_X5 kA (g 1) o_this_panel ++ (ce_X5 kA (g 3) u_5 ++ (ce_X5 kA (g 4) o_this_saved1)))) H := hP
      rw [← Option.some.inj hf]
      exact mx_reti (Nat.le_of_ble_eq_true rfl) (Nat.le_of_ble_eq_true rfl) hx hb hr hlk hP hK hD hS dX12_save_32
    rw [if_neg hc_4] at hf
    by_cases hc_10 : a1 = 1
    · rw [if_pos hc_10] at hf
      refine W.eq (g2 := F0 m 11 ls [.ref ((g 4) 0)]) (by rw [hc_10] <;> rfl) ?_
      refine lv_aload_n hx hb dX12_save_11 rfl (lv_at hl 0 rfl) ?_
      refine va_get (D := D) (ci := 8) (v := .ref ((g 1) 0)) (C := RX12) (T := TX12) (N := 15) hx hb hUX12 (fun _ h9 => h9) hown hK hP 0 rfl rfl 0 (by decide) (hts (Cond.fieldLink RX12 12 "ReliefBuilder" "panel" "LReliefBuilder$Panel;") (List.mem_of_getElem? (i := 2) rfl)) (fun _ h9 => h9) rfl dX12_save_12 ?_
      obtain ⟨u_11, he_12, hf⟩ := os_bd hf
      refine mc_callV ⟨hx, hb, hml, hown, hts⟩ (mm_X5_copyFrom l D kA N (g 4) (g 1) o_this_saved1 o_this_panel u_11 he_12) (cwV 1 hts gX12_save_X5_copyFrom rfl rfl rfl (by decide +kernel) ⟨Nat.le_of_ble_eq_true rfl, Nat.le_of_ble_eq_true rfl⟩) (wc := (ce_X5 kA (g 4) o_this_saved1 ++ (ce_X5 kA (g 1) o_this_panel))) (ci := 2) (q0 := 0) rfl rfl rfl hl.1 (As := [.ref ((g 1) 0)]) (rest := []) rfl (Nat.le_of_ble_eq_true rfl) dX12_save_15 ⟨Nat.le_of_ble_eq_true rfl, Nat.le_of_ble_eq_true rfl⟩ hK hP hD hS hA [12, 13, 14, 15, 4, 5, 6, 7] [0, 1, 2, 3, 8, 9, 10, 11] [0, 1, 2, 3, 12, 13, 14, 15, 4, 5, 6, 7, 8, 9, 10, 11] rfl (by decide) rfl (by decide) (by decide) rfl (by decide) (wr := (ce_X12 kA g o_this ++ (ce_X5 kA (g 3) o_this_saved0))) (w2 := (ce_X12 kA g o_this ++ (ce_X5 kA (g 1) o_this_panel ++ (ce_X5 kA (g 3) o_this_saved0 ++ (ce_X5 kA (g 4) u_11))))) (fun H locs hP hD hS => ?_)
      have hP : va_P D vwCl (ce_X12 kA g o_this ++ (ce_X5 kA (g 1) o_this_panel ++ (ce_X5 kA (g 3) o_this_saved0 ++ (ce_X5 kA (g 4) u_11)))) H := hP
      refine lv_aload_n hx hb dX12_save_18 rfl (lv_at hl 0 rfl) ?_
      refine va_get (D := D) (ci := 8) (v := .ref ((g 0) 2)) (C := RX12) (T := TX12) (N := 15) hx hb hUX12 (fun _ h9 => h9) hown hK hP 0 rfl rfl 3 (by decide) (hts (Cond.fieldLink RX12 23 "ReliefBuilder" "isSaved" "[Z") (List.mem_of_getElem? (i := 3) rfl)) (fun _ h9 => h9) rfl dX12_save_19 ?_
      refine lv_iload_n hx hb dX12_save_22 rfl (lv_at hl 1 rfl) ?_
      refine lv_iconst (v := 1) hx hb dX12_save_23 (by decide) ?_
      obtain ⟨hi_13, hf⟩ := os_if hf
      refine va_zast hx hb hK hP hD hS 2 1 rfl rfl hi_13 dX12_save_24 (fun H locs hP hD hS => ?_)
      have hP : va_P D vwCl (ce_X12 kA g (ss_A o_this 0 (upd (os_A o_this 0) (Int32.toNatClampNeg a1) (vp_nar .boolean (1 : Int32)))) ++ (ce_X5 kA (g 1) o_this_panel ++ (ce_X5 kA (g 3) o_this_saved0 ++ (ce_X5 kA (g 4) u_11)))) H := hP
      have hD : va_D A (ce_X12 kA g (ss_A o_this 0 (upd (os_A o_this 0) (Int32.toNatClampNeg a1) (vp_nar .boolean (1 : Int32)))) ++ (ce_X5 kA (g 1) o_this_panel ++ (ce_X5 kA (g 3) o_this_saved0 ++ (ce_X5 kA (g 4) u_11)))) := hD
      refine lv_aload_n hx hb dX12_save_25 rfl (lv_at hl 0 rfl) ?_
      refine va_get (D := D) (ci := 8) (v := .ref ((g 1) 0)) (C := RX12) (T := TX12) (N := 15) hx hb hUX12 (fun _ h9 => h9) hown hK hP 0 rfl rfl 0 (by decide) (hts (Cond.fieldLink RX12 12 "ReliefBuilder" "panel" "LReliefBuilder$Panel;") (List.mem_of_getElem? (i := 2) rfl)) (fun _ h9 => h9) rfl dX12_save_26 ?_
      obtain ⟨u_14, he_15, hf⟩ := os_bd hf
      refine mc_callV ⟨hx, hb, hml, hown, hts⟩ (mm_X5_sumOfHeights l D kA N (g 1) o_this_panel u_14 he_15) (cwV 0 hts gX12_save_X5_sumOfHeights rfl rfl rfl (by decide +kernel) ⟨Nat.le_of_ble_eq_true rfl, Nat.le_of_ble_eq_true rfl⟩) (wc := (ce_X5 kA (g 1) o_this_panel)) (ci := 2) (q0 := 0) rfl rfl rfl hl.1 (As := []) (rest := []) rfl (Nat.le_of_ble_eq_true rfl) dX12_save_29 ⟨Nat.le_of_ble_eq_true rfl, Nat.le_of_ble_eq_true rfl⟩ hK hP hD hS hA [4, 5, 6, 7] [0, 1, 2, 3, 8, 9, 10, 11, 12, 13, 14, 15] [0, 1, 2, 3, 12, 13, 14, 15, 4, 5, 6, 7, 8, 9, 10, 11] rfl (by decide) rfl (by decide) (by decide) rfl (by decide) (wr := (ce_X12 kA g (ss_A o_this 0 (upd (os_A o_this 0) (Int32.toNatClampNeg a1) (vp_nar .boolean (1 : Int32)))) ++ (ce_X5 kA (g 3) o_this_saved0 ++ (ce_X5 kA (g 4) u_11)))) (w2 := (ce_X12 kA g (ss_A o_this 0 (upd (os_A o_this 0) (Int32.toNatClampNeg a1) (vp_nar .boolean (1 : Int32)))) ++ (ce_X5 kA (g 1) o_this_panel ++ (ce_X5 kA (g 3) o_this_saved0 ++ (ce_X5 kA (g 4) u_11))))) (fun H locs hP hD hS => ?_)
      have hP : va_P D vwCl (ce_X12 kA g (ss_A o_this 0 (upd (os_A o_this 0) (Int32.toNatClampNeg a1) (vp_nar .boolean (1 : Int32)))) ++ (ce_X5 kA (g 1) o_this_panel ++ (ce_X5 kA (g 3) o_this_saved0 ++ (ce_X5 kA (g 4) u_11)))) H := hP
      rw [← Option.some.inj hf]
      exact mx_reti (Nat.le_of_ble_eq_true rfl) (Nat.le_of_ble_eq_true rfl) hx hb hr hlk hP hK hD hS dX12_save_32
    rw [if_neg hc_10] at hf
    cases hf
def ff_X12_restore_b30 (N : Nat) (o_this : os_T) (o_this_saved0 : os_T) (o_this_saved1 : os_T) (o_this_panel : os_T) (o_this_history : os_T) : Option (Nat × Int32 × os_T × os_T) :=
  some (1, (0 : Int32), o_this_panel, o_this_history)
def ff_X12_restore (N : Nat) (o_this : os_T) (o_this_panel : os_T) (o_this_saved0 : os_T) (o_this_saved1 : os_T) (o_this_history : os_T) (a1 : Int32) : Option (Nat × Int32 × os_T × os_T) :=
  ((ff_X12_checkSlot N o_this a1).bind fun u_1 => (if u_1 = 0 then (if os_in a1 2 then (if ((os_A o_this 0) (Int32.toNatClampNeg a1)) = 0 then ff_X12_restore_b30 N o_this o_this_saved0 o_this_saved1 o_this_panel o_this_history else (if os_in a1 2 then (if a1 = 0 then ((ff_X5_hasFormOf N o_this_panel o_this_saved0).bind fun u_7 => (if u_7 = 0 then ff_X12_restore_b30 N o_this o_this_saved0 o_this_saved1 o_this_panel o_this_history else (if os_in a1 2 then (if a1 = 0 then ((ff_X5_differencesTo N o_this_panel o_this_saved0).bind fun u_12 => (if os_in a1 2 then (if a1 = 0 then ((ff_X5_copyHeightsFrom N o_this_panel o_this_saved0).bind fun u_16 => ((ff_X3_forget N o_this_history).bind fun u_18 => some (0, u_12, u_16, u_18))) else (if a1 = 1 then ((ff_X5_copyHeightsFrom N o_this_panel o_this_saved1).bind fun u_21 => ((ff_X3_forget N o_this_history).bind fun u_23 => some (0, u_12, u_21, u_23))) else none)) else none)) else (if a1 = 1 then ((ff_X5_differencesTo N o_this_panel o_this_saved1).bind fun u_26 => (if os_in a1 2 then (if a1 = 0 then ((ff_X5_copyHeightsFrom N o_this_panel o_this_saved0).bind fun u_30 => ((ff_X3_forget N o_this_history).bind fun u_32 => some (0, u_26, u_30, u_32))) else (if a1 = 1 then ((ff_X5_copyHeightsFrom N o_this_panel o_this_saved1).bind fun u_35 => ((ff_X3_forget N o_this_history).bind fun u_37 => some (0, u_26, u_35, u_37))) else none)) else none)) else none)) else none))) else (if a1 = 1 then ((ff_X5_hasFormOf N o_this_panel o_this_saved1).bind fun u_40 => (if u_40 = 0 then ff_X12_restore_b30 N o_this o_this_saved0 o_this_saved1 o_this_panel o_this_history else (if os_in a1 2 then (if a1 = 0 then ((ff_X5_differencesTo N o_this_panel o_this_saved0).bind fun u_45 => (if os_in a1 2 then (if a1 = 0 then ((ff_X5_copyHeightsFrom N o_this_panel o_this_saved0).bind fun u_49 => ((ff_X3_forget N o_this_history).bind fun u_51 => some (0, u_45, u_49, u_51))) else (if a1 = 1 then ((ff_X5_copyHeightsFrom N o_this_panel o_this_saved1).bind fun u_54 => ((ff_X3_forget N o_this_history).bind fun u_56 => some (0, u_45, u_54, u_56))) else none)) else none)) else (if a1 = 1 then ((ff_X5_differencesTo N o_this_panel o_this_saved1).bind fun u_59 => (if os_in a1 2 then (if a1 = 0 then ((ff_X5_copyHeightsFrom N o_this_panel o_this_saved0).bind fun u_63 => ((ff_X3_forget N o_this_history).bind fun u_65 => some (0, u_59, u_63, u_65))) else (if a1 = 1 then ((ff_X5_copyHeightsFrom N o_this_panel o_this_saved1).bind fun u_68 => ((ff_X3_forget N o_this_history).bind fun u_70 => some (0, u_59, u_68, u_70))) else none)) else none)) else none)) else none))) else none)) else none)) else none) else some (u_1, (0 : Int32), o_this_panel, o_this_history)))
set_option maxHeartbeats 4000000 in
set_option maxRecDepth 100000 in
theorem mm_X12_restore (l : Launch) (hst : l.stackTraces = false) (zz : Nat → Nat → Nat) (D : va_G) (kA : Nat → ClassId) (N : Nat) (g : Nat → Nat → Nat) (o_this : os_T) (o_this_panel : os_T) (o_this_saved0 : os_T) (o_this_saved1 : os_T) (o_this_history : os_T) (a1 : Int32) (out : (Nat × Int32 × os_T × os_T)) (hf : ff_X12_restore N o_this o_this_panel o_this_saved0 o_this_saved1 o_this_history a1 = some out) : mx_C l zz D kA yX12_restore wsX12_restore ({ frames := 7, cells := 2, slots := 12, locals := 111 } : Room) [.ref ((g 0) 0), .int a1] (ce_X12 kA g o_this ++ (ce_X5 kA (g 1) o_this_panel ++ (ce_X5 kA (g 3) o_this_saved0 ++ (ce_X5 kA (g 4) o_this_saved1 ++ (ce_X3 kA (g 5) (fun k => g (6 + k)) o_this_history))))) out.1 (some (.int out.2.1)) (ce_X12 kA g o_this ++ (ce_X5 kA (g 1) out.2.2.1 ++ (ce_X5 kA (g 3) o_this_saved0 ++ (ce_X5 kA (g 4) o_this_saved1 ++ (ce_X3 kA (g 5) (fun k => g (6 + k)) out.2.2.2))))) := by
  refine mx_of (cc := cX12_restore) (maxL := 3) (ret := (some .int)) (by decide) rfl (Nat.le_of_ble_eq_true rfl) ?_
  intro p e s m below meth c A B hx0 hZ hD hP hS ls hl
  obtain ⟨hx, hb, hr, hlk, hml, hown, hts, hK, hA, hnm⟩ := B
  have hown : s.vm.findClass RX12 = some m.cls := hown
  have hl : lv_has ls 3 [(0, .ref ((g 0) 0)), (1, .int a1)] := hl
  have hUX12 : ∀ w ∈ u_ws RX12 TX12 15, w.before [.ref ((g 0) 0), .int a1].toArray s = true := fun w h => hts w (List.mem_cons_of_mem _ (List.mem_append_left _ (List.mem_append_left _ (List.mem_append_left _ (List.mem_append_left _ (List.mem_append_right _ h))))))
  have hB30 : ∀ (o_this_panel : os_T) (o_this_history : os_T) (H : Heap) (locs : List Loc) (ls : Array Slot), va_P D vwCl (ce_X12 kA g o_this ++ (ce_X5 kA (g 1) o_this_panel ++ (ce_X5 kA (g 3) o_this_saved0 ++ (ce_X5 kA (g 4) o_this_saved1 ++ (ce_X3 kA (g 5) (fun k => g (6 + k)) o_this_history))))) H → va_D A (ce_X12 kA g o_this ++ (ce_X5 kA (g 1) o_this_panel ++ (ce_X5 kA (g 3) o_this_saved0 ++ (ce_X5 kA (g 4) o_this_saved1 ++ (ce_X3 kA (g 5) (fun k => g (6 + k)) o_this_history))))) → va_S A s.heap H locs → lv_has ls 3 [] → ff_X12_restore_b30 N o_this o_this_saved0 o_this_saved1 o_this_panel o_this_history = some out → W p l e ({ frames := 7, cells := 2, slots := 12, locals := 111 } : Room) s m [.ref ((g 0) 0), .int a1].toArray below meth c H locs 1 6 (vx_MQ below (mx_Q D kA A out.1 (some (.int out.2.1)) (ce_X12 kA g o_this ++ (ce_X5 kA (g 1) out.2.2.1 ++ (ce_X5 kA (g 3) o_this_saved0 ++ (ce_X5 kA (g 4) o_this_saved1 ++ (ce_X3 kA (g 5) (fun k => g (6 + k)) out.2.2.2)))))) (mx_X D kA A out.1 (ce_X12 kA g o_this ++ (ce_X5 kA (g 1) out.2.2.1 ++ (ce_X5 kA (g 3) o_this_saved0 ++ (ce_X5 kA (g 4) o_this_saved1 ++ (ce_X3 kA (g 5) (fun k => g (6 + k)) out.2.2.2)))))) [.ref ((g 0) 0), .int a1].toArray s 2 12 A) (F0 m 30 ls []) := by
    intro o_this_panel o_this_history H locs ls hP hD hS hl hf
    unfold ff_X12_restore_b30 at hf
    rw [← Option.some.inj hf]
    exact mx_throw (xc := 1) (own := RX12) (ik := 94) (ic := 96) (by decide) hx hb hst hown (by decide +kernel) (hts (Cond.classLink RX12 94 "java/lang/IllegalStateException") (List.mem_of_getElem? (i := 1) rfl)) (hts (Cond.initialized "java/lang/IllegalStateException") (List.mem_of_getElem? (i := 2) rfl)) (vx_hat (L := vx_at0 RX12 96 "java/lang/IllegalStateException" ["java/lang/RuntimeException", "java/lang/Exception"]) (B := [.declares ⟨"java/lang/RuntimeException", "<init>", "()V"⟩, .declares ⟨"java/lang/Exception", "<init>", "()V"⟩, .declares ⟨"java/lang/Throwable", "<init>", "()V"⟩, .castable "java/lang/IllegalStateException" "java/lang/IllegalStateException"]) (fun w h => hts w (List.mem_cons_of_mem _ (List.mem_append_left _ (List.mem_append_right _ h)))) (by decide +kernel) (st_bad (xc := 1) hZ.2.2.1.2.2)) (by decide +kernel) hZ hS (hl.1.trans hml.symm) hP hK hD dX12_restore_30 dX12_restore_33 dX12_restore_34 dX12_restore_37 hx0 (Nat.le_of_ble_eq_true rfl) (Nat.le_of_ble_eq_true rfl) (Nat.le_of_ble_eq_true rfl) (Nat.le_of_ble_eq_true rfl) hlk (Nat.le_of_ble_eq_true rfl) (Nat.le_of_ble_eq_true rfl)
  unfold ff_X12_restore at hf
  refine lv_aload_n hx hb dX12_restore_0 rfl (lv_at hl 0 rfl) ?_
  refine lv_iload_n hx hb dX12_restore_1 rfl (lv_at hl 1 rfl) ?_
  obtain ⟨u_1, he_2, hf⟩ := os_bd hf
  refine mx_callV ⟨hx, hb, hml, hown, hts⟩ (mm_X12_checkSlot l hst zz D kA N g o_this a1 u_1 he_2) (cwV 1 hts gX12_restore_X12_checkSlot rfl rfl rfl (by decide +kernel) ⟨Nat.le_of_ble_eq_true rfl, Nat.le_of_ble_eq_true rfl⟩) (wc := (ce_X12 kA g o_this)) (ci := 8) (q0 := 0) rfl rfl rfl hl.1 (As := [.int a1]) (rest := []) rfl (Nat.le_of_ble_eq_true rfl) dX12_restore_2 ⟨Nat.le_of_ble_eq_true rfl, Nat.le_of_ble_eq_true rfl⟩ hK hP hD hS hA hZ [0, 1, 2, 3] [4, 5, 6, 7, 8, 9, 10, 11, 12, 13, 14, 15, 16, 17] [14, 15, 16, 17, 0, 1, 2, 3, 4, 5, 6, 7, 8, 9, 10, 11, 12, 13] rfl (by decide) rfl (by decide) (by decide) rfl (by decide) (wr := (ce_X5 kA (g 1) o_this_panel ++ (ce_X5 kA (g 3) o_this_saved0 ++ (ce_X5 kA (g 4) o_this_saved1 ++ (ce_X3 kA (g 5) (fun k => g (6 + k)) o_this_history))))) (w2 := (ce_X12 kA g o_this ++ (ce_X5 kA (g 1) o_this_panel ++ (ce_X5 kA (g 3) o_this_saved0 ++ (ce_X5 kA (g 4) o_this_saved1 ++ (ce_X3 kA (g 5) (fun k => g (6 + k)) o_this_history)))))) (fun hx9 H locs q9 ce hP hD hS h91 h92 h93 => ?_) (fun hx9 H locs hP hD hS => ?_)
  · rw [if_neg hx9] at hf
    rw [← Option.some.inj hf]
    exact mx_out hx9 hx0 hlk hP hK hD hS h91 h92 h93 (Nat.le_of_ble_eq_true rfl) (Nat.le_of_ble_eq_true rfl)
  · rw [if_pos hx9] at hf
    refine W.widen (k := 1) (n := 6) (Nat.le_of_ble_eq_true rfl) (Nat.le_of_ble_eq_true rfl) ?_
    have hP : va_P D vwCl (ce_X12 kA g o_this ++ (ce_X5 kA (g 1) o_this_panel ++ (ce_X5 kA (g 3) o_this_saved0 ++ (ce_X5 kA (g 4) o_this_saved1 ++ (ce_X3 kA (g 5) (fun k => g (6 + k)) o_this_history))))) H := hP
    refine lv_aload_n hx hb dX12_restore_5 rfl (lv_at hl 0 rfl) ?_
    refine va_get (D := D) (ci := 8) (v := .ref ((g 0) 2)) (C := RX12) (T := TX12) (N := 15) hx hb hUX12 (fun _ h9 => h9) hown hK hP 0 rfl rfl 3 (by decide) (hts (Cond.fieldLink RX12 23 "ReliefBuilder" "isSaved" "[Z") (List.mem_of_getElem? (i := 3) rfl)) (fun _ h9 => h9) rfl dX12_restore_6 ?_
    refine lv_iload_n hx hb dX12_restore_9 rfl (lv_at hl 1 rfl) ?_
    obtain ⟨hi_3, hf⟩ := os_if hf
    refine va_zald hx hb hK hP 2 1 rfl rfl hi_3 dX12_restore_10 ?_
    refine lv_if_eq (tgt := 30) hx hb dX12_restore_11 (by decide) (fun hc_4 => ?_) (fun hc_4 => ?_)
    · rw [if_pos hc_4] at hf
      exact hB30 o_this_panel o_this_history _ _ _ hP hD hS (lv_sub hl [] rfl) hf
    · rw [if_neg hc_4] at hf
      refine lv_aload_n hx hb dX12_restore_14 rfl (lv_at hl 0 rfl) ?_
      refine va_get (D := D) (ci := 8) (v := .ref ((g 1) 0)) (C := RX12) (T := TX12) (N := 15) hx hb hUX12 (fun _ h9 => h9) hown hK hP 0 rfl rfl 0 (by decide) (hts (Cond.fieldLink RX12 12 "ReliefBuilder" "panel" "LReliefBuilder$Panel;") (List.mem_of_getElem? (i := 4) rfl)) (fun _ h9 => h9) rfl dX12_restore_15 ?_
      refine lv_aload_n hx hb dX12_restore_18 rfl (lv_at hl 0 rfl) ?_
      refine va_get (D := D) (ci := 8) (v := .ref ((g 0) 1)) (C := RX12) (T := TX12) (N := 15) hx hb hUX12 (fun _ h9 => h9) hown hK hP 0 rfl rfl 2 (by decide) (hts (Cond.fieldLink RX12 19 "ReliefBuilder" "saved" "[LReliefBuilder$Panel;") (List.mem_of_getElem? (i := 5) rfl)) (fun _ h9 => h9) rfl dX12_restore_19 ?_
      refine lv_iload_n hx hb dX12_restore_22 rfl (lv_at hl 1 rfl) ?_
      obtain ⟨hi_5, hf⟩ := os_if hf
      refine va_aldq hx hb hK hP 1 6 rfl rfl hi_5 dX12_restore_23 ?_
      by_cases hc_6 : a1 = 0
      · rw [if_pos hc_6] at hf
        refine W.eq (g2 := F0 m 24 ls [.ref ((g 3) 0), .ref ((g 1) 0)]) (by rw [hc_6] <;> rfl) ?_
        obtain ⟨u_7, he_8, hf⟩ := os_bd hf
        refine mc_callV ⟨hx, hb, hml, hown, hts⟩ (mm_X5_hasFormOf l D kA N (g 1) (g 3) o_this_panel o_this_saved0 u_7 he_8) (cwV 1 hts gX12_restore_X5_hasFormOf rfl rfl rfl (by decide +kernel) ⟨Nat.le_of_ble_eq_true rfl, Nat.le_of_ble_eq_true rfl⟩) (wc := (ce_X5 kA (g 1) o_this_panel ++ (ce_X5 kA (g 3) o_this_saved0))) (ci := 2) (q0 := 0) rfl rfl rfl hl.1 (As := [.ref ((g 3) 0)]) (rest := []) rfl (Nat.le_of_ble_eq_true rfl) dX12_restore_24 ⟨Nat.le_of_ble_eq_true rfl, Nat.le_of_ble_eq_true rfl⟩ hK hP hD hS hA [4, 5, 6, 7, 8, 9, 10, 11] [0, 1, 2, 3, 12, 13, 14, 15, 16, 17] [0, 1, 2, 3, 10, 11, 12, 13, 14, 15, 16, 17, 4, 5, 6, 7, 8, 9] rfl (by decide) rfl (by decide) (by decide) rfl (by decide) (wr := (ce_X12 kA g o_this ++ (ce_X5 kA (g 4) o_this_saved1 ++ (ce_X3 kA (g 5) (fun k => g (6 + k)) o_this_history)))) (w2 := (ce_X12 kA g o_this ++ (ce_X5 kA (g 1) o_this_panel ++ (ce_X5 kA (g 3) o_this_saved0 ++ (ce_X5 kA (g 4) o_this_saved1 ++ (ce_X3 kA (g 5) (fun k => g (6 + k)) o_this_history)))))) (fun H locs hP hD hS => ?_)
        have hP : va_P D vwCl (ce_X12 kA g o_this ++ (ce_X5 kA (g 1) o_this_panel ++ (ce_X5 kA (g 3) o_this_saved0 ++ (ce_X5 kA (g 4) o_this_saved1 ++ (ce_X3 kA (g 5) (fun k => g (6 + k)) o_this_history))))) H := hP
        refine lv_if_ne (tgt := 38) hx hb dX12_restore_27 (by decide) (fun hc_9 => ?_) (fun hc_9 => ?_)
        · rw [if_neg hc_9] at hf
          refine lv_aload_n hx hb dX12_restore_38 rfl (lv_at hl 0 rfl) ?_
          refine va_get (D := D) (ci := 8) (v := .ref ((g 1) 0)) (C := RX12) (T := TX12) (N := 15) hx hb hUX12 (fun _ h9 => h9) hown hK hP 0 rfl rfl 0 (by decide) (hts (Cond.fieldLink RX12 12 "ReliefBuilder" "panel" "LReliefBuilder$Panel;") (List.mem_of_getElem? (i := 4) rfl)) (fun _ h9 => h9) rfl dX12_restore_39 ?_
          refine lv_aload_n hx hb dX12_restore_42 rfl (lv_at hl 0 rfl) ?_
          refine va_get (D := D) (ci := 8) (v := .ref ((g 0) 1)) (C := RX12) (T := TX12) (N := 15) hx hb hUX12 (fun _ h9 => h9) hown hK hP 0 rfl rfl 2 (by decide) (hts (Cond.fieldLink RX12 19 "ReliefBuilder" "saved" "[LReliefBuilder$Panel;") (List.mem_of_getElem? (i := 5) rfl)) (fun _ h9 => h9) rfl dX12_restore_43 ?_
          refine lv_iload_n hx hb dX12_restore_46 rfl (lv_at hl 1 rfl) ?_
          obtain ⟨hi_10, hf⟩ := os_if hf
          refine va_aldq hx hb hK hP 1 6 rfl rfl hi_10 dX12_restore_47 ?_
          by_cases hc_11 : a1 = 0
          · rw [if_pos hc_11] at hf
            refine W.eq (g2 := F0 m 48 ls [.ref ((g 3) 0), .ref ((g 1) 0)]) (by rw [hc_11] <;> rfl) ?_
            obtain ⟨u_12, he_13, hf⟩ := os_bd hf
            refine mc_callV ⟨hx, hb, hml, hown, hts⟩ (mm_X5_differencesTo l D kA N (g 1) (g 3) o_this_panel o_this_saved0 u_12 he_13) (cwV 1 hts gX12_restore_X5_differencesTo rfl rfl rfl (by decide +kernel) ⟨Nat.le_of_ble_eq_true rfl, Nat.le_of_ble_eq_true rfl⟩) (wc := (ce_X5 kA (g 1) o_this_panel ++ (ce_X5 kA (g 3) o_this_saved0))) (ci := 2) (q0 := 0) rfl rfl rfl hl.1 (As := [.ref ((g 3) 0)]) (rest := []) rfl (Nat.le_of_ble_eq_true rfl) dX12_restore_48 ⟨Nat.le_of_ble_eq_true rfl, Nat.le_of_ble_eq_true rfl⟩ hK hP hD hS hA [4, 5, 6, 7, 8, 9, 10, 11] [0, 1, 2, 3, 12, 13, 14, 15, 16, 17] [0, 1, 2, 3, 10, 11, 12, 13, 14, 15, 16, 17, 4, 5, 6, 7, 8, 9] rfl (by decide) rfl (by decide) (by decide) rfl (by decide) (wr := (ce_X12 kA g o_this ++ (ce_X5 kA (g 4) o_this_saved1 ++ (ce_X3 kA (g 5) (fun k => g (6 + k)) o_this_history)))) (w2 := (ce_X12 kA g o_this ++ (ce_X5 kA (g 1) o_this_panel ++ (ce_X5 kA (g 3) o_this_saved0 ++ (ce_X5 kA (g 4) o_this_saved1 ++ (ce_X3 kA (g 5) (fun k => g (6 + k)) o_this_history)))))) (fun H locs hP hD hS => ?_)
            have hP : va_P D vwCl (ce_X12 kA g o_this ++ (ce_X5 kA (g 1) o_this_panel ++ (ce_X5 kA (g 3) o_this_saved0 ++ (ce_X5 kA (g 4) o_this_saved1 ++ (ce_X3 kA (g 5) (fun k => g (6 + k)) o_this_history))))) H := hP
            refine lv_istore_n (lv' := [(2, .int u_12), (0, .ref ((g 0) 0)), (1, .int a1)]) hx hb dX12_restore_51 rfl hl (by decide) rfl (fun ls hl => ?_)
            refine lv_aload_n hx hb dX12_restore_52 rfl (lv_at hl 1 rfl) ?_
            refine va_get (D := D) (ci := 8) (v := .ref ((g 1) 0)) (C := RX12) (T := TX12) (N := 15) hx hb hUX12 (fun _ h9 => h9) hown hK hP 0 rfl rfl 0 (by decide) (hts (Cond.fieldLink RX12 12 "ReliefBuilder" "panel" "LReliefBuilder$Panel;") (List.mem_of_getElem? (i := 4) rfl)) (fun _ h9 => h9) rfl dX12_restore_53 ?_
            refine lv_aload_n hx hb dX12_restore_56 rfl (lv_at hl 1 rfl) ?_
            refine va_get (D := D) (ci := 8) (v := .ref ((g 0) 1)) (C := RX12) (T := TX12) (N := 15) hx hb hUX12 (fun _ h9 => h9) hown hK hP 0 rfl rfl 2 (by decide) (hts (Cond.fieldLink RX12 19 "ReliefBuilder" "saved" "[LReliefBuilder$Panel;") (List.mem_of_getElem? (i := 5) rfl)) (fun _ h9 => h9) rfl dX12_restore_57 ?_
            refine lv_iload_n hx hb dX12_restore_60 rfl (lv_at hl 2 rfl) ?_
            obtain ⟨hi_14, hf⟩ := os_if hf
            refine va_aldq hx hb hK hP 1 6 rfl rfl hi_14 dX12_restore_61 ?_
            by_cases hc_15 : a1 = 0
            · rw [if_pos hc_15] at hf
              refine W.eq (g2 := F0 m 62 ls [.ref ((g 3) 0), .ref ((g 1) 0)]) (by rw [hc_15] <;> rfl) ?_
              obtain ⟨u_16, he_17, hf⟩ := os_bd hf
              refine mc_callV ⟨hx, hb, hml, hown, hts⟩ (mm_X5_copyHeightsFrom l D kA N (g 1) (g 3) o_this_panel o_this_saved0 u_16 he_17) (cwV 1 hts gX12_restore_X5_copyHeightsFrom rfl rfl rfl (by decide +kernel) ⟨Nat.le_of_ble_eq_true rfl, Nat.le_of_ble_eq_true rfl⟩) (wc := (ce_X5 kA (g 1) o_this_panel ++ (ce_X5 kA (g 3) o_this_saved0))) (ci := 2) (q0 := 0) rfl rfl rfl hl.1 (As := [.ref ((g 3) 0)]) (rest := []) rfl (Nat.le_of_ble_eq_true rfl) dX12_restore_62 ⟨Nat.le_of_ble_eq_true rfl, Nat.le_of_ble_eq_true rfl⟩ hK hP hD hS hA [4, 5, 6, 7, 8, 9, 10, 11] [0, 1, 2, 3, 12, 13, 14, 15, 16, 17] [0, 1, 2, 3, 10, 11, 12, 13, 14, 15, 16, 17, 4, 5, 6, 7, 8, 9] rfl (by decide) rfl (by decide) (by decide) rfl (by decide) (wr := (ce_X12 kA g o_this ++ (ce_X5 kA (g 4) o_this_saved1 ++ (ce_X3 kA (g 5) (fun k => g (6 + k)) o_this_history)))) (w2 := (ce_X12 kA g o_this ++ (ce_X5 kA (g 1) u_16 ++ (ce_X5 kA (g 3) o_this_saved0 ++ (ce_X5 kA (g 4) o_this_saved1 ++ (ce_X3 kA (g 5) (fun k => g (6 + k)) o_this_history)))))) (fun H locs hP hD hS => ?_)
              have hP : va_P D vwCl (ce_X12 kA g o_this ++ (ce_X5 kA (g 1) u_16 ++ (ce_X5 kA (g 3) o_this_saved0 ++ (ce_X5 kA (g 4) o_this_saved1 ++ (ce_X3 kA (g 5) (fun k => g (6 + k)) o_this_history))))) H := hP
              refine lv_aload_n hx hb dX12_restore_65 rfl (lv_at hl 1 rfl) ?_
              refine va_get (D := D) (ci := 8) (v := .ref ((g 5) 0)) (C := RX12) (T := TX12) (N := 15) hx hb hUX12 (fun _ h9 => h9) hown hK hP 0 rfl rfl 4 (by decide) (hts (Cond.fieldLink RX12 30 "ReliefBuilder" "history" "LReliefBuilder$History;") (List.mem_of_getElem? (i := 6) rfl)) (fun _ h9 => h9) rfl dX12_restore_66 ?_
              obtain ⟨u_18, he_19, hf⟩ := os_bd hf
              refine mc_callV ⟨hx, hb, hml, hown, hts⟩ (mm_X3_forget l D kA N (g 5) (fun k => g (6 + k)) o_this_history u_18 he_19) (cwV 0 hts gX12_restore_X3_forget rfl rfl rfl (by decide +kernel) ⟨Nat.le_of_ble_eq_true rfl, Nat.le_of_ble_eq_true rfl⟩) (wc := (ce_X3 kA (g 5) (fun k => g (6 + k)) o_this_history)) (ci := 0) (q0 := 0) rfl rfl rfl hl.1 (As := []) (rest := []) rfl (Nat.le_of_ble_eq_true rfl) dX12_restore_69 ⟨Nat.le_of_ble_eq_true rfl, Nat.le_of_ble_eq_true rfl⟩ hK hP hD hS hA [16, 17] [0, 1, 2, 3, 4, 5, 6, 7, 8, 9, 10, 11, 12, 13, 14, 15] [0, 1, 2, 3, 4, 5, 6, 7, 8, 9, 10, 11, 12, 13, 14, 15, 16, 17] rfl (by decide) rfl (by decide) (by decide) rfl (by decide) (wr := (ce_X12 kA g o_this ++ (ce_X5 kA (g 1) u_16 ++ (ce_X5 kA (g 3) o_this_saved0 ++ (ce_X5 kA (g 4) o_this_saved1))))) (w2 := (ce_X12 kA g o_this ++ (ce_X5 kA (g 1) u_16 ++ (ce_X5 kA (g 3) o_this_saved0 ++ (ce_X5 kA (g 4) o_this_saved1 ++ (ce_X3 kA (g 5) (fun k => g (6 + k)) u_18)))))) (fun H locs hP hD hS => ?_)
              have hP : va_P D vwCl (ce_X12 kA g o_this ++ (ce_X5 kA (g 1) u_16 ++ (ce_X5 kA (g 3) o_this_saved0 ++ (ce_X5 kA (g 4) o_this_saved1 ++ (ce_X3 kA (g 5) (fun k => g (6 + k)) u_18))))) H := hP
              refine lv_iload_n hx hb dX12_restore_72 rfl (lv_at hl 0 rfl) ?_
              rw [← Option.some.inj hf]
              exact mx_reti (Nat.le_of_ble_eq_true rfl) (Nat.le_of_ble_eq_true rfl) hx hb hr hlk hP hK hD hS dX12_restore_73
            rw [if_neg hc_15] at hf
            by_cases hc_20 : a1 = 1
            · rw [if_pos hc_20] at hf
              refine W.eq (g2 := F0 m 62 ls [.ref ((g 4) 0), .ref ((g 1) 0)]) (by rw [hc_20] <;> rfl) ?_
              obtain ⟨u_21, he_22, hf⟩ := os_bd hf
              refine mc_callV ⟨hx, hb, hml, hown, hts⟩ (mm_X5_copyHeightsFrom l D kA N (g 1) (g 4) o_this_panel o_this_saved1 u_21 he_22) (cwV 1 hts gX12_restore_X5_copyHeightsFrom rfl rfl rfl (by decide +kernel) ⟨Nat.le_of_ble_eq_true rfl, Nat.le_of_ble_eq_true rfl⟩) (wc := (ce_X5 kA (g 1) o_this_panel ++ (ce_X5 kA (g 4) o_this_saved1))) (ci := 2) (q0 := 0) rfl rfl rfl hl.1 (As := [.ref ((g 4) 0)]) (rest := []) rfl (Nat.le_of_ble_eq_true rfl) dX12_restore_62 ⟨Nat.le_of_ble_eq_true rfl, Nat.le_of_ble_eq_true rfl⟩ hK hP hD hS hA [4, 5, 6, 7, 12, 13, 14, 15] [0, 1, 2, 3, 8, 9, 10, 11, 16, 17] [0, 1, 2, 3, 10, 11, 12, 13, 4, 5, 6, 7, 14, 15, 16, 17, 8, 9] rfl (by decide) rfl (by decide) (by decide) rfl (by decide) (wr := (ce_X12 kA g o_this ++ (ce_X5 kA (g 3) o_this_saved0 ++ (ce_X3 kA (g 5) (fun k => g (6 + k)) o_this_history)))) (w2 := (ce_X12 kA g o_this ++ (ce_X5 kA (g 1) u_21 ++ (ce_X5 kA (g 3) o_this_saved0 ++ (ce_X5 kA (g 4) o_this_saved1 ++ (ce_X3 kA (g 5) (fun k => g (6 + k)) o_this_history)))))) (fun H locs hP hD hS => ?_)
              have hP : va_P D vwCl (ce_X12 kA g o_this ++ (ce_X5 kA (g 1) u_21 ++ (ce_X5 kA (g 3) o_this_saved0 ++ (ce_X5 kA (g 4) o_this_saved1 ++ (ce_X3 kA (g 5) (fun k => g (6 + k)) o_this_history))))) H := hP
              refine lv_aload_n hx hb dX12_restore_65 rfl (lv_at hl 1 rfl) ?_
              refine va_get (D := D) (ci := 8) (v := .ref ((g 5) 0)) (C := RX12) (T := TX12) (N := 15) hx hb hUX12 (fun _ h9 => h9) hown hK hP 0 rfl rfl 4 (by decide) (hts (Cond.fieldLink RX12 30 "ReliefBuilder" "history" "LReliefBuilder$History;") (List.mem_of_getElem? (i := 6) rfl)) (fun _ h9 => h9) rfl dX12_restore_66 ?_
              obtain ⟨u_23, he_24, hf⟩ := os_bd hf
              refine mc_callV ⟨hx, hb, hml, hown, hts⟩ (mm_X3_forget l D kA N (g 5) (fun k => g (6 + k)) o_this_history u_23 he_24) (cwV 0 hts gX12_restore_X3_forget rfl rfl rfl (by decide +kernel) ⟨Nat.le_of_ble_eq_true rfl, Nat.le_of_ble_eq_true rfl⟩) (wc := (ce_X3 kA (g 5) (fun k => g (6 + k)) o_this_history)) (ci := 0) (q0 := 0) rfl rfl rfl hl.1 (As := []) (rest := []) rfl (Nat.le_of_ble_eq_true rfl) dX12_restore_69 ⟨Nat.le_of_ble_eq_true rfl, Nat.le_of_ble_eq_true rfl⟩ hK hP hD hS hA [16, 17] [0, 1, 2, 3, 4, 5, 6, 7, 8, 9, 10, 11, 12, 13, 14, 15] [0, 1, 2, 3, 4, 5, 6, 7, 8, 9, 10, 11, 12, 13, 14, 15, 16, 17] rfl (by decide) rfl (by decide) (by decide) rfl (by decide) (wr := (ce_X12 kA g o_this ++ (ce_X5 kA (g 1) u_21 ++ (ce_X5 kA (g 3) o_this_saved0 ++ (ce_X5 kA (g 4) o_this_saved1))))) (w2 := (ce_X12 kA g o_this ++ (ce_X5 kA (g 1) u_21 ++ (ce_X5 kA (g 3) o_this_saved0 ++ (ce_X5 kA (g 4) o_this_saved1 ++ (ce_X3 kA (g 5) (fun k => g (6 + k)) u_23)))))) (fun H locs hP hD hS => ?_)
              have hP : va_P D vwCl (ce_X12 kA g o_this ++ (ce_X5 kA (g 1) u_21 ++ (ce_X5 kA (g 3) o_this_saved0 ++ (ce_X5 kA (g 4) o_this_saved1 ++ (ce_X3 kA (g 5) (fun k => g (6 + k)) u_23))))) H := hP
              refine lv_iload_n hx hb dX12_restore_72 rfl (lv_at hl 0 rfl) ?_
              rw [← Option.some.inj hf]
              exact mx_reti (Nat.le_of_ble_eq_true rfl) (Nat.le_of_ble_eq_true rfl) hx hb hr hlk hP hK hD hS dX12_restore_73
            rw [if_neg hc_20] at hf
            cases hf
          rw [if_neg hc_11] at hf
          by_cases hc_25 : a1 = 1
          · rw [if_pos hc_25] at hf
            refine W.eq (g2 := F0 m 48 ls [.ref ((g 4) 0), .ref ((g 1) 0)]) (by rw [hc_25] <;> rfl) ?_
            obtain ⟨u_26, he_27, hf⟩ := os_bd hf
            refine mc_callV ⟨hx, hb, hml, hown, hts⟩ (mm_X5_differencesTo l D kA N (g 1) (g 4) o_this_panel o_this_saved1 u_26 he_27) (cwV 1 hts gX12_restore_X5_differencesTo rfl rfl rfl (by decide +kernel) ⟨Nat.le_of_ble_eq_true rfl, Nat.le_of_ble_eq_true rfl⟩) (wc := (ce_X5 kA (g 1) o_this_panel ++ (ce_X5 kA (g 4) o_this_saved1))) (ci := 2) (q0 := 0) rfl rfl rfl hl.1 (As := [.ref ((g 4) 0)]) (rest := []) rfl (Nat.le_of_ble_eq_true rfl) dX12_restore_48 ⟨Nat.le_of_ble_eq_true rfl, Nat.le_of_ble_eq_true rfl⟩ hK hP hD hS hA [4, 5, 6, 7, 12, 13, 14, 15] [0, 1, 2, 3, 8, 9, 10, 11, 16, 17] [0, 1, 2, 3, 10, 11, 12, 13, 4, 5, 6, 7, 14, 15, 16, 17, 8, 9] rfl (by decide) rfl (by decide) (by decide) rfl (by decide) (wr := (ce_X12 kA g o_this ++ (ce_X5 kA (g 3) o_this_saved0 ++ (ce_X3 kA (g 5) (fun k => g (6 + k)) o_this_history)))) (w2 := (ce_X12 kA g o_this ++ (ce_X5 kA (g 1) o_this_panel ++ (ce_X5 kA (g 3) o_this_saved0 ++ (ce_X5 kA (g 4) o_this_saved1 ++ (ce_X3 kA (g 5) (fun k => g (6 + k)) o_this_history)))))) (fun H locs hP hD hS => ?_)
            have hP : va_P D vwCl (ce_X12 kA g o_this ++ (ce_X5 kA (g 1) o_this_panel ++ (ce_X5 kA (g 3) o_this_saved0 ++ (ce_X5 kA (g 4) o_this_saved1 ++ (ce_X3 kA (g 5) (fun k => g (6 + k)) o_this_history))))) H := hP
            refine lv_istore_n (lv' := [(2, .int u_26), (0, .ref ((g 0) 0)), (1, .int a1)]) hx hb dX12_restore_51 rfl hl (by decide) rfl (fun ls hl => ?_)
            refine lv_aload_n hx hb dX12_restore_52 rfl (lv_at hl 1 rfl) ?_
            refine va_get (D := D) (ci := 8) (v := .ref ((g 1) 0)) (C := RX12) (T := TX12) (N := 15) hx hb hUX12 (fun _ h9 => h9) hown hK hP 0 rfl rfl 0 (by decide) (hts (Cond.fieldLink RX12 12 "ReliefBuilder" "panel" "LReliefBuilder$Panel;") (List.mem_of_getElem? (i := 4) rfl)) (fun _ h9 => h9) rfl dX12_restore_53 ?_
            refine lv_aload_n hx hb dX12_restore_56 rfl (lv_at hl 1 rfl) ?_
            refine va_get (D := D) (ci := 8) (v := .ref ((g 0) 1)) (C := RX12) (T := TX12) (N := 15) hx hb hUX12 (fun _ h9 => h9) hown hK hP 0 rfl rfl 2 (by decide) (hts (Cond.fieldLink RX12 19 "ReliefBuilder" "saved" "[LReliefBuilder$Panel;") (List.mem_of_getElem? (i := 5) rfl)) (fun _ h9 => h9) rfl dX12_restore_57 ?_
            refine lv_iload_n hx hb dX12_restore_60 rfl (lv_at hl 2 rfl) ?_
            obtain ⟨hi_28, hf⟩ := os_if hf
            refine va_aldq hx hb hK hP 1 6 rfl rfl hi_28 dX12_restore_61 ?_
            by_cases hc_29 : a1 = 0
            · rw [if_pos hc_29] at hf
              refine W.eq (g2 := F0 m 62 ls [.ref ((g 3) 0), .ref ((g 1) 0)]) (by rw [hc_29] <;> rfl) ?_
              obtain ⟨u_30, he_31, hf⟩ := os_bd hf
              refine mc_callV ⟨hx, hb, hml, hown, hts⟩ (mm_X5_copyHeightsFrom l D kA N (g 1) (g 3) o_this_panel o_this_saved0 u_30 he_31) (cwV 1 hts gX12_restore_X5_copyHeightsFrom rfl rfl rfl (by decide +kernel) ⟨Nat.le_of_ble_eq_true rfl, Nat.le_of_ble_eq_true rfl⟩) (wc := (ce_X5 kA (g 1) o_this_panel ++ (ce_X5 kA (g 3) o_this_saved0))) (ci := 2) (q0 := 0) rfl rfl rfl hl.1 (As := [.ref ((g 3) 0)]) (rest := []) rfl (Nat.le_of_ble_eq_true rfl) dX12_restore_62 ⟨Nat.le_of_ble_eq_true rfl, Nat.le_of_ble_eq_true rfl⟩ hK hP hD hS hA [4, 5, 6, 7, 8, 9, 10, 11] [0, 1, 2, 3, 12, 13, 14, 15, 16, 17] [0, 1, 2, 3, 10, 11, 12, 13, 14, 15, 16, 17, 4, 5, 6, 7, 8, 9] rfl (by decide) rfl (by decide) (by decide) rfl (by decide) (wr := (ce_X12 kA g o_this ++ (ce_X5 kA (g 4) o_this_saved1 ++ (ce_X3 kA (g 5) (fun k => g (6 + k)) o_this_history)))) (w2 := (ce_X12 kA g o_this ++ (ce_X5 kA (g 1) u_30 ++ (ce_X5 kA (g 3) o_this_saved0 ++ (ce_X5 kA (g 4) o_this_saved1 ++ (ce_X3 kA (g 5) (fun k => g (6 + k)) o_this_history)))))) (fun H locs hP hD hS => ?_)
              have hP : va_P D vwCl (ce_X12 kA g o_this ++ (ce_X5 kA (g 1) u_30 ++ (ce_X5 kA (g 3) o_this_saved0 ++ (ce_X5 kA (g 4) o_this_saved1 ++ (ce_X3 kA (g 5) (fun k => g (6 + k)) o_this_history))))) H := hP
              refine lv_aload_n hx hb dX12_restore_65 rfl (lv_at hl 1 rfl) ?_
              refine va_get (D := D) (ci := 8) (v := .ref ((g 5) 0)) (C := RX12) (T := TX12) (N := 15) hx hb hUX12 (fun _ h9 => h9) hown hK hP 0 rfl rfl 4 (by decide) (hts (Cond.fieldLink RX12 30 "ReliefBuilder" "history" "LReliefBuilder$History;") (List.mem_of_getElem? (i := 6) rfl)) (fun _ h9 => h9) rfl dX12_restore_66 ?_
              obtain ⟨u_32, he_33, hf⟩ := os_bd hf
              refine mc_callV ⟨hx, hb, hml, hown, hts⟩ (mm_X3_forget l D kA N (g 5) (fun k => g (6 + k)) o_this_history u_32 he_33) (cwV 0 hts gX12_restore_X3_forget rfl rfl rfl (by decide +kernel) ⟨Nat.le_of_ble_eq_true rfl, Nat.le_of_ble_eq_true rfl⟩) (wc := (ce_X3 kA (g 5) (fun k => g (6 + k)) o_this_history)) (ci := 0) (q0 := 0) rfl rfl rfl hl.1 (As := []) (rest := []) rfl (Nat.le_of_ble_eq_true rfl) dX12_restore_69 ⟨Nat.le_of_ble_eq_true rfl, Nat.le_of_ble_eq_true rfl⟩ hK hP hD hS hA [16, 17] [0, 1, 2, 3, 4, 5, 6, 7, 8, 9, 10, 11, 12, 13, 14, 15] [0, 1, 2, 3, 4, 5, 6, 7, 8, 9, 10, 11, 12, 13, 14, 15, 16, 17] rfl (by decide) rfl (by decide) (by decide) rfl (by decide) (wr := (ce_X12 kA g o_this ++ (ce_X5 kA (g 1) u_30 ++ (ce_X5 kA (g 3) o_this_saved0 ++ (ce_X5 kA (g 4) o_this_saved1))))) (w2 := (ce_X12 kA g o_this ++ (ce_X5 kA (g 1) u_30 ++ (ce_X5 kA (g 3) o_this_saved0 ++ (ce_X5 kA (g 4) o_this_saved1 ++ (ce_X3 kA (g 5) (fun k => g (6 + k)) u_32)))))) (fun H locs hP hD hS => ?_)
              have hP : va_P D vwCl (ce_X12 kA g o_this ++ (ce_X5 kA (g 1) u_30 ++ (ce_X5 kA (g 3) o_this_saved0 ++ (ce_X5 kA (g 4) o_this_saved1 ++ (ce_X3 kA (g 5) (fun k => g (6 + k)) u_32))))) H := hP
              refine lv_iload_n hx hb dX12_restore_72 rfl (lv_at hl 0 rfl) ?_
              rw [← Option.some.inj hf]
              exact mx_reti (Nat.le_of_ble_eq_true rfl) (Nat.le_of_ble_eq_true rfl) hx hb hr hlk hP hK hD hS dX12_restore_73
            rw [if_neg hc_29] at hf
            by_cases hc_34 : a1 = 1
            · rw [if_pos hc_34] at hf
              refine W.eq (g2 := F0 m 62 ls [.ref ((g 4) 0), .ref ((g 1) 0)]) (by rw [hc_34] <;> rfl) ?_
              obtain ⟨u_35, he_36, hf⟩ := os_bd hf
              refine mc_callV ⟨hx, hb, hml, hown, hts⟩ (mm_X5_copyHeightsFrom l D kA N (g 1) (g 4) o_this_panel o_this_saved1 u_35 he_36) (cwV 1 hts gX12_restore_X5_copyHeightsFrom rfl rfl rfl (by decide +kernel) ⟨Nat.le_of_ble_eq_true rfl, Nat.le_of_ble_eq_true rfl⟩) (wc := (ce_X5 kA (g 1) o_this_panel ++ (ce_X5 kA (g 4) o_this_saved1))) (ci := 2) (q0 := 0) rfl rfl rfl hl.1 (As := [.ref ((g 4) 0)]) (rest := []) rfl (Nat.le_of_ble_eq_true rfl) dX12_restore_62 ⟨Nat.le_of_ble_eq_true rfl, Nat.le_of_ble_eq_true rfl⟩ hK hP hD hS hA [4, 5, 6, 7, 12, 13, 14, 15] [0, 1, 2, 3, 8, 9, 10, 11, 16, 17] [0, 1, 2, 3, 10, 11, 12, 13, 4, 5, 6, 7, 14, 15, 16, 17, 8, 9] rfl (by decide) rfl (by decide) (by decide) rfl (by decide) (wr := (ce_X12 kA g o_this ++ (ce_X5 kA (g 3) o_this_saved0 ++ (ce_X3 kA (g 5) (fun k => g (6 + k)) o_this_history)))) (w2 := (ce_X12 kA g o_this ++ (ce_X5 kA (g 1) u_35 ++ (ce_X5 kA (g 3) o_this_saved0 ++ (ce_X5 kA (g 4) o_this_saved1 ++ (ce_X3 kA (g 5) (fun k => g (6 + k)) o_this_history)))))) (fun H locs hP hD hS => ?_)
              have hP : va_P D vwCl (ce_X12 kA g o_this ++ (ce_X5 kA (g 1) u_35 ++ (ce_X5 kA (g 3) o_this_saved0 ++ (ce_X5 kA (g 4) o_this_saved1 ++ (ce_X3 kA (g 5) (fun k => g (6 + k)) o_this_history))))) H := hP
              refine lv_aload_n hx hb dX12_restore_65 rfl (lv_at hl 1 rfl) ?_
              refine va_get (D := D) (ci := 8) (v := .ref ((g 5) 0)) (C := RX12) (T := TX12) (N := 15) hx hb hUX12 (fun _ h9 => h9) hown hK hP 0 rfl rfl 4 (by decide) (hts (Cond.fieldLink RX12 30 "ReliefBuilder" "history" "LReliefBuilder$History;") (List.mem_of_getElem? (i := 6) rfl)) (fun _ h9 => h9) rfl dX12_restore_66 ?_
              obtain ⟨u_37, he_38, hf⟩ := os_bd hf
              refine mc_callV ⟨hx, hb, hml, hown, hts⟩ (mm_X3_forget l D kA N (g 5) (fun k => g (6 + k)) o_this_history u_37 he_38) (cwV 0 hts gX12_restore_X3_forget rfl rfl rfl (by decide +kernel) ⟨Nat.le_of_ble_eq_true rfl, Nat.le_of_ble_eq_true rfl⟩) (wc := (ce_X3 kA (g 5) (fun k => g (6 + k)) o_this_history)) (ci := 0) (q0 := 0) rfl rfl rfl hl.1 (As := []) (rest := []) rfl (Nat.le_of_ble_eq_true rfl) dX12_restore_69 ⟨Nat.le_of_ble_eq_true rfl, Nat.le_of_ble_eq_true rfl⟩ hK hP hD hS hA [16, 17] [0, 1, 2, 3, 4, 5, 6, 7, 8, 9, 10, 11, 12, 13, 14, 15] [0, 1, 2, 3, 4, 5, 6, 7, 8, 9, 10, 11, 12, 13, 14, 15, 16, 17] rfl (by decide) rfl (by decide) (by decide) rfl (by decide) (wr := (ce_X12 kA g o_this ++ (ce_X5 kA (g 1) u_35 ++ (ce_X5 kA (g 3) o_this_saved0 ++ (ce_X5 kA (g 4) o_this_saved1))))) (w2 := (ce_X12 kA g o_this ++ (ce_X5 kA (g 1) u_35 ++ (ce_X5 kA (g 3) o_this_saved0 ++ (ce_X5 kA (g 4) o_this_saved1 ++ (ce_X3 kA (g 5) (fun k => g (6 + k)) u_37)))))) (fun H locs hP hD hS => ?_)
              have hP : va_P D vwCl (ce_X12 kA g o_this ++ (ce_X5 kA (g 1) u_35 ++ (ce_X5 kA (g 3) o_this_saved0 ++ (ce_X5 kA (g 4) o_this_saved1 ++ (ce_X3 kA (g 5) (fun k => g (6 + k)) u_37))))) H := hP
              refine lv_iload_n hx hb dX12_restore_72 rfl (lv_at hl 0 rfl) ?_
              rw [← Option.some.inj hf]
              exact mx_reti (Nat.le_of_ble_eq_true rfl) (Nat.le_of_ble_eq_true rfl) hx hb hr hlk hP hK hD hS dX12_restore_73
            rw [if_neg hc_34] at hf
            cases hf
          rw [if_neg hc_25] at hf
          cases hf
        · rw [if_pos hc_9] at hf
          exact hB30 o_this_panel o_this_history _ _ _ hP hD hS (lv_sub hl [] rfl) hf
      rw [if_neg hc_6] at hf
      by_cases hc_39 : a1 = 1
      · rw [if_pos hc_39] at hf
        refine W.eq (g2 := F0 m 24 ls [.ref ((g 4) 0), .ref ((g 1) 0)]) (by rw [hc_39] <;> rfl) ?_
        obtain ⟨u_40, he_41, hf⟩ := os_bd hf
        refine mc_callV ⟨hx, hb, hml, hown, hts⟩ (mm_X5_hasFormOf l D kA N (g 1) (g 4) o_this_panel o_this_saved1 u_40 he_41) (cwV 1 hts gX12_restore_X5_hasFormOf rfl rfl rfl (by decide +kernel) ⟨Nat.le_of_ble_eq_true rfl, Nat.le_of_ble_eq_true rfl⟩) (wc := (ce_X5 kA (g 1) o_this_panel ++ (ce_X5 kA (g 4) o_this_saved1))) (ci := 2) (q0 := 0) rfl rfl rfl hl.1 (As := [.ref ((g 4) 0)]) (rest := []) rfl (Nat.le_of_ble_eq_true rfl) dX12_restore_24 ⟨Nat.le_of_ble_eq_true rfl, Nat.le_of_ble_eq_true rfl⟩ hK hP hD hS hA [4, 5, 6, 7, 12, 13, 14, 15] [0, 1, 2, 3, 8, 9, 10, 11, 16, 17] [0, 1, 2, 3, 10, 11, 12, 13, 4, 5, 6, 7, 14, 15, 16, 17, 8, 9] rfl (by decide) rfl (by decide) (by decide) rfl (by decide) (wr := (ce_X12 kA g o_this ++ (ce_X5 kA (g 3) o_this_saved0 ++ (ce_X3 kA (g 5) (fun k => g (6 + k)) o_this_history)))) (w2 := (ce_X12 kA g o_this ++ (ce_X5 kA (g 1) o_this_panel ++ (ce_X5 kA (g 3) o_this_saved0 ++ (ce_X5 kA (g 4) o_this_saved1 ++ (ce_X3 kA (g 5) (fun k => g (6 + k)) o_this_history)))))) (fun H locs hP hD hS => ?_)
        have hP : va_P D vwCl (ce_X12 kA g o_this ++ (ce_X5 kA (g 1) o_this_panel ++ (ce_X5 kA (g 3) o_this_saved0 ++ (ce_X5 kA (g 4) o_this_saved1 ++ (ce_X3 kA (g 5) (fun k => g (6 + k)) o_this_history))))) H := hP
        refine lv_if_ne (tgt := 38) hx hb dX12_restore_27 (by decide) (fun hc_42 => ?_) (fun hc_42 => ?_)
        · rw [if_neg hc_42] at hf
          refine lv_aload_n hx hb dX12_restore_38 rfl (lv_at hl 0 rfl) ?_
          refine va_get (D := D) (ci := 8) (v := .ref ((g 1) 0)) (C := RX12) (T := TX12) (N := 15) hx hb hUX12 (fun _ h9 => h9) hown hK hP 0 rfl rfl 0 (by decide) (hts (Cond.fieldLink RX12 12 "ReliefBuilder" "panel" "LReliefBuilder$Panel;") (List.mem_of_getElem? (i := 4) rfl)) (fun _ h9 => h9) rfl dX12_restore_39 ?_
          refine lv_aload_n hx hb dX12_restore_42 rfl (lv_at hl 0 rfl) ?_
          refine va_get (D := D) (ci := 8) (v := .ref ((g 0) 1)) (C := RX12) (T := TX12) (N := 15) hx hb hUX12 (fun _ h9 => h9) hown hK hP 0 rfl rfl 2 (by decide) (hts (Cond.fieldLink RX12 19 "ReliefBuilder" "saved" "[LReliefBuilder$Panel;") (List.mem_of_getElem? (i := 5) rfl)) (fun _ h9 => h9) rfl dX12_restore_43 ?_
          refine lv_iload_n hx hb dX12_restore_46 rfl (lv_at hl 1 rfl) ?_
          obtain ⟨hi_43, hf⟩ := os_if hf
          refine va_aldq hx hb hK hP 1 6 rfl rfl hi_43 dX12_restore_47 ?_
          by_cases hc_44 : a1 = 0
          · rw [if_pos hc_44] at hf
            refine W.eq (g2 := F0 m 48 ls [.ref ((g 3) 0), .ref ((g 1) 0)]) (by rw [hc_44] <;> rfl) ?_
            obtain ⟨u_45, he_46, hf⟩ := os_bd hf
            refine mc_callV ⟨hx, hb, hml, hown, hts⟩ (mm_X5_differencesTo l D kA N (g 1) (g 3) o_this_panel o_this_saved0 u_45 he_46) (cwV 1 hts gX12_restore_X5_differencesTo rfl rfl rfl (by decide +kernel) ⟨Nat.le_of_ble_eq_true rfl, Nat.le_of_ble_eq_true rfl⟩) (wc := (ce_X5 kA (g 1) o_this_panel ++ (ce_X5 kA (g 3) o_this_saved0))) (ci := 2) (q0 := 0) rfl rfl rfl hl.1 (As := [.ref ((g 3) 0)]) (rest := []) rfl (Nat.le_of_ble_eq_true rfl) dX12_restore_48 ⟨Nat.le_of_ble_eq_true rfl, Nat.le_of_ble_eq_true rfl⟩ hK hP hD hS hA [4, 5, 6, 7, 8, 9, 10, 11] [0, 1, 2, 3, 12, 13, 14, 15, 16, 17] [0, 1, 2, 3, 10, 11, 12, 13, 14, 15, 16, 17, 4, 5, 6, 7, 8, 9] rfl (by decide) rfl (by decide) (by decide) rfl (by decide) (wr := (ce_X12 kA g o_this ++ (ce_X5 kA (g 4) o_this_saved1 ++ (ce_X3 kA (g 5) (fun k => g (6 + k)) o_this_history)))) (w2 := (ce_X12 kA g o_this ++ (ce_X5 kA (g 1) o_this_panel ++ (ce_X5 kA (g 3) o_this_saved0 ++ (ce_X5 kA (g 4) o_this_saved1 ++ (ce_X3 kA (g 5) (fun k => g (6 + k)) o_this_history)))))) (fun H locs hP hD hS => ?_)
            have hP : va_P D vwCl (ce_X12 kA g o_this ++ (ce_X5 kA (g 1) o_this_panel ++ (ce_X5 kA (g 3) o_this_saved0 ++ (ce_X5 kA (g 4) o_this_saved1 ++ (ce_X3 kA (g 5) (fun k => g (6 + k)) o_this_history))))) H := hP
            refine lv_istore_n (lv' := [(2, .int u_45), (0, .ref ((g 0) 0)), (1, .int a1)]) hx hb dX12_restore_51 rfl hl (by decide) rfl (fun ls hl => ?_)
            refine lv_aload_n hx hb dX12_restore_52 rfl (lv_at hl 1 rfl) ?_
            refine va_get (D := D) (ci := 8) (v := .ref ((g 1) 0)) (C := RX12) (T := TX12) (N := 15) hx hb hUX12 (fun _ h9 => h9) hown hK hP 0 rfl rfl 0 (by decide) (hts (Cond.fieldLink RX12 12 "ReliefBuilder" "panel" "LReliefBuilder$Panel;") (List.mem_of_getElem? (i := 4) rfl)) (fun _ h9 => h9) rfl dX12_restore_53 ?_
            refine lv_aload_n hx hb dX12_restore_56 rfl (lv_at hl 1 rfl) ?_
            refine va_get (D := D) (ci := 8) (v := .ref ((g 0) 1)) (C := RX12) (T := TX12) (N := 15) hx hb hUX12 (fun _ h9 => h9) hown hK hP 0 rfl rfl 2 (by decide) (hts (Cond.fieldLink RX12 19 "ReliefBuilder" "saved" "[LReliefBuilder$Panel;") (List.mem_of_getElem? (i := 5) rfl)) (fun _ h9 => h9) rfl dX12_restore_57 ?_
            refine lv_iload_n hx hb dX12_restore_60 rfl (lv_at hl 2 rfl) ?_
            obtain ⟨hi_47, hf⟩ := os_if hf
            refine va_aldq hx hb hK hP 1 6 rfl rfl hi_47 dX12_restore_61 ?_
            by_cases hc_48 : a1 = 0
            · rw [if_pos hc_48] at hf
              refine W.eq (g2 := F0 m 62 ls [.ref ((g 3) 0), .ref ((g 1) 0)]) (by rw [hc_48] <;> rfl) ?_
              obtain ⟨u_49, he_50, hf⟩ := os_bd hf
              refine mc_callV ⟨hx, hb, hml, hown, hts⟩ (mm_X5_copyHeightsFrom l D kA N (g 1) (g 3) o_this_panel o_this_saved0 u_49 he_50) (cwV 1 hts gX12_restore_X5_copyHeightsFrom rfl rfl rfl (by decide +kernel) ⟨Nat.le_of_ble_eq_true rfl, Nat.le_of_ble_eq_true rfl⟩) (wc := (ce_X5 kA (g 1) o_this_panel ++ (ce_X5 kA (g 3) o_this_saved0))) (ci := 2) (q0 := 0) rfl rfl rfl hl.1 (As := [.ref ((g 3) 0)]) (rest := []) rfl (Nat.le_of_ble_eq_true rfl) dX12_restore_62 ⟨Nat.le_of_ble_eq_true rfl, Nat.le_of_ble_eq_true rfl⟩ hK hP hD hS hA [4, 5, 6, 7, 8, 9, 10, 11] [0, 1, 2, 3, 12, 13, 14, 15, 16, 17] [0, 1, 2, 3, 10, 11, 12, 13, 14, 15, 16, 17, 4, 5, 6, 7, 8, 9] rfl (by decide) rfl (by decide) (by decide) rfl (by decide) (wr := (ce_X12 kA g o_this ++ (ce_X5 kA (g 4) o_this_saved1 ++ (ce_X3 kA (g 5) (fun k => g (6 + k)) o_this_history)))) (w2 := (ce_X12 kA g o_this ++ (ce_X5 kA (g 1) u_49 ++ (ce_X5 kA (g 3) o_this_saved0 ++ (ce_X5 kA (g 4) o_this_saved1 ++ (ce_X3 kA (g 5) (fun k => g (6 + k)) o_this_history)))))) (fun H locs hP hD hS => ?_)
              have hP : va_P D vwCl (ce_X12 kA g o_this ++ (ce_X5 kA (g 1) u_49 ++ (ce_X5 kA (g 3) o_this_saved0 ++ (ce_X5 kA (g 4) o_this_saved1 ++ (ce_X3 kA (g 5) (fun k => g (6 + k)) o_this_history))))) H := hP
              refine lv_aload_n hx hb dX12_restore_65 rfl (lv_at hl 1 rfl) ?_
              refine va_get (D := D) (ci := 8) (v := .ref ((g 5) 0)) (C := RX12) (T := TX12) (N := 15) hx hb hUX12 (fun _ h9 => h9) hown hK hP 0 rfl rfl 4 (by decide) (hts (Cond.fieldLink RX12 30 "ReliefBuilder" "history" "LReliefBuilder$History;") (List.mem_of_getElem? (i := 6) rfl)) (fun _ h9 => h9) rfl dX12_restore_66 ?_
              obtain ⟨u_51, he_52, hf⟩ := os_bd hf
              refine mc_callV ⟨hx, hb, hml, hown, hts⟩ (mm_X3_forget l D kA N (g 5) (fun k => g (6 + k)) o_this_history u_51 he_52) (cwV 0 hts gX12_restore_X3_forget rfl rfl rfl (by decide +kernel) ⟨Nat.le_of_ble_eq_true rfl, Nat.le_of_ble_eq_true rfl⟩) (wc := (ce_X3 kA (g 5) (fun k => g (6 + k)) o_this_history)) (ci := 0) (q0 := 0) rfl rfl rfl hl.1 (As := []) (rest := []) rfl (Nat.le_of_ble_eq_true rfl) dX12_restore_69 ⟨Nat.le_of_ble_eq_true rfl, Nat.le_of_ble_eq_true rfl⟩ hK hP hD hS hA [16, 17] [0, 1, 2, 3, 4, 5, 6, 7, 8, 9, 10, 11, 12, 13, 14, 15] [0, 1, 2, 3, 4, 5, 6, 7, 8, 9, 10, 11, 12, 13, 14, 15, 16, 17] rfl (by decide) rfl (by decide) (by decide) rfl (by decide) (wr := (ce_X12 kA g o_this ++ (ce_X5 kA (g 1) u_49 ++ (ce_X5 kA (g 3) o_this_saved0 ++ (ce_X5 kA (g 4) o_this_saved1))))) (w2 := (ce_X12 kA g o_this ++ (ce_X5 kA (g 1) u_49 ++ (ce_X5 kA (g 3) o_this_saved0 ++ (ce_X5 kA (g 4) o_this_saved1 ++ (ce_X3 kA (g 5) (fun k => g (6 + k)) u_51)))))) (fun H locs hP hD hS => ?_)
              have hP : va_P D vwCl (ce_X12 kA g o_this ++ (ce_X5 kA (g 1) u_49 ++ (ce_X5 kA (g 3) o_this_saved0 ++ (ce_X5 kA (g 4) o_this_saved1 ++ (ce_X3 kA (g 5) (fun k => g (6 + k)) u_51))))) H := hP
              refine lv_iload_n hx hb dX12_restore_72 rfl (lv_at hl 0 rfl) ?_
              rw [← Option.some.inj hf]
              exact mx_reti (Nat.le_of_ble_eq_true rfl) (Nat.le_of_ble_eq_true rfl) hx hb hr hlk hP hK hD hS dX12_restore_73
            rw [if_neg hc_48] at hf
            by_cases hc_53 : a1 = 1
            · rw [if_pos hc_53] at hf
              refine W.eq (g2 := F0 m 62 ls [.ref ((g 4) 0), .ref ((g 1) 0)]) (by rw [hc_53] <;> rfl) ?_
              obtain ⟨u_54, he_55, hf⟩ := os_bd hf
              refine mc_callV ⟨hx, hb, hml, hown, hts⟩ (mm_X5_copyHeightsFrom l D kA N (g 1) (g 4) o_this_panel o_this_saved1 u_54 he_55) (cwV 1 hts gX12_restore_X5_copyHeightsFrom rfl rfl rfl (by decide +kernel) ⟨Nat.le_of_ble_eq_true rfl, Nat.le_of_ble_eq_true rfl⟩) (wc := (ce_X5 kA (g 1) o_this_panel ++ (ce_X5 kA (g 4) o_this_saved1))) (ci := 2) (q0 := 0) rfl rfl rfl hl.1 (As := [.ref ((g 4) 0)]) (rest := []) rfl (Nat.le_of_ble_eq_true rfl) dX12_restore_62 ⟨Nat.le_of_ble_eq_true rfl, Nat.le_of_ble_eq_true rfl⟩ hK hP hD hS hA [4, 5, 6, 7, 12, 13, 14, 15] [0, 1, 2, 3, 8, 9, 10, 11, 16, 17] [0, 1, 2, 3, 10, 11, 12, 13, 4, 5, 6, 7, 14, 15, 16, 17, 8, 9] rfl (by decide) rfl (by decide) (by decide) rfl (by decide) (wr := (ce_X12 kA g o_this ++ (ce_X5 kA (g 3) o_this_saved0 ++ (ce_X3 kA (g 5) (fun k => g (6 + k)) o_this_history)))) (w2 := (ce_X12 kA g o_this ++ (ce_X5 kA (g 1) u_54 ++ (ce_X5 kA (g 3) o_this_saved0 ++ (ce_X5 kA (g 4) o_this_saved1 ++ (ce_X3 kA (g 5) (fun k => g (6 + k)) o_this_history)))))) (fun H locs hP hD hS => ?_)
              have hP : va_P D vwCl (ce_X12 kA g o_this ++ (ce_X5 kA (g 1) u_54 ++ (ce_X5 kA (g 3) o_this_saved0 ++ (ce_X5 kA (g 4) o_this_saved1 ++ (ce_X3 kA (g 5) (fun k => g (6 + k)) o_this_history))))) H := hP
              refine lv_aload_n hx hb dX12_restore_65 rfl (lv_at hl 1 rfl) ?_
              refine va_get (D := D) (ci := 8) (v := .ref ((g 5) 0)) (C := RX12) (T := TX12) (N := 15) hx hb hUX12 (fun _ h9 => h9) hown hK hP 0 rfl rfl 4 (by decide) (hts (Cond.fieldLink RX12 30 "ReliefBuilder" "history" "LReliefBuilder$History;") (List.mem_of_getElem? (i := 6) rfl)) (fun _ h9 => h9) rfl dX12_restore_66 ?_
              obtain ⟨u_56, he_57, hf⟩ := os_bd hf
              refine mc_callV ⟨hx, hb, hml, hown, hts⟩ (mm_X3_forget l D kA N (g 5) (fun k => g (6 + k)) o_this_history u_56 he_57) (cwV 0 hts gX12_restore_X3_forget rfl rfl rfl (by decide +kernel) ⟨Nat.le_of_ble_eq_true rfl, Nat.le_of_ble_eq_true rfl⟩) (wc := (ce_X3 kA (g 5) (fun k => g (6 + k)) o_this_history)) (ci := 0) (q0 := 0) rfl rfl rfl hl.1 (As := []) (rest := []) rfl (Nat.le_of_ble_eq_true rfl) dX12_restore_69 ⟨Nat.le_of_ble_eq_true rfl, Nat.le_of_ble_eq_true rfl⟩ hK hP hD hS hA [16, 17] [0, 1, 2, 3, 4, 5, 6, 7, 8, 9, 10, 11, 12, 13, 14, 15] [0, 1, 2, 3, 4, 5, 6, 7, 8, 9, 10, 11, 12, 13, 14, 15, 16, 17] rfl (by decide) rfl (by decide) (by decide) rfl (by decide) (wr := (ce_X12 kA g o_this ++ (ce_X5 kA (g 1) u_54 ++ (ce_X5 kA (g 3) o_this_saved0 ++ (ce_X5 kA (g 4) o_this_saved1))))) (w2 := (ce_X12 kA g o_this ++ (ce_X5 kA (g 1) u_54 ++ (ce_X5 kA (g 3) o_this_saved0 ++ (ce_X5 kA (g 4) o_this_saved1 ++ (ce_X3 kA (g 5) (fun k => g (6 + k)) u_56)))))) (fun H locs hP hD hS => ?_)
              have hP : va_P D vwCl (ce_X12 kA g o_this ++ (ce_X5 kA (g 1) u_54 ++ (ce_X5 kA (g 3) o_this_saved0 ++ (ce_X5 kA (g 4) o_this_saved1 ++ (ce_X3 kA (g 5) (fun k => g (6 + k)) u_56))))) H := hP
              refine lv_iload_n hx hb dX12_restore_72 rfl (lv_at hl 0 rfl) ?_
              rw [← Option.some.inj hf]
              exact mx_reti (Nat.le_of_ble_eq_true rfl) (Nat.le_of_ble_eq_true rfl) hx hb hr hlk hP hK hD hS dX12_restore_73
            rw [if_neg hc_53] at hf
            cases hf
          rw [if_neg hc_44] at hf
          by_cases hc_58 : a1 = 1
          · rw [if_pos hc_58] at hf
            refine W.eq (g2 := F0 m 48 ls [.ref ((g 4) 0), .ref ((g 1) 0)]) (by rw [hc_58] <;> rfl) ?_
            obtain ⟨u_59, he_60, hf⟩ := os_bd hf
            refine mc_callV ⟨hx, hb, hml, hown, hts⟩ (mm_X5_differencesTo l D kA N (g 1) (g 4) o_this_panel o_this_saved1 u_59 he_60) (cwV 1 hts gX12_restore_X5_differencesTo rfl rfl rfl (by decide +kernel) ⟨Nat.le_of_ble_eq_true rfl, Nat.le_of_ble_eq_true rfl⟩) (wc := (ce_X5 kA (g 1) o_this_panel ++ (ce_X5 kA (g 4) o_this_saved1))) (ci := 2) (q0 := 0) rfl rfl rfl hl.1 (As := [.ref ((g 4) 0)]) (rest := []) rfl (Nat.le_of_ble_eq_true rfl) dX12_restore_48 ⟨Nat.le_of_ble_eq_true rfl, Nat.le_of_ble_eq_true rfl⟩ hK hP hD hS hA [4, 5, 6, 7, 12, 13, 14, 15] [0, 1, 2, 3, 8, 9, 10, 11, 16, 17] [0, 1, 2, 3, 10, 11, 12, 13, 4, 5, 6, 7, 14, 15, 16, 17, 8, 9] rfl (by decide) rfl (by decide) (by decide) rfl (by decide) (wr := (ce_X12 kA g o_this ++ (ce_X5 kA (g 3) o_this_saved0 ++ (ce_X3 kA (g 5) (fun k => g (6 + k)) o_this_history)))) (w2 := (ce_X12 kA g o_this ++ (ce_X5 kA (g 1) o_this_panel ++ (ce_X5 kA (g 3) o_this_saved0 ++ (ce_X5 kA (g 4) o_this_saved1 ++ (ce_X3 kA (g 5) (fun k => g (6 + k)) o_this_history)))))) (fun H locs hP hD hS => ?_)
            have hP : va_P D vwCl (ce_X12 kA g o_this ++ (ce_X5 kA (g 1) o_this_panel ++ (ce_X5 kA (g 3) o_this_saved0 ++ (ce_X5 kA (g 4) o_this_saved1 ++ (ce_X3 kA (g 5) (fun k => g (6 + k)) o_this_history))))) H := hP
            refine lv_istore_n (lv' := [(2, .int u_59), (0, .ref ((g 0) 0)), (1, .int a1)]) hx hb dX12_restore_51 rfl hl (by decide) rfl (fun ls hl => ?_)
            refine lv_aload_n hx hb dX12_restore_52 rfl (lv_at hl 1 rfl) ?_
            refine va_get (D := D) (ci := 8) (v := .ref ((g 1) 0)) (C := RX12) (T := TX12) (N := 15) hx hb hUX12 (fun _ h9 => h9) hown hK hP 0 rfl rfl 0 (by decide) (hts (Cond.fieldLink RX12 12 "ReliefBuilder" "panel" "LReliefBuilder$Panel;") (List.mem_of_getElem? (i := 4) rfl)) (fun _ h9 => h9) rfl dX12_restore_53 ?_
            refine lv_aload_n hx hb dX12_restore_56 rfl (lv_at hl 1 rfl) ?_
            refine va_get (D := D) (ci := 8) (v := .ref ((g 0) 1)) (C := RX12) (T := TX12) (N := 15) hx hb hUX12 (fun _ h9 => h9) hown hK hP 0 rfl rfl 2 (by decide) (hts (Cond.fieldLink RX12 19 "ReliefBuilder" "saved" "[LReliefBuilder$Panel;") (List.mem_of_getElem? (i := 5) rfl)) (fun _ h9 => h9) rfl dX12_restore_57 ?_
            refine lv_iload_n hx hb dX12_restore_60 rfl (lv_at hl 2 rfl) ?_
            obtain ⟨hi_61, hf⟩ := os_if hf
            refine va_aldq hx hb hK hP 1 6 rfl rfl hi_61 dX12_restore_61 ?_
            by_cases hc_62 : a1 = 0
            · rw [if_pos hc_62] at hf
              refine W.eq (g2 := F0 m 62 ls [.ref ((g 3) 0), .ref ((g 1) 0)]) (by rw [hc_62] <;> rfl) ?_
              obtain ⟨u_63, he_64, hf⟩ := os_bd hf
              refine mc_callV ⟨hx, hb, hml, hown, hts⟩ (mm_X5_copyHeightsFrom l D kA N (g 1) (g 3) o_this_panel o_this_saved0 u_63 he_64) (cwV 1 hts gX12_restore_X5_copyHeightsFrom rfl rfl rfl (by decide +kernel) ⟨Nat.le_of_ble_eq_true rfl, Nat.le_of_ble_eq_true rfl⟩) (wc := (ce_X5 kA (g 1) o_this_panel ++ (ce_X5 kA (g 3) o_this_saved0))) (ci := 2) (q0 := 0) rfl rfl rfl hl.1 (As := [.ref ((g 3) 0)]) (rest := []) rfl (Nat.le_of_ble_eq_true rfl) dX12_restore_62 ⟨Nat.le_of_ble_eq_true rfl, Nat.le_of_ble_eq_true rfl⟩ hK hP hD hS hA [4, 5, 6, 7, 8, 9, 10, 11] [0, 1, 2, 3, 12, 13, 14, 15, 16, 17] [0, 1, 2, 3, 10, 11, 12, 13, 14, 15, 16, 17, 4, 5, 6, 7, 8, 9] rfl (by decide) rfl (by decide) (by decide) rfl (by decide) (wr := (ce_X12 kA g o_this ++ (ce_X5 kA (g 4) o_this_saved1 ++ (ce_X3 kA (g 5) (fun k => g (6 + k)) o_this_history)))) (w2 := (ce_X12 kA g o_this ++ (ce_X5 kA (g 1) u_63 ++ (ce_X5 kA (g 3) o_this_saved0 ++ (ce_X5 kA (g 4) o_this_saved1 ++ (ce_X3 kA (g 5) (fun k => g (6 + k)) o_this_history)))))) (fun H locs hP hD hS => ?_)
              have hP : va_P D vwCl (ce_X12 kA g o_this ++ (ce_X5 kA (g 1) u_63 ++ (ce_X5 kA (g 3) o_this_saved0 ++ (ce_X5 kA (g 4) o_this_saved1 ++ (ce_X3 kA (g 5) (fun k => g (6 + k)) o_this_history))))) H := hP
              refine lv_aload_n hx hb dX12_restore_65 rfl (lv_at hl 1 rfl) ?_
              refine va_get (D := D) (ci := 8) (v := .ref ((g 5) 0)) (C := RX12) (T := TX12) (N := 15) hx hb hUX12 (fun _ h9 => h9) hown hK hP 0 rfl rfl 4 (by decide) (hts (Cond.fieldLink RX12 30 "ReliefBuilder" "history" "LReliefBuilder$History;") (List.mem_of_getElem? (i := 6) rfl)) (fun _ h9 => h9) rfl dX12_restore_66 ?_
              obtain ⟨u_65, he_66, hf⟩ := os_bd hf
              refine mc_callV ⟨hx, hb, hml, hown, hts⟩ (mm_X3_forget l D kA N (g 5) (fun k => g (6 + k)) o_this_history u_65 he_66) (cwV 0 hts gX12_restore_X3_forget rfl rfl rfl (by decide +kernel) ⟨Nat.le_of_ble_eq_true rfl, Nat.le_of_ble_eq_true rfl⟩) (wc := (ce_X3 kA (g 5) (fun k => g (6 + k)) o_this_history)) (ci := 0) (q0 := 0) rfl rfl rfl hl.1 (As := []) (rest := []) rfl (Nat.le_of_ble_eq_true rfl) dX12_restore_69 ⟨Nat.le_of_ble_eq_true rfl, Nat.le_of_ble_eq_true rfl⟩ hK hP hD hS hA [16, 17] [0, 1, 2, 3, 4, 5, 6, 7, 8, 9, 10, 11, 12, 13, 14, 15] [0, 1, 2, 3, 4, 5, 6, 7, 8, 9, 10, 11, 12, 13, 14, 15, 16, 17] rfl (by decide) rfl (by decide) (by decide) rfl (by decide) (wr := (ce_X12 kA g o_this ++ (ce_X5 kA (g 1) u_63 ++ (ce_X5 kA (g 3) o_this_saved0 ++ (ce_X5 kA (g 4) o_this_saved1))))) (w2 := (ce_X12 kA g o_this ++ (ce_X5 kA (g 1) u_63 ++ (ce_X5 kA (g 3) o_this_saved0 ++ (ce_X5 kA (g 4) o_this_saved1 ++ (ce_X3 kA (g 5) (fun k => g (6 + k)) u_65)))))) (fun H locs hP hD hS => ?_)
              have hP : va_P D vwCl (ce_X12 kA g o_this ++ (ce_X5 kA (g 1) u_63 ++ (ce_X5 kA (g 3) o_this_saved0 ++ (ce_X5 kA (g 4) o_this_saved1 ++ (ce_X3 kA (g 5) (fun k => g (6 + k)) u_65))))) H := hP
              refine lv_iload_n hx hb dX12_restore_72 rfl (lv_at hl 0 rfl) ?_
              rw [← Option.some.inj hf]
              exact mx_reti (Nat.le_of_ble_eq_true rfl) (Nat.le_of_ble_eq_true rfl) hx hb hr hlk hP hK hD hS dX12_restore_73
            rw [if_neg hc_62] at hf
            by_cases hc_67 : a1 = 1
            · rw [if_pos hc_67] at hf
              refine W.eq (g2 := F0 m 62 ls [.ref ((g 4) 0), .ref ((g 1) 0)]) (by rw [hc_67] <;> rfl) ?_
              obtain ⟨u_68, he_69, hf⟩ := os_bd hf
              refine mc_callV ⟨hx, hb, hml, hown, hts⟩ (mm_X5_copyHeightsFrom l D kA N (g 1) (g 4) o_this_panel o_this_saved1 u_68 he_69) (cwV 1 hts gX12_restore_X5_copyHeightsFrom rfl rfl rfl (by decide +kernel) ⟨Nat.le_of_ble_eq_true rfl, Nat.le_of_ble_eq_true rfl⟩) (wc := (ce_X5 kA (g 1) o_this_panel ++ (ce_X5 kA (g 4) o_this_saved1))) (ci := 2) (q0 := 0) rfl rfl rfl hl.1 (As := [.ref ((g 4) 0)]) (rest := []) rfl (Nat.le_of_ble_eq_true rfl) dX12_restore_62 ⟨Nat.le_of_ble_eq_true rfl, Nat.le_of_ble_eq_true rfl⟩ hK hP hD hS hA [4, 5, 6, 7, 12, 13, 14, 15] [0, 1, 2, 3, 8, 9, 10, 11, 16, 17] [0, 1, 2, 3, 10, 11, 12, 13, 4, 5, 6, 7, 14, 15, 16, 17, 8, 9] rfl (by decide) rfl (by decide) (by decide) rfl (by decide) (wr := (ce_X12 kA g o_this ++ (ce_X5 kA (g 3) o_this_saved0 ++ (ce_X3 kA (g 5) (fun k => g (6 + k)) o_this_history)))) (w2 := (ce_X12 kA g o_this ++ (ce_X5 kA (g 1) u_68 ++ (ce_X5 kA (g 3) o_this_saved0 ++ (ce_X5 kA (g 4) o_this_saved1 ++ (ce_X3 kA (g 5) (fun k => g (6 + k)) o_this_history)))))) (fun H locs hP hD hS => ?_)
              have hP : va_P D vwCl (ce_X12 kA g o_this ++ (ce_X5 kA (g 1) u_68 ++ (ce_X5 kA (g 3) o_this_saved0 ++ (ce_X5 kA (g 4) o_this_saved1 ++ (ce_X3 kA (g 5) (fun k => g (6 + k)) o_this_history))))) H := hP
              refine lv_aload_n hx hb dX12_restore_65 rfl (lv_at hl 1 rfl) ?_
              refine va_get (D := D) (ci := 8) (v := .ref ((g 5) 0)) (C := RX12) (T := TX12) (N := 15) hx hb hUX12 (fun _ h9 => h9) hown hK hP 0 rfl rfl 4 (by decide) (hts (Cond.fieldLink RX12 30 "ReliefBuilder" "history" "LReliefBuilder$History;") (List.mem_of_getElem? (i := 6) rfl)) (fun _ h9 => h9) rfl dX12_restore_66 ?_
              obtain ⟨u_70, he_71, hf⟩ := os_bd hf
              refine mc_callV ⟨hx, hb, hml, hown, hts⟩ (mm_X3_forget l D kA N (g 5) (fun k => g (6 + k)) o_this_history u_70 he_71) (cwV 0 hts gX12_restore_X3_forget rfl rfl rfl (by decide +kernel) ⟨Nat.le_of_ble_eq_true rfl, Nat.le_of_ble_eq_true rfl⟩) (wc := (ce_X3 kA (g 5) (fun k => g (6 + k)) o_this_history)) (ci := 0) (q0 := 0) rfl rfl rfl hl.1 (As := []) (rest := []) rfl (Nat.le_of_ble_eq_true rfl) dX12_restore_69 ⟨Nat.le_of_ble_eq_true rfl, Nat.le_of_ble_eq_true rfl⟩ hK hP hD hS hA [16, 17] [0, 1, 2, 3, 4, 5, 6, 7, 8, 9, 10, 11, 12, 13, 14, 15] [0, 1, 2, 3, 4, 5, 6, 7, 8, 9, 10, 11, 12, 13, 14, 15, 16, 17] rfl (by decide) rfl (by decide) (by decide) rfl (by decide) (wr := (ce_X12 kA g o_this ++ (ce_X5 kA (g 1) u_68 ++ (ce_X5 kA (g 3) o_this_saved0 ++ (ce_X5 kA (g 4) o_this_saved1))))) (w2 := (ce_X12 kA g o_this ++ (ce_X5 kA (g 1) u_68 ++ (ce_X5 kA (g 3) o_this_saved0 ++ (ce_X5 kA (g 4) o_this_saved1 ++ (ce_X3 kA (g 5) (fun k => g (6 + k)) u_70)))))) (fun H locs hP hD hS => ?_)
              have hP : va_P D vwCl (ce_X12 kA g o_this ++ (ce_X5 kA (g 1) u_68 ++ (ce_X5 kA (g 3) o_this_saved0 ++ (ce_X5 kA (g 4) o_this_saved1 ++ (ce_X3 kA (g 5) (fun k => g (6 + k)) u_70))))) H := hP
              refine lv_iload_n hx hb dX12_restore_72 rfl (lv_at hl 0 rfl) ?_
              rw [← Option.some.inj hf]
              exact mx_reti (Nat.le_of_ble_eq_true rfl) (Nat.le_of_ble_eq_true rfl) hx hb hr hlk hP hK hD hS dX12_restore_73
            rw [if_neg hc_67] at hf
            cases hf
          rw [if_neg hc_58] at hf
          cases hf
        · rw [if_pos hc_42] at hf
          exact hB30 o_this_panel o_this_history _ _ _ hP hD hS (lv_sub hl [] rfl) hf
      rw [if_neg hc_39] at hf
      cases hf
