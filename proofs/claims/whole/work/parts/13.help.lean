def ff_L_feed (N : Nat) (o_p0 : os_T) (o_p0_tokens : os_T) (o_p6 : os_T) (a1 : Int32) (a2 : Int32) (a3 : Int32) (a4 : Int32) (a5 : Int32) : Option (Int32 × os_T × os_T) :=
  ((ff_X12_feed N o_p0 o_p0_tokens a1 a2 a3 a4 a5).bind fun u_1 => (if u_1.1 = 0 then (if os_in (0 : Int32) 1 then some ((0 : Int32), u_1.2.2, ss_LF o_p6 (vp_updL (os_L o_p6) (Int32.toNatClampNeg (0 : Int32)) (Int32.toInt64 u_1.2.1))) else none) else (if u_1.1 = 1 then some ((1 : Int32), u_1.2.2, o_p6) else none)))
set_option maxHeartbeats 4000000 in
set_option maxRecDepth 100000 in
theorem mm_L_feed (l : Launch) (hst : l.stackTraces = false) (zz : Nat → Nat → Nat) (D : va_G) (kA : Nat → ClassId) (N : Nat) (g : Nat → Nat → Nat) (q_p6 : Nat → Nat) (o_p0 : os_T) (o_p0_tokens : os_T) (o_p6 : os_T) (a1 : Int32) (a2 : Int32) (a3 : Int32) (a4 : Int32) (a5 : Int32) (out : (Int32 × os_T × os_T)) (hf : ff_L_feed N o_p0 o_p0_tokens o_p6 a1 a2 a3 a4 a5 = some out) : mh_C l zz D kA yL_feed wsL_feed ({ frames := 7, cells := 1, slots := 6, locals := 115 } : Room) [.ref ((g 0) 0), .int a1, .int a2, .int a3, .int a4, .int a5, .ref (q_p6 0)] (ce_X12 kA g o_p0 ++ (ce_X10 kA (g 16) o_p0_tokens ++ (ce_XJ kA q_p6 o_p6))) (some (.int out.1)) (ce_X12 kA g o_p0 ++ (ce_X10 kA (g 16) out.2.1 ++ (ce_XJ kA q_p6 out.2.2))) := by
  refine mh_of (hh := [(0, 16, 19, 13)]) (cc := cL_feed) (maxL := 8) (ret := (some .int)) (by decide) rfl (Nat.le_of_ble_eq_true rfl) ?_
  intro p e s m below meth c A B hex hZ hD hP hS ls hl
  obtain ⟨hx, hb, hr, hlk, hml, hown, hts, hK, hA, hnm⟩ := B
  have hown : s.vm.findClass RL = some m.cls := hown
  have hl : lv_has ls 8 [(0, .ref ((g 0) 0)), (1, .int a1), (2, .int a2), (3, .int a3), (4, .int a4), (5, .int a5), (6, .ref (q_p6 0))] := hl
  unfold ff_L_feed at hf
  refine lv_aload hx hb dL_feed_0 (lv_at hl 6 rfl) ?_
  refine lv_iconst (v := 0) hx hb dL_feed_2 (by decide) ?_
  refine lv_aload_n hx hb dL_feed_3 rfl (lv_at hl 0 rfl) ?_
  refine lv_iload_n hx hb dL_feed_4 rfl (lv_at hl 1 rfl) ?_
  refine lv_iload_n hx hb dL_feed_5 rfl (lv_at hl 2 rfl) ?_
  refine lv_iload_n hx hb dL_feed_6 rfl (lv_at hl 3 rfl) ?_
  refine lv_iload hx hb dL_feed_7 (lv_at hl 4 rfl) ?_
  refine lv_iload hx hb dL_feed_9 (lv_at hl 5 rfl) ?_
  obtain ⟨u_1, he_2, hf⟩ := os_bd hf
  refine mx_callV ⟨hx, hb, hml, hown, hts⟩ (mm_X12_feed l hst zz D kA N g o_p0 o_p0_tokens a1 a2 a3 a4 a5 u_1 he_2) (cwV 5 hts gL_feed_X12_feed rfl rfl rfl (by decide +kernel) ⟨Nat.le_of_ble_eq_true rfl, Nat.le_of_ble_eq_true rfl⟩) (wc := (ce_X12 kA g o_p0 ++ (ce_X10 kA (g 16) o_p0_tokens))) (ci := 8) (q0 := 0) rfl rfl rfl hl.1 (As := [.int a1, .int a2, .int a3, .int a4, .int a5]) (rest := [.int (0 : Int32), .ref (q_p6 0)]) rfl (Nat.le_of_ble_eq_true rfl) dL_feed_11 ⟨Nat.le_of_ble_eq_true rfl, Nat.le_of_ble_eq_true rfl⟩ hK hP hD hS hA hZ [0, 1, 2, 3, 4, 5, 6, 7, 8] [9] [1, 2, 3, 4, 5, 6, 7, 8, 9, 0] rfl (by decide) rfl (by decide) (by decide) rfl (by decide) (wr := (ce_XJ kA q_p6 o_p6)) (w2 := (ce_X12 kA g o_p0 ++ (ce_X10 kA (g 16) u_1.2.2 ++ (ce_XJ kA q_p6 o_p6)))) (fun hx9 H locs q9 ce hP hD hS h91 h92 h93 => ?_) (fun hx9 H locs hP hD hS => ?_)
  · rw [if_neg hx9] at hf
    by_cases hy_4 : u_1.1 = 1
    · rw [if_pos hy_4] at hf
      rw [hy_4] at h93
      refine vx_catch (E := mx_n 1) (name := "java/lang/IllegalStateException") hown [] (⟨0, 16, 19, 13⟩ : ExceptionTableEntry) [] hex (fun z h => nomatch h) rfl (by decide) (hts (Cond.classLink RL 13 "java/lang/IllegalStateException") (List.mem_of_getElem? (i := 1) rfl)) (va_Nw.use rfl (hZ.2.2.1.2.2.2.1 1)) h91 h92 h93 ?_
      have hP : va_P D vwCl (ce_X12 kA g o_p0 ++ (ce_X10 kA (g 16) u_1.2.2 ++ (ce_XJ kA q_p6 o_p6))) H := hP
      refine lv_astore (lv' := [(7, .ref q9), (0, .ref ((g 0) 0)), (1, .int a1), (2, .int a2), (3, .int a3), (4, .int a4), (5, .int a5), (6, .ref (q_p6 0))]) hx hb dL_feed_19 hl (by decide) rfl (fun ls hl => ?_)
      refine lv_iconst (v := 1) hx hb dL_feed_21 (by decide) ?_
      rw [← Option.some.inj hf]
      exact W.widen (k := 1) (n := 6) (Nat.le_of_ble_eq_true rfl) (Nat.le_of_ble_eq_true rfl) (mc_reti hx hb hr hlk hP hK hD hS dL_feed_22)
    rw [if_neg hy_4] at hf
    cases hf
  · rw [if_pos hx9] at hf
    refine W.widen (k := 1) (n := 6) (Nat.le_of_ble_eq_true rfl) (Nat.le_of_ble_eq_true rfl) ?_
    have hP : va_P D vwCl (ce_X12 kA g o_p0 ++ (ce_X10 kA (g 16) u_1.2.2 ++ (ce_XJ kA q_p6 o_p6))) H := hP
    refine lv_i2l hx hb dL_feed_14 rfl ?_
    obtain ⟨hi_3, hf⟩ := os_if hf
    refine va_last hx hb hK hP hD hS 9 4 rfl rfl hi_3 dL_feed_15 (fun H locs hP hD hS => ?_)
    have hP : va_P D vwCl (ce_X12 kA g o_p0 ++ (ce_X10 kA (g 16) u_1.2.2 ++ (ce_XJ kA q_p6 (ss_LF o_p6 (vp_updL (os_L o_p6) (Int32.toNatClampNeg (0 : Int32)) (Int32.toInt64 u_1.2.1)))))) H := hP
    have hD : va_D A (ce_X12 kA g o_p0 ++ (ce_X10 kA (g 16) u_1.2.2 ++ (ce_XJ kA q_p6 (ss_LF o_p6 (vp_updL (os_L o_p6) (Int32.toNatClampNeg (0 : Int32)) (Int32.toInt64 u_1.2.1)))))) := hD
    refine lv_goto (tgt := 23) hx hb dL_feed_16 (by decide) ?_
    refine lv_iconst (v := 0) hx hb dL_feed_23 (by decide) ?_
    rw [← Option.some.inj hf]
    exact W.widen (k := 1) (n := 6) (Nat.le_of_ble_eq_true rfl) (Nat.le_of_ble_eq_true rfl) (mc_reti hx hb hr hlk hP hK hD hS dL_feed_24)
def ff_L_truncate (N : Nat) (o_p0 : os_T) (o_p0_tokens : os_T) (o_p2 : os_T) (a1 : Int32) : Option (Int32 × os_T × os_T) :=
  ((ff_X12_truncate N o_p0 o_p0_tokens a1).bind fun u_1 => (if u_1.1 = 0 then (if os_in (0 : Int32) 1 then some ((0 : Int32), u_1.2.2, ss_LF o_p2 (vp_updL (os_L o_p2) (Int32.toNatClampNeg (0 : Int32)) (Int32.toInt64 u_1.2.1))) else none) else (if u_1.1 = 2 then some ((1 : Int32), u_1.2.2, o_p2) else none)))
set_option maxHeartbeats 4000000 in
set_option maxRecDepth 100000 in
theorem mm_L_truncate (l : Launch) (hst : l.stackTraces = false) (zz : Nat → Nat → Nat) (D : va_G) (kA : Nat → ClassId) (N : Nat) (g : Nat → Nat → Nat) (q_p2 : Nat → Nat) (o_p0 : os_T) (o_p0_tokens : os_T) (o_p2 : os_T) (a1 : Int32) (out : (Int32 × os_T × os_T)) (hf : ff_L_truncate N o_p0 o_p0_tokens o_p2 a1 = some out) : mh_C l zz D kA yL_truncate wsL_truncate ({ frames := 7, cells := 1, slots := 6, locals := 111 } : Room) [.ref ((g 0) 0), .int a1, .ref (q_p2 0)] (ce_X12 kA g o_p0 ++ (ce_X10 kA (g 16) o_p0_tokens ++ (ce_XJ kA q_p2 o_p2))) (some (.int out.1)) (ce_X12 kA g o_p0 ++ (ce_X10 kA (g 16) out.2.1 ++ (ce_XJ kA q_p2 out.2.2))) := by
  refine mh_of (hh := [(0, 9, 12, 19)]) (cc := cL_truncate) (maxL := 4) (ret := (some .int)) (by decide) rfl (Nat.le_of_ble_eq_true rfl) ?_
  intro p e s m below meth c A B hex hZ hD hP hS ls hl
  obtain ⟨hx, hb, hr, hlk, hml, hown, hts, hK, hA, hnm⟩ := B
  have hown : s.vm.findClass RL = some m.cls := hown
  have hl : lv_has ls 4 [(0, .ref ((g 0) 0)), (1, .int a1), (2, .ref (q_p2 0))] := hl
  unfold ff_L_truncate at hf
  refine lv_aload_n hx hb dL_truncate_0 rfl (lv_at hl 2 rfl) ?_
  refine lv_iconst (v := 0) hx hb dL_truncate_1 (by decide) ?_
  refine lv_aload_n hx hb dL_truncate_2 rfl (lv_at hl 0 rfl) ?_
  refine lv_iload_n hx hb dL_truncate_3 rfl (lv_at hl 1 rfl) ?_
  obtain ⟨u_1, he_2, hf⟩ := os_bd hf
  refine mx_callV ⟨hx, hb, hml, hown, hts⟩ (mm_X12_truncate l hst zz D kA N g o_p0 o_p0_tokens a1 u_1 he_2) (cwV 1 hts gL_truncate_X12_truncate rfl rfl rfl (by decide +kernel) ⟨Nat.le_of_ble_eq_true rfl, Nat.le_of_ble_eq_true rfl⟩) (wc := (ce_X12 kA g o_p0 ++ (ce_X10 kA (g 16) o_p0_tokens))) (ci := 8) (q0 := 0) rfl rfl rfl hl.1 (As := [.int a1]) (rest := [.int (0 : Int32), .ref (q_p2 0)]) rfl (Nat.le_of_ble_eq_true rfl) dL_truncate_4 ⟨Nat.le_of_ble_eq_true rfl, Nat.le_of_ble_eq_true rfl⟩ hK hP hD hS hA hZ [0, 1, 2, 3, 4, 5, 6, 7, 8] [9] [1, 2, 3, 4, 5, 6, 7, 8, 9, 0] rfl (by decide) rfl (by decide) (by decide) rfl (by decide) (wr := (ce_XJ kA q_p2 o_p2)) (w2 := (ce_X12 kA g o_p0 ++ (ce_X10 kA (g 16) u_1.2.2 ++ (ce_XJ kA q_p2 o_p2)))) (fun hx9 H locs q9 ce hP hD hS h91 h92 h93 => ?_) (fun hx9 H locs hP hD hS => ?_)
  · rw [if_neg hx9] at hf
    by_cases hy_4 : u_1.1 = 2
    · rw [if_pos hy_4] at hf
      rw [hy_4] at h93
      refine vx_catch (E := mx_n 2) (name := "java/lang/IllegalArgumentException") hown [] (⟨0, 9, 12, 19⟩ : ExceptionTableEntry) [] hex (fun z h => nomatch h) rfl (by decide) (hts (Cond.classLink RL 19 "java/lang/IllegalArgumentException") (List.mem_of_getElem? (i := 1) rfl)) (va_Nw.use rfl (hZ.2.2.1.2.2.2.1 2)) h91 h92 h93 ?_
      have hP : va_P D vwCl (ce_X12 kA g o_p0 ++ (ce_X10 kA (g 16) u_1.2.2 ++ (ce_XJ kA q_p2 o_p2))) H := hP
      refine lv_astore_n (lv' := [(3, .ref q9), (0, .ref ((g 0) 0)), (1, .int a1), (2, .ref (q_p2 0))]) hx hb dL_truncate_12 rfl hl (by decide) rfl (fun ls hl => ?_)
      refine lv_iconst (v := 1) hx hb dL_truncate_13 (by decide) ?_
      rw [← Option.some.inj hf]
      exact W.widen (k := 1) (n := 6) (Nat.le_of_ble_eq_true rfl) (Nat.le_of_ble_eq_true rfl) (mc_reti hx hb hr hlk hP hK hD hS dL_truncate_14)
    rw [if_neg hy_4] at hf
    cases hf
  · rw [if_pos hx9] at hf
    refine W.widen (k := 1) (n := 6) (Nat.le_of_ble_eq_true rfl) (Nat.le_of_ble_eq_true rfl) ?_
    have hP : va_P D vwCl (ce_X12 kA g o_p0 ++ (ce_X10 kA (g 16) u_1.2.2 ++ (ce_XJ kA q_p2 o_p2))) H := hP
    refine lv_i2l hx hb dL_truncate_7 rfl ?_
    obtain ⟨hi_3, hf⟩ := os_if hf
    refine va_last hx hb hK hP hD hS 9 4 rfl rfl hi_3 dL_truncate_8 (fun H locs hP hD hS => ?_)
    have hP : va_P D vwCl (ce_X12 kA g o_p0 ++ (ce_X10 kA (g 16) u_1.2.2 ++ (ce_XJ kA q_p2 (ss_LF o_p2 (vp_updL (os_L o_p2) (Int32.toNatClampNeg (0 : Int32)) (Int32.toInt64 u_1.2.1)))))) H := hP
    have hD : va_D A (ce_X12 kA g o_p0 ++ (ce_X10 kA (g 16) u_1.2.2 ++ (ce_XJ kA q_p2 (ss_LF o_p2 (vp_updL (os_L o_p2) (Int32.toNatClampNeg (0 : Int32)) (Int32.toInt64 u_1.2.1)))))) := hD
    refine lv_goto (tgt := 15) hx hb dL_truncate_9 (by decide) ?_
    refine lv_iconst (v := 0) hx hb dL_truncate_15 (by decide) ?_
    rw [← Option.some.inj hf]
    exact W.widen (k := 1) (n := 6) (Nat.le_of_ble_eq_true rfl) (Nat.le_of_ble_eq_true rfl) (mc_reti hx hb hr hlk hP hK hD hS dL_truncate_16)
def ff_L_readText (N : Nat) (o_p0 : os_T) (o_p0_panel : os_T) (o_p0_spare : os_T) (o_p0_history : os_T) (o_p0_tokens : os_T) (o_p0_reliefText : os_T) (o_p1 : os_T) : Option (Int32 × os_T × os_T × os_T × os_T × os_T × os_T × os_T) :=
  ((ff_X12_readText N o_p0 o_p0_panel o_p0_spare o_p0_history o_p0_tokens o_p0_reliefText).bind fun u_1 => (if u_1.1 = 0 then (if os_in (0 : Int32) 1 then some ((0 : Int32), u_1.2.2.1, u_1.2.2.2.1, u_1.2.2.2.2.1, u_1.2.2.2.2.2.1, u_1.2.2.2.2.2.2.1, u_1.2.2.2.2.2.2.2, ss_LF o_p1 (vp_updL (os_L o_p1) (Int32.toNatClampNeg (0 : Int32)) (Int32.toInt64 u_1.2.1))) else none) else (if u_1.1 = 2 then some ((1 : Int32), u_1.2.2.1, u_1.2.2.2.1, u_1.2.2.2.2.1, u_1.2.2.2.2.2.1, u_1.2.2.2.2.2.2.1, u_1.2.2.2.2.2.2.2, o_p1) else none)))
set_option maxHeartbeats 4000000 in
set_option maxRecDepth 100000 in
theorem mm_L_readText (l : Launch) (hst : l.stackTraces = false) (zz : Nat → Nat → Nat) (D : va_G) (kA : Nat → ClassId) (N : Nat) (g : Nat → Nat → Nat) (q_p1 : Nat → Nat) (o_p0 : os_T) (o_p0_panel : os_T) (o_p0_spare : os_T) (o_p0_history : os_T) (o_p0_tokens : os_T) (o_p0_reliefText : os_T) (o_p1 : os_T) (out : (Int32 × os_T × os_T × os_T × os_T × os_T × os_T × os_T)) (hf : ff_L_readText N o_p0 o_p0_panel o_p0_spare o_p0_history o_p0_tokens o_p0_reliefText o_p1 = some out) : mh_C l zz D kA yL_readText wsL_readText ({ frames := 10, cells := 1, slots := 6, locals := 210 } : Room) [.ref ((g 0) 0), .ref (q_p1 0)] (ce_X12 kA g o_p0 ++ (ce_X5 kA (g 1) o_p0_panel ++ (ce_X5 kA (g 2) o_p0_spare ++ (ce_X3 kA (g 5) (fun k => g (6 + k)) o_p0_history ++ (ce_X10 kA (g 16) o_p0_tokens ++ (ce_X7 kA (g 17) (g 16) (g 2) o_p0_reliefText ++ (ce_XJ kA q_p1 o_p1))))))) (some (.int out.1)) (ce_X12 kA g out.2.1 ++ (ce_X5 kA (g 1) out.2.2.1 ++ (ce_X5 kA (g 2) out.2.2.2.1 ++ (ce_X3 kA (g 5) (fun k => g (6 + k)) out.2.2.2.2.1 ++ (ce_X10 kA (g 16) out.2.2.2.2.2.1 ++ (ce_X7 kA (g 17) (g 16) (g 2) out.2.2.2.2.2.2.1 ++ (ce_XJ kA q_p1 out.2.2.2.2.2.2.2))))))) := by
  refine mh_of (hh := [(0, 8, 11, 19)]) (cc := cL_readText) (maxL := 3) (ret := (some .int)) (by decide) rfl (Nat.le_of_ble_eq_true rfl) ?_
  intro p e s m below meth c A B hex hZ hD hP hS ls hl
  obtain ⟨hx, hb, hr, hlk, hml, hown, hts, hK, hA, hnm⟩ := B
  have hown : s.vm.findClass RL = some m.cls := hown
  have hl : lv_has ls 3 [(0, .ref ((g 0) 0)), (1, .ref (q_p1 0))] := hl
  unfold ff_L_readText at hf
  refine lv_aload_n hx hb dL_readText_0 rfl (lv_at hl 1 rfl) ?_
  refine lv_iconst (v := 0) hx hb dL_readText_1 (by decide) ?_
  refine lv_aload_n hx hb dL_readText_2 rfl (lv_at hl 0 rfl) ?_
  obtain ⟨u_1, he_2, hf⟩ := os_bd hf
  refine mx_callV ⟨hx, hb, hml, hown, hts⟩ (mm_X12_readText l hst zz D kA N g o_p0 o_p0_panel o_p0_spare o_p0_history o_p0_tokens o_p0_reliefText u_1 he_2) (cwV 0 hts gL_readText_X12_readText rfl rfl rfl (by decide +kernel) ⟨Nat.le_of_ble_eq_true rfl, Nat.le_of_ble_eq_true rfl⟩) (wc := (ce_X12 kA g o_p0 ++ (ce_X5 kA (g 1) o_p0_panel ++ (ce_X5 kA (g 2) o_p0_spare ++ (ce_X3 kA (g 5) (fun k => g (6 + k)) o_p0_history ++ (ce_X10 kA (g 16) o_p0_tokens ++ (ce_X7 kA (g 17) (g 16) (g 2) o_p0_reliefText))))))) (ci := 8) (q0 := 0) rfl rfl rfl hl.1 (As := []) (rest := [.int (0 : Int32), .ref (q_p1 0)]) rfl (Nat.le_of_ble_eq_true rfl) dL_readText_3 ⟨Nat.le_of_ble_eq_true rfl, Nat.le_of_ble_eq_true rfl⟩ hK hP hD hS hA hZ [0, 1, 2, 3, 4, 5, 6, 7, 8, 9, 10, 11, 12, 13, 14, 15, 16, 17, 18, 19] [20] [1, 2, 3, 4, 5, 6, 7, 8, 9, 10, 11, 12, 13, 14, 15, 16, 17, 18, 19, 20, 0] rfl (by decide) rfl (by decide) (by decide) rfl (by decide) (wr := (ce_XJ kA q_p1 o_p1)) (w2 := (ce_X12 kA g u_1.2.2.1 ++ (ce_X5 kA (g 1) u_1.2.2.2.1 ++ (ce_X5 kA (g 2) u_1.2.2.2.2.1 ++ (ce_X3 kA (g 5) (fun k => g (6 + k)) u_1.2.2.2.2.2.1 ++ (ce_X10 kA (g 16) u_1.2.2.2.2.2.2.1 ++ (ce_X7 kA (g 17) (g 16) (g 2) u_1.2.2.2.2.2.2.2 ++ (ce_XJ kA q_p1 o_p1)))))))) (fun hx9 H locs q9 ce hP hD hS h91 h92 h93 => ?_) (fun hx9 H locs hP hD hS => ?_)
  · rw [if_neg hx9] at hf
    by_cases hy_4 : u_1.1 = 2
    · rw [if_pos hy_4] at hf
      rw [hy_4] at h93
      refine vx_catch (E := mx_n 2) (name := "java/lang/IllegalArgumentException") hown [] (⟨0, 8, 11, 19⟩ : ExceptionTableEntry) [] hex (fun z h => nomatch h) rfl (by decide) (hts (Cond.classLink RL 19 "java/lang/IllegalArgumentException") (List.mem_of_getElem? (i := 1) rfl)) (va_Nw.use rfl (hZ.2.2.1.2.2.2.1 2)) h91 h92 h93 ?_
      have hP : va_P D vwCl (ce_X12 kA g u_1.2.2.1 ++ (ce_X5 kA (g 1) u_1.2.2.2.1 ++ (ce_X5 kA (g 2) u_1.2.2.2.2.1 ++ (ce_X3 kA (g 5) (fun k => g (6 + k)) u_1.2.2.2.2.2.1 ++ (ce_X10 kA (g 16) u_1.2.2.2.2.2.2.1 ++ (ce_X7 kA (g 17) (g 16) (g 2) u_1.2.2.2.2.2.2.2 ++ (ce_XJ kA q_p1 o_p1))))))) H := hP
      refine lv_astore_n (lv' := [(2, .ref q9), (0, .ref ((g 0) 0)), (1, .ref (q_p1 0))]) hx hb dL_readText_11 rfl hl (by decide) rfl (fun ls hl => ?_)
      refine lv_iconst (v := 1) hx hb dL_readText_12 (by decide) ?_
      rw [← Option.some.inj hf]
      exact W.widen (k := 1) (n := 6) (Nat.le_of_ble_eq_true rfl) (Nat.le_of_ble_eq_true rfl) (mc_reti hx hb hr hlk hP hK hD hS dL_readText_13)
    rw [if_neg hy_4] at hf
    cases hf
  · rw [if_pos hx9] at hf
    refine W.widen (k := 1) (n := 6) (Nat.le_of_ble_eq_true rfl) (Nat.le_of_ble_eq_true rfl) ?_
    have hP : va_P D vwCl (ce_X12 kA g u_1.2.2.1 ++ (ce_X5 kA (g 1) u_1.2.2.2.1 ++ (ce_X5 kA (g 2) u_1.2.2.2.2.1 ++ (ce_X3 kA (g 5) (fun k => g (6 + k)) u_1.2.2.2.2.2.1 ++ (ce_X10 kA (g 16) u_1.2.2.2.2.2.2.1 ++ (ce_X7 kA (g 17) (g 16) (g 2) u_1.2.2.2.2.2.2.2 ++ (ce_XJ kA q_p1 o_p1))))))) H := hP
    refine lv_i2l hx hb dL_readText_6 rfl ?_
    obtain ⟨hi_3, hf⟩ := os_if hf
    refine va_last hx hb hK hP hD hS 20 4 rfl rfl hi_3 dL_readText_7 (fun H locs hP hD hS => ?_)
    have hP : va_P D vwCl (ce_X12 kA g u_1.2.2.1 ++ (ce_X5 kA (g 1) u_1.2.2.2.1 ++ (ce_X5 kA (g 2) u_1.2.2.2.2.1 ++ (ce_X3 kA (g 5) (fun k => g (6 + k)) u_1.2.2.2.2.2.1 ++ (ce_X10 kA (g 16) u_1.2.2.2.2.2.2.1 ++ (ce_X7 kA (g 17) (g 16) (g 2) u_1.2.2.2.2.2.2.2 ++ (ce_XJ kA q_p1 (ss_LF o_p1 (vp_updL (os_L o_p1) (Int32.toNatClampNeg (0 : Int32)) (Int32.toInt64 u_1.2.1)))))))))) H := hP
    have hD : va_D A (ce_X12 kA g u_1.2.2.1 ++ (ce_X5 kA (g 1) u_1.2.2.2.1 ++ (ce_X5 kA (g 2) u_1.2.2.2.2.1 ++ (ce_X3 kA (g 5) (fun k => g (6 + k)) u_1.2.2.2.2.2.1 ++ (ce_X10 kA (g 16) u_1.2.2.2.2.2.2.1 ++ (ce_X7 kA (g 17) (g 16) (g 2) u_1.2.2.2.2.2.2.2 ++ (ce_XJ kA q_p1 (ss_LF o_p1 (vp_updL (os_L o_p1) (Int32.toNatClampNeg (0 : Int32)) (Int32.toInt64 u_1.2.1)))))))))) := hD
    refine lv_goto (tgt := 14) hx hb dL_readText_8 (by decide) ?_
    refine lv_iconst (v := 0) hx hb dL_readText_14 (by decide) ?_
    rw [← Option.some.inj hf]
    exact W.widen (k := 1) (n := 6) (Nat.le_of_ble_eq_true rfl) (Nat.le_of_ble_eq_true rfl) (mc_reti hx hb hr hlk hP hK hD hS dL_readText_15)
def ff_L_runScript (N : Nat) (o_p0 : os_T) (o_p0_panel : os_T) (o_p0_spare : os_T) (o_p0_history : os_T) (o_p0_history_panels0 : os_T) (o_p0_history_panels1 : os_T) (o_p0_history_panels2 : os_T) (o_p0_history_panels3 : os_T) (o_p0_history_panels4 : os_T) (o_p0_history_panels5 : os_T) (o_p0_history_panels6 : os_T) (o_p0_walls : os_T) (o_p0_racks : os_T) (o_p0_tokens : os_T) (o_p0_script : os_T) (o_p1 : os_T) : Option (Int32 × os_T × os_T × os_T × os_T × os_T × os_T × os_T × os_T × os_T × os_T × os_T × os_T × os_T × os_T × os_T) :=
  ((ff_X12_runScript N o_p0 o_p0_panel o_p0_spare o_p0_history o_p0_history_panels0 o_p0_history_panels1 o_p0_history_panels2 o_p0_history_panels3 o_p0_history_panels4 o_p0_history_panels5 o_p0_history_panels6 o_p0_walls o_p0_racks o_p0_tokens o_p0_script).bind fun u_1 => (if u_1.1 = 0 then (if os_in (0 : Int32) 1 then some ((0 : Int32), u_1.2.2.1, u_1.2.2.2.1, u_1.2.2.2.2.1, u_1.2.2.2.2.2.1, u_1.2.2.2.2.2.2.1, u_1.2.2.2.2.2.2.2.1, u_1.2.2.2.2.2.2.2.2.1, u_1.2.2.2.2.2.2.2.2.2.1, u_1.2.2.2.2.2.2.2.2.2.2.1, u_1.2.2.2.2.2.2.2.2.2.2.2.1, u_1.2.2.2.2.2.2.2.2.2.2.2.2.1, u_1.2.2.2.2.2.2.2.2.2.2.2.2.2.1, u_1.2.2.2.2.2.2.2.2.2.2.2.2.2.2.1, u_1.2.2.2.2.2.2.2.2.2.2.2.2.2.2.2, ss_LF o_p1 (vp_updL (os_L o_p1) (Int32.toNatClampNeg (0 : Int32)) (Int32.toInt64 u_1.2.1))) else none) else (if u_1.1 = 2 then some ((1 : Int32), u_1.2.2.1, u_1.2.2.2.1, u_1.2.2.2.2.1, u_1.2.2.2.2.2.1, u_1.2.2.2.2.2.2.1, u_1.2.2.2.2.2.2.2.1, u_1.2.2.2.2.2.2.2.2.1, u_1.2.2.2.2.2.2.2.2.2.1, u_1.2.2.2.2.2.2.2.2.2.2.1, u_1.2.2.2.2.2.2.2.2.2.2.2.1, u_1.2.2.2.2.2.2.2.2.2.2.2.2.1, u_1.2.2.2.2.2.2.2.2.2.2.2.2.2.1, u_1.2.2.2.2.2.2.2.2.2.2.2.2.2.2.1, u_1.2.2.2.2.2.2.2.2.2.2.2.2.2.2.2, o_p1) else none)))
set_option maxHeartbeats 4000000 in
set_option maxRecDepth 100000 in
theorem mm_L_runScript (l : Launch) (hst : l.stackTraces = false) (zz : Nat → Nat → Nat) (D : va_G) (kA : Nat → ClassId) (N : Nat) (g : Nat → Nat → Nat) (q_p1 : Nat → Nat) (o_p0 : os_T) (o_p0_panel : os_T) (o_p0_spare : os_T) (o_p0_history : os_T) (o_p0_history_panels0 : os_T) (o_p0_history_panels1 : os_T) (o_p0_history_panels2 : os_T) (o_p0_history_panels3 : os_T) (o_p0_history_panels4 : os_T) (o_p0_history_panels5 : os_T) (o_p0_history_panels6 : os_T) (o_p0_walls : os_T) (o_p0_racks : os_T) (o_p0_tokens : os_T) (o_p0_script : os_T) (o_p1 : os_T) (out : (Int32 × os_T × os_T × os_T × os_T × os_T × os_T × os_T × os_T × os_T × os_T × os_T × os_T × os_T × os_T × os_T)) (hf : ff_L_runScript N o_p0 o_p0_panel o_p0_spare o_p0_history o_p0_history_panels0 o_p0_history_panels1 o_p0_history_panels2 o_p0_history_panels3 o_p0_history_panels4 o_p0_history_panels5 o_p0_history_panels6 o_p0_walls o_p0_racks o_p0_tokens o_p0_script o_p1 = some out) : mh_C l zz D kA yL_runScript wsL_runScript ({ frames := 14, cells := 1, slots := 6, locals := 312 } : Room) [.ref ((g 0) 0), .ref (q_p1 0)] (ce_X12 kA g o_p0 ++ (ce_X5 kA (g 1) o_p0_panel ++ (ce_X5 kA (g 2) o_p0_spare ++ (ce_X3 kA (g 5) (fun k => g (6 + k)) o_p0_history ++ (ce_X5 kA (g 6) o_p0_history_panels0 ++ (ce_X5 kA (g 7) o_p0_history_panels1 ++ (ce_X5 kA (g 8) o_p0_history_panels2 ++ (ce_X5 kA (g 9) o_p0_history_panels3 ++ (ce_X5 kA (g 10) o_p0_history_panels4 ++ (ce_X5 kA (g 11) o_p0_history_panels5 ++ (ce_X5 kA (g 12) o_p0_history_panels6 ++ (ce_X11 kA (g 13) o_p0_walls ++ (ce_X6 kA (g 15) o_p0_racks ++ (ce_X10 kA (g 16) o_p0_tokens ++ (ce_X8 kA (zz 2) (g 18) (g 16) o_p0_script ++ (ce_XJ kA q_p1 o_p1)))))))))))))))) (some (.int out.1)) (ce_X12 kA g out.2.1 ++ (ce_X5 kA (g 1) out.2.2.1 ++ (ce_X5 kA (g 2) out.2.2.2.1 ++ (ce_X3 kA (g 5) (fun k => g (6 + k)) out.2.2.2.2.1 ++ (ce_X5 kA (g 6) out.2.2.2.2.2.1 ++ (ce_X5 kA (g 7) out.2.2.2.2.2.2.1 ++ (ce_X5 kA (g 8) out.2.2.2.2.2.2.2.1 ++ (ce_X5 kA (g 9) out.2.2.2.2.2.2.2.2.1 ++ (ce_X5 kA (g 10) out.2.2.2.2.2.2.2.2.2.1 ++ (ce_X5 kA (g 11) out.2.2.2.2.2.2.2.2.2.2.1 ++ (ce_X5 kA (g 12) out.2.2.2.2.2.2.2.2.2.2.2.1 ++ (ce_X11 kA (g 13) out.2.2.2.2.2.2.2.2.2.2.2.2.1 ++ (ce_X6 kA (g 15) o_p0_racks ++ (ce_X10 kA (g 16) out.2.2.2.2.2.2.2.2.2.2.2.2.2.1 ++ (ce_X8 kA (zz 2) (g 18) (g 16) out.2.2.2.2.2.2.2.2.2.2.2.2.2.2.1 ++ (ce_XJ kA q_p1 out.2.2.2.2.2.2.2.2.2.2.2.2.2.2.2)))))))))))))))) := by
  refine mh_of (hh := [(0, 8, 11, 19)]) (cc := cL_runScript) (maxL := 3) (ret := (some .int)) (by decide) rfl (Nat.le_of_ble_eq_true rfl) ?_
  intro p e s m below meth c A B hex hZ hD hP hS ls hl
  obtain ⟨hx, hb, hr, hlk, hml, hown, hts, hK, hA, hnm⟩ := B
  have hown : s.vm.findClass RL = some m.cls := hown
  have hl : lv_has ls 3 [(0, .ref ((g 0) 0)), (1, .ref (q_p1 0))] := hl
  unfold ff_L_runScript at hf
  refine lv_aload_n hx hb dL_runScript_0 rfl (lv_at hl 1 rfl) ?_
  refine lv_iconst (v := 0) hx hb dL_runScript_1 (by decide) ?_
  refine lv_aload_n hx hb dL_runScript_2 rfl (lv_at hl 0 rfl) ?_
  obtain ⟨u_1, he_2, hf⟩ := os_bd hf
  refine mx_callV ⟨hx, hb, hml, hown, hts⟩ (mm_X12_runScript l hst zz D kA N g o_p0 o_p0_panel o_p0_spare o_p0_history o_p0_history_panels0 o_p0_history_panels1 o_p0_history_panels2 o_p0_history_panels3 o_p0_history_panels4 o_p0_history_panels5 o_p0_history_panels6 o_p0_walls o_p0_racks o_p0_tokens o_p0_script u_1 he_2) (cwV 0 hts gL_runScript_X12_runScript rfl rfl rfl (by decide +kernel) ⟨Nat.le_of_ble_eq_true rfl, Nat.le_of_ble_eq_true rfl⟩) (wc := (ce_X12 kA g o_p0 ++ (ce_X5 kA (g 1) o_p0_panel ++ (ce_X5 kA (g 2) o_p0_spare ++ (ce_X3 kA (g 5) (fun k => g (6 + k)) o_p0_history ++ (ce_X5 kA (g 6) o_p0_history_panels0 ++ (ce_X5 kA (g 7) o_p0_history_panels1 ++ (ce_X5 kA (g 8) o_p0_history_panels2 ++ (ce_X5 kA (g 9) o_p0_history_panels3 ++ (ce_X5 kA (g 10) o_p0_history_panels4 ++ (ce_X5 kA (g 11) o_p0_history_panels5 ++ (ce_X5 kA (g 12) o_p0_history_panels6 ++ (ce_X11 kA (g 13) o_p0_walls ++ (ce_X6 kA (g 15) o_p0_racks ++ (ce_X10 kA (g 16) o_p0_tokens ++ (ce_X8 kA (zz 2) (g 18) (g 16) o_p0_script)))))))))))))))) (ci := 8) (q0 := 0) rfl rfl rfl hl.1 (As := []) (rest := [.int (0 : Int32), .ref (q_p1 0)]) rfl (Nat.le_of_ble_eq_true rfl) dL_runScript_3 ⟨Nat.le_of_ble_eq_true rfl, Nat.le_of_ble_eq_true rfl⟩ hK hP hD hS hA hZ [0, 1, 2, 3, 4, 5, 6, 7, 8, 9, 10, 11, 12, 13, 14, 15, 16, 17, 18, 19, 20, 21, 22, 23, 24, 25, 26, 27, 28, 29, 30, 31, 32, 33, 34, 35, 36, 37, 38, 39, 40, 41, 42, 43, 44, 45, 46, 47, 48, 49, 50, 51, 52, 53, 54, 55] [56] [1, 2, 3, 4, 5, 6, 7, 8, 9, 10, 11, 12, 13, 14, 15, 16, 17, 18, 19, 20, 21, 22, 23, 24, 25, 26, 27, 28, 29, 30, 31, 32, 33, 34, 35, 36, 37, 38, 39, 40, 41, 42, 43, 44, 45, 46, 47, 48, 49, 50, 51, 52, 53, 54, 55, 56, 0] rfl (by decide) rfl (by decide) (by decide) rfl (by decide) (wr := (ce_XJ kA q_p1 o_p1)) (w2 := (ce_X12 kA g u_1.2.2.1 ++ (ce_X5 kA (g 1) u_1.2.2.2.1 ++ (ce_X5 kA (g 2) u_1.2.2.2.2.1 ++ (ce_X3 kA (g 5) (fun k => g (6 + k)) u_1.2.2.2.2.2.1 ++ (ce_X5 kA (g 6) u_1.2.2.2.2.2.2.1 ++ (ce_X5 kA (g 7) u_1.2.2.2.2.2.2.2.1 ++ (ce_X5 kA (g 8) u_1.2.2.2.2.2.2.2.2.1 ++ (ce_X5 kA (g 9) u_1.2.2.2.2.2.2.2.2.2.1 ++ (ce_X5 kA (g 10) u_1.2.2.2.2.2.2.2.2.2.2.1 ++ (ce_X5 kA (g 11) u_1.2.2.2.2.2.2.2.2.2.2.2.1 ++ (ce_X5 kA (g 12) u_1.2.2.2.2.2.2.2.2.2.2.2.2.1 ++ (ce_X11 kA (g 13) u_1.2.2.2.2.2.2.2.2.2.2.2.2.2.1 ++ (ce_X6 kA (g 15) o_p0_racks ++ (ce_X10 kA (g 16) u_1.2.2.2.2.2.2.2.2.2.2.2.2.2.2.1 ++ (ce_X8 kA (zz 2) (g 18) (g 16) u_1.2.2.2.2.2.2.2.2.2.2.2.2.2.2.2 ++ (ce_XJ kA q_p1 o_p1))))))))))))))))) (fun hx9 H locs q9 ce hP hD hS h91 h92 h93 => ?_) (fun hx9 H locs hP hD hS => ?_)
  · rw [if_neg hx9] at hf
    by_cases hy_4 : u_1.1 = 2
    · rw [if_pos hy_4] at hf
      rw [hy_4] at h93
      refine vx_catch (E := mx_n 2) (name := "java/lang/IllegalArgumentException") hown [] (⟨0, 8, 11, 19⟩ : ExceptionTableEntry) [] hex (fun z h => nomatch h) rfl (by decide) (hts (Cond.classLink RL 19 "java/lang/IllegalArgumentException") (List.mem_of_getElem? (i := 1) rfl)) (va_Nw.use rfl (hZ.2.2.1.2.2.2.1 2)) h91 h92 h93 ?_
      have hP : va_P D vwCl (ce_X12 kA g u_1.2.2.1 ++ (ce_X5 kA (g 1) u_1.2.2.2.1 ++ (ce_X5 kA (g 2) u_1.2.2.2.2.1 ++ (ce_X3 kA (g 5) (fun k => g (6 + k)) u_1.2.2.2.2.2.1 ++ (ce_X5 kA (g 6) u_1.2.2.2.2.2.2.1 ++ (ce_X5 kA (g 7) u_1.2.2.2.2.2.2.2.1 ++ (ce_X5 kA (g 8) u_1.2.2.2.2.2.2.2.2.1 ++ (ce_X5 kA (g 9) u_1.2.2.2.2.2.2.2.2.2.1 ++ (ce_X5 kA (g 10) u_1.2.2.2.2.2.2.2.2.2.2.1 ++ (ce_X5 kA (g 11) u_1.2.2.2.2.2.2.2.2.2.2.2.1 ++ (ce_X5 kA (g 12) u_1.2.2.2.2.2.2.2.2.2.2.2.2.1 ++ (ce_X11 kA (g 13) u_1.2.2.2.2.2.2.2.2.2.2.2.2.2.1 ++ (ce_X6 kA (g 15) o_p0_racks ++ (ce_X10 kA (g 16) u_1.2.2.2.2.2.2.2.2.2.2.2.2.2.2.1 ++ (ce_X8 kA (zz 2) (g 18) (g 16) u_1.2.2.2.2.2.2.2.2.2.2.2.2.2.2.2 ++ (ce_XJ kA q_p1 o_p1)))))))))))))))) H := hP
      refine lv_astore_n (lv' := [(2, .ref q9), (0, .ref ((g 0) 0)), (1, .ref (q_p1 0))]) hx hb dL_runScript_11 rfl hl (by decide) rfl (fun ls hl => ?_)
      refine lv_iconst (v := 1) hx hb dL_runScript_12 (by decide) ?_
      rw [← Option.some.inj hf]
      exact W.widen (k := 1) (n := 6) (Nat.le_of_ble_eq_true rfl) (Nat.le_of_ble_eq_true rfl) (mc_reti hx hb hr hlk hP hK hD hS dL_runScript_13)
    rw [if_neg hy_4] at hf
    cases hf
  · rw [if_pos hx9] at hf
    refine W.widen (k := 1) (n := 6) (Nat.le_of_ble_eq_true rfl) (Nat.le_of_ble_eq_true rfl) ?_
    have hP : va_P D vwCl (ce_X12 kA g u_1.2.2.1 ++ (ce_X5 kA (g 1) u_1.2.2.2.1 ++ (ce_X5 kA (g 2) u_1.2.2.2.2.1 ++ (ce_X3 kA (g 5) (fun k => g (6 + k)) u_1.2.2.2.2.2.1 ++ (ce_X5 kA (g 6) u_1.2.2.2.2.2.2.1 ++ (ce_X5 kA (g 7) u_1.2.2.2.2.2.2.2.1 ++ (ce_X5 kA (g 8) u_1.2.2.2.2.2.2.2.2.1 ++ (ce_X5 kA (g 9) u_1.2.2.2.2.2.2.2.2.2.1 ++ (ce_X5 kA (g 10) u_1.2.2.2.2.2.2.2.2.2.2.1 ++ (ce_X5 kA (g 11) u_1.2.2.2.2.2.2.2.2.2.2.2.1 ++ (ce_X5 kA (g 12) u_1.2.2.2.2.2.2.2.2.2.2.2.2.1 ++ (ce_X11 kA (g 13) u_1.2.2.2.2.2.2.2.2.2.2.2.2.2.1 ++ (ce_X6 kA (g 15) o_p0_racks ++ (ce_X10 kA (g 16) u_1.2.2.2.2.2.2.2.2.2.2.2.2.2.2.1 ++ (ce_X8 kA (zz 2) (g 18) (g 16) u_1.2.2.2.2.2.2.2.2.2.2.2.2.2.2.2 ++ (ce_XJ kA q_p1 o_p1)))))))))))))))) H := hP
    refine lv_i2l hx hb dL_runScript_6 rfl ?_
    obtain ⟨hi_3, hf⟩ := os_if hf
    refine va_last hx hb hK hP hD hS 56 4 rfl rfl hi_3 dL_runScript_7 (fun H locs hP hD hS => ?_)
    have hP : va_P D vwCl (ce_X12 kA g u_1.2.2.1 ++ (ce_X5 kA (g 1) u_1.2.2.2.1 ++ (ce_X5 kA (g 2) u_1.2.2.2.2.1 ++ (ce_X3 kA (g 5) (fun k => g (6 + k)) u_1.2.2.2.2.2.1 ++ (ce_X5 kA (g 6) u_1.2.2.2.2.2.2.1 ++ (ce_X5 kA (g 7) u_1.2.2.2.2.2.2.2.1 ++ (ce_X5 kA (g 8) u_1.2.2.2.2.2.2.2.2.1 ++ (ce_X5 kA (g 9) u_1.2.2.2.2.2.2.2.2.2.1 ++ (ce_X5 kA (g 10) u_1.2.2.2.2.2.2.2.2.2.2.1 ++ (ce_X5 kA (g 11) u_1.2.2.2.2.2.2.2.2.2.2.2.1 ++ (ce_X5 kA (g 12) u_1.2.2.2.2.2.2.2.2.2.2.2.2.1 ++ (ce_X11 kA (g 13) u_1.2.2.2.2.2.2.2.2.2.2.2.2.2.1 ++ (ce_X6 kA (g 15) o_p0_racks ++ (ce_X10 kA (g 16) u_1.2.2.2.2.2.2.2.2.2.2.2.2.2.2.1 ++ (ce_X8 kA (zz 2) (g 18) (g 16) u_1.2.2.2.2.2.2.2.2.2.2.2.2.2.2.2 ++ (ce_XJ kA q_p1 (ss_LF o_p1 (vp_updL (os_L o_p1) (Int32.toNatClampNeg (0 : Int32)) (Int32.toInt64 u_1.2.1))))))))))))))))))) H := hP
    have hD : va_D A (ce_X12 kA g u_1.2.2.1 ++ (ce_X5 kA (g 1) u_1.2.2.2.1 ++ (ce_X5 kA (g 2) u_1.2.2.2.2.1 ++ (ce_X3 kA (g 5) (fun k => g (6 + k)) u_1.2.2.2.2.2.1 ++ (ce_X5 kA (g 6) u_1.2.2.2.2.2.2.1 ++ (ce_X5 kA (g 7) u_1.2.2.2.2.2.2.2.1 ++ (ce_X5 kA (g 8) u_1.2.2.2.2.2.2.2.2.1 ++ (ce_X5 kA (g 9) u_1.2.2.2.2.2.2.2.2.2.1 ++ (ce_X5 kA (g 10) u_1.2.2.2.2.2.2.2.2.2.2.1 ++ (ce_X5 kA (g 11) u_1.2.2.2.2.2.2.2.2.2.2.2.1 ++ (ce_X5 kA (g 12) u_1.2.2.2.2.2.2.2.2.2.2.2.2.1 ++ (ce_X11 kA (g 13) u_1.2.2.2.2.2.2.2.2.2.2.2.2.2.1 ++ (ce_X6 kA (g 15) o_p0_racks ++ (ce_X10 kA (g 16) u_1.2.2.2.2.2.2.2.2.2.2.2.2.2.2.1 ++ (ce_X8 kA (zz 2) (g 18) (g 16) u_1.2.2.2.2.2.2.2.2.2.2.2.2.2.2.2 ++ (ce_XJ kA q_p1 (ss_LF o_p1 (vp_updL (os_L o_p1) (Int32.toNatClampNeg (0 : Int32)) (Int32.toInt64 u_1.2.1))))))))))))))))))) := hD
    refine lv_goto (tgt := 14) hx hb dL_runScript_8 (by decide) ?_
    refine lv_iconst (v := 0) hx hb dL_runScript_14 (by decide) ?_
    rw [← Option.some.inj hf]
    exact W.widen (k := 1) (n := 6) (Nat.le_of_ble_eq_true rfl) (Nat.le_of_ble_eq_true rfl) (mc_reti hx hb hr hlk hP hK hD hS dL_runScript_15)
def ff_L_setting (N : Nat) (o_p0 : os_T) (o_p0_panel : os_T) (o_p2 : os_T) (a1 : Int32) : Option (Int32 × os_T) :=
  ((ff_X12_setting N o_p0 o_p0_panel a1).bind fun u_1 => (if u_1.1 = 0 then (if os_in (0 : Int32) 1 then some ((0 : Int32), ss_LF o_p2 (vp_updL (os_L o_p2) (Int32.toNatClampNeg (0 : Int32)) (Int32.toInt64 u_1.2))) else none) else (if u_1.1 = 2 then some ((1 : Int32), o_p2) else none)))
set_option maxHeartbeats 4000000 in
set_option maxRecDepth 100000 in
theorem mm_L_setting (l : Launch) (hst : l.stackTraces = false) (zz : Nat → Nat → Nat) (D : va_G) (kA : Nat → ClassId) (N : Nat) (g : Nat → Nat → Nat) (q_p2 : Nat → Nat) (o_p0 : os_T) (o_p0_panel : os_T) (o_p2 : os_T) (a1 : Int32) (out : (Int32 × os_T)) (hf : ff_L_setting N o_p0 o_p0_panel o_p2 a1 = some out) : mh_C l zz D kA yL_setting wsL_setting ({ frames := 7, cells := 1, slots := 6, locals := 111 } : Room) [.ref ((g 0) 0), .int a1, .ref (q_p2 0)] (ce_X12 kA g o_p0 ++ (ce_X5 kA (g 1) o_p0_panel ++ (ce_XJ kA q_p2 o_p2))) (some (.int out.1)) (ce_X12 kA g o_p0 ++ (ce_X5 kA (g 1) o_p0_panel ++ (ce_XJ kA q_p2 out.2))) := by
  refine mh_of (hh := [(0, 9, 12, 19)]) (cc := cL_setting) (maxL := 4) (ret := (some .int)) (by decide) rfl (Nat.le_of_ble_eq_true rfl) ?_
  intro p e s m below meth c A B hex hZ hD hP hS ls hl
  obtain ⟨hx, hb, hr, hlk, hml, hown, hts, hK, hA, hnm⟩ := B
  have hown : s.vm.findClass RL = some m.cls := hown
  have hl : lv_has ls 4 [(0, .ref ((g 0) 0)), (1, .int a1), (2, .ref (q_p2 0))] := hl
  unfold ff_L_setting at hf
  refine lv_aload_n hx hb dL_setting_0 rfl (lv_at hl 2 rfl) ?_
  refine lv_iconst (v := 0) hx hb dL_setting_1 (by decide) ?_
  refine lv_aload_n hx hb dL_setting_2 rfl (lv_at hl 0 rfl) ?_
  refine lv_iload_n hx hb dL_setting_3 rfl (lv_at hl 1 rfl) ?_
  obtain ⟨u_1, he_2, hf⟩ := os_bd hf
  refine mx_callV ⟨hx, hb, hml, hown, hts⟩ (mm_X12_setting l hst zz D kA N g o_p0 o_p0_panel a1 u_1 he_2) (cwV 1 hts gL_setting_X12_setting rfl rfl rfl (by decide +kernel) ⟨Nat.le_of_ble_eq_true rfl, Nat.le_of_ble_eq_true rfl⟩) (wc := (ce_X12 kA g o_p0 ++ (ce_X5 kA (g 1) o_p0_panel))) (ci := 8) (q0 := 0) rfl rfl rfl hl.1 (As := [.int a1]) (rest := [.int (0 : Int32), .ref (q_p2 0)]) rfl (Nat.le_of_ble_eq_true rfl) dL_setting_4 ⟨Nat.le_of_ble_eq_true rfl, Nat.le_of_ble_eq_true rfl⟩ hK hP hD hS hA hZ [0, 1, 2, 3, 4, 5, 6, 7] [8] [1, 2, 3, 4, 5, 6, 7, 8, 0] rfl (by decide) rfl (by decide) (by decide) rfl (by decide) (wr := (ce_XJ kA q_p2 o_p2)) (w2 := (ce_X12 kA g o_p0 ++ (ce_X5 kA (g 1) o_p0_panel ++ (ce_XJ kA q_p2 o_p2)))) (fun hx9 H locs q9 ce hP hD hS h91 h92 h93 => ?_) (fun hx9 H locs hP hD hS => ?_)
  · rw [if_neg hx9] at hf
    by_cases hy_4 : u_1.1 = 2
    · rw [if_pos hy_4] at hf
      rw [hy_4] at h93
      refine vx_catch (E := mx_n 2) (name := "java/lang/IllegalArgumentException") hown [] (⟨0, 9, 12, 19⟩ : ExceptionTableEntry) [] hex (fun z h => nomatch h) rfl (by decide) (hts (Cond.classLink RL 19 "java/lang/IllegalArgumentException") (List.mem_of_getElem? (i := 1) rfl)) (va_Nw.use rfl (hZ.2.2.1.2.2.2.1 2)) h91 h92 h93 ?_
      have hP : va_P D vwCl (ce_X12 kA g o_p0 ++ (ce_X5 kA (g 1) o_p0_panel ++ (ce_XJ kA q_p2 o_p2))) H := hP
      refine lv_astore_n (lv' := [(3, .ref q9), (0, .ref ((g 0) 0)), (1, .int a1), (2, .ref (q_p2 0))]) hx hb dL_setting_12 rfl hl (by decide) rfl (fun ls hl => ?_)
      refine lv_iconst (v := 1) hx hb dL_setting_13 (by decide) ?_
      rw [← Option.some.inj hf]
      exact W.widen (k := 1) (n := 6) (Nat.le_of_ble_eq_true rfl) (Nat.le_of_ble_eq_true rfl) (mc_reti hx hb hr hlk hP hK hD hS dL_setting_14)
    rw [if_neg hy_4] at hf
    cases hf
  · rw [if_pos hx9] at hf
    refine W.widen (k := 1) (n := 6) (Nat.le_of_ble_eq_true rfl) (Nat.le_of_ble_eq_true rfl) ?_
    have hP : va_P D vwCl (ce_X12 kA g o_p0 ++ (ce_X5 kA (g 1) o_p0_panel ++ (ce_XJ kA q_p2 o_p2))) H := hP
    refine lv_i2l hx hb dL_setting_7 rfl ?_
    obtain ⟨hi_3, hf⟩ := os_if hf
    refine va_last hx hb hK hP hD hS 8 4 rfl rfl hi_3 dL_setting_8 (fun H locs hP hD hS => ?_)
    have hP : va_P D vwCl (ce_X12 kA g o_p0 ++ (ce_X5 kA (g 1) o_p0_panel ++ (ce_XJ kA q_p2 (ss_LF o_p2 (vp_updL (os_L o_p2) (Int32.toNatClampNeg (0 : Int32)) (Int32.toInt64 u_1.2)))))) H := hP
    have hD : va_D A (ce_X12 kA g o_p0 ++ (ce_X5 kA (g 1) o_p0_panel ++ (ce_XJ kA q_p2 (ss_LF o_p2 (vp_updL (os_L o_p2) (Int32.toNatClampNeg (0 : Int32)) (Int32.toInt64 u_1.2)))))) := hD
    refine lv_goto (tgt := 15) hx hb dL_setting_9 (by decide) ?_
    refine lv_iconst (v := 0) hx hb dL_setting_15 (by decide) ?_
    rw [← Option.some.inj hf]
    exact W.widen (k := 1) (n := 6) (Nat.le_of_ble_eq_true rfl) (Nat.le_of_ble_eq_true rfl) (mc_reti hx hb hr hlk hP hK hD hS dL_setting_16)
def ff_L_tone (N : Nat) (o_p0 : os_T) (o_p0_panel : os_T) (o_p3 : os_T) (a1 : Int32) (a2 : Int32) : Option (Int32 × os_T) :=
  ((ff_X12_tone N o_p0 o_p0_panel a1 a2).bind fun u_1 => (if u_1.1 = 0 then (if os_in (0 : Int32) 1 then some ((0 : Int32), ss_LF o_p3 (vp_updL (os_L o_p3) (Int32.toNatClampNeg (0 : Int32)) (Int32.toInt64 u_1.2))) else none) else (if u_1.1 = 3 then some ((1 : Int32), o_p3) else none)))
set_option maxHeartbeats 4000000 in
set_option maxRecDepth 100000 in
theorem mm_L_tone (l : Launch) (hst : l.stackTraces = false) (zz : Nat → Nat → Nat) (D : va_G) (kA : Nat → ClassId) (N : Nat) (g : Nat → Nat → Nat) (q_p3 : Nat → Nat) (o_p0 : os_T) (o_p0_panel : os_T) (o_p3 : os_T) (a1 : Int32) (a2 : Int32) (out : (Int32 × os_T)) (hf : ff_L_tone N o_p0 o_p0_panel o_p3 a1 a2 = some out) : mh_C l zz D kA yL_tone wsL_tone ({ frames := 8, cells := 1, slots := 6, locals := 134 } : Room) [.ref ((g 0) 0), .int a1, .int a2, .ref (q_p3 0)] (ce_X12 kA g o_p0 ++ (ce_X5 kA (g 1) o_p0_panel ++ (ce_XJ kA q_p3 o_p3))) (some (.int out.1)) (ce_X12 kA g o_p0 ++ (ce_X5 kA (g 1) o_p0_panel ++ (ce_XJ kA q_p3 out.2))) := by
  refine mh_of (hh := [(0, 10, 13, 35)]) (cc := cL_tone) (maxL := 5) (ret := (some .int)) (by decide) rfl (Nat.le_of_ble_eq_true rfl) ?_
  intro p e s m below meth c A B hex hZ hD hP hS ls hl
  obtain ⟨hx, hb, hr, hlk, hml, hown, hts, hK, hA, hnm⟩ := B
  have hown : s.vm.findClass RL = some m.cls := hown
  have hl : lv_has ls 5 [(0, .ref ((g 0) 0)), (1, .int a1), (2, .int a2), (3, .ref (q_p3 0))] := hl
  unfold ff_L_tone at hf
  refine lv_aload_n hx hb dL_tone_0 rfl (lv_at hl 3 rfl) ?_
  refine lv_iconst (v := 0) hx hb dL_tone_1 (by decide) ?_
  refine lv_aload_n hx hb dL_tone_2 rfl (lv_at hl 0 rfl) ?_
  refine lv_iload_n hx hb dL_tone_3 rfl (lv_at hl 1 rfl) ?_
  refine lv_iload_n hx hb dL_tone_4 rfl (lv_at hl 2 rfl) ?_
  obtain ⟨u_1, he_2, hf⟩ := os_bd hf
  refine mx_callV ⟨hx, hb, hml, hown, hts⟩ (mm_X12_tone l hst zz D kA N g o_p0 o_p0_panel a1 a2 u_1 he_2) (cwV 2 hts gL_tone_X12_tone rfl rfl rfl (by decide +kernel) ⟨Nat.le_of_ble_eq_true rfl, Nat.le_of_ble_eq_true rfl⟩) (wc := (ce_X12 kA g o_p0 ++ (ce_X5 kA (g 1) o_p0_panel))) (ci := 8) (q0 := 0) rfl rfl rfl hl.1 (As := [.int a1, .int a2]) (rest := [.int (0 : Int32), .ref (q_p3 0)]) rfl (Nat.le_of_ble_eq_true rfl) dL_tone_5 ⟨Nat.le_of_ble_eq_true rfl, Nat.le_of_ble_eq_true rfl⟩ hK hP hD hS hA hZ [0, 1, 2, 3, 4, 5, 6, 7] [8] [1, 2, 3, 4, 5, 6, 7, 8, 0] rfl (by decide) rfl (by decide) (by decide) rfl (by decide) (wr := (ce_XJ kA q_p3 o_p3)) (w2 := (ce_X12 kA g o_p0 ++ (ce_X5 kA (g 1) o_p0_panel ++ (ce_XJ kA q_p3 o_p3)))) (fun hx9 H locs q9 ce hP hD hS h91 h92 h93 => ?_) (fun hx9 H locs hP hD hS => ?_)
  · rw [if_neg hx9] at hf
    by_cases hy_4 : u_1.1 = 3
    · rw [if_pos hy_4] at hf
      rw [hy_4] at h93
      refine vx_catch (E := mx_n 3) (name := "java/lang/IndexOutOfBoundsException") hown [] (⟨0, 10, 13, 35⟩ : ExceptionTableEntry) [] hex (fun z h => nomatch h) rfl (by decide) (hts (Cond.classLink RL 35 "java/lang/IndexOutOfBoundsException") (List.mem_of_getElem? (i := 1) rfl)) (va_Nw.use rfl (hZ.2.2.1.2.2.2.1 3)) h91 h92 h93 ?_
      have hP : va_P D vwCl (ce_X12 kA g o_p0 ++ (ce_X5 kA (g 1) o_p0_panel ++ (ce_XJ kA q_p3 o_p3))) H := hP
      refine lv_astore (lv' := [(4, .ref q9), (0, .ref ((g 0) 0)), (1, .int a1), (2, .int a2), (3, .ref (q_p3 0))]) hx hb dL_tone_13 hl (by decide) rfl (fun ls hl => ?_)
      refine lv_iconst (v := 1) hx hb dL_tone_15 (by decide) ?_
      rw [← Option.some.inj hf]
      exact W.widen (k := 1) (n := 6) (Nat.le_of_ble_eq_true rfl) (Nat.le_of_ble_eq_true rfl) (mc_reti hx hb hr hlk hP hK hD hS dL_tone_16)
    rw [if_neg hy_4] at hf
    cases hf
  · rw [if_pos hx9] at hf
    refine W.widen (k := 1) (n := 6) (Nat.le_of_ble_eq_true rfl) (Nat.le_of_ble_eq_true rfl) ?_
    have hP : va_P D vwCl (ce_X12 kA g o_p0 ++ (ce_X5 kA (g 1) o_p0_panel ++ (ce_XJ kA q_p3 o_p3))) H := hP
    refine lv_i2l hx hb dL_tone_8 rfl ?_
    obtain ⟨hi_3, hf⟩ := os_if hf
    refine va_last hx hb hK hP hD hS 8 4 rfl rfl hi_3 dL_tone_9 (fun H locs hP hD hS => ?_)
    have hP : va_P D vwCl (ce_X12 kA g o_p0 ++ (ce_X5 kA (g 1) o_p0_panel ++ (ce_XJ kA q_p3 (ss_LF o_p3 (vp_updL (os_L o_p3) (Int32.toNatClampNeg (0 : Int32)) (Int32.toInt64 u_1.2)))))) H := hP
    have hD : va_D A (ce_X12 kA g o_p0 ++ (ce_X5 kA (g 1) o_p0_panel ++ (ce_XJ kA q_p3 (ss_LF o_p3 (vp_updL (os_L o_p3) (Int32.toNatClampNeg (0 : Int32)) (Int32.toInt64 u_1.2)))))) := hD
    refine lv_goto (tgt := 17) hx hb dL_tone_10 (by decide) ?_
    refine lv_iconst (v := 0) hx hb dL_tone_17 (by decide) ?_
    rw [← Option.some.inj hf]
    exact W.widen (k := 1) (n := 6) (Nat.le_of_ble_eq_true rfl) (Nat.le_of_ble_eq_true rfl) (mc_reti hx hb hr hlk hP hK hD hS dL_tone_18)
def ff_L_height (N : Nat) (o_p0 : os_T) (o_p0_panel : os_T) (o_p3 : os_T) (a1 : Int32) (a2 : Int32) : Option (Int32 × os_T) :=
  ((ff_X12_height N o_p0 o_p0_panel a1 a2).bind fun u_1 => (if u_1.1 = 0 then (if os_in (0 : Int32) 1 then some ((0 : Int32), ss_LF o_p3 (vp_updL (os_L o_p3) (Int32.toNatClampNeg (0 : Int32)) (Int32.toInt64 u_1.2))) else none) else (if u_1.1 = 3 then some ((1 : Int32), o_p3) else none)))
set_option maxHeartbeats 4000000 in
set_option maxRecDepth 100000 in
theorem mm_L_height (l : Launch) (hst : l.stackTraces = false) (zz : Nat → Nat → Nat) (D : va_G) (kA : Nat → ClassId) (N : Nat) (g : Nat → Nat → Nat) (q_p3 : Nat → Nat) (o_p0 : os_T) (o_p0_panel : os_T) (o_p3 : os_T) (a1 : Int32) (a2 : Int32) (out : (Int32 × os_T)) (hf : ff_L_height N o_p0 o_p0_panel o_p3 a1 a2 = some out) : mh_C l zz D kA yL_height wsL_height ({ frames := 8, cells := 1, slots := 6, locals := 134 } : Room) [.ref ((g 0) 0), .int a1, .int a2, .ref (q_p3 0)] (ce_X12 kA g o_p0 ++ (ce_X5 kA (g 1) o_p0_panel ++ (ce_XJ kA q_p3 o_p3))) (some (.int out.1)) (ce_X12 kA g o_p0 ++ (ce_X5 kA (g 1) o_p0_panel ++ (ce_XJ kA q_p3 out.2))) := by
  refine mh_of (hh := [(0, 10, 13, 35)]) (cc := cL_height) (maxL := 5) (ret := (some .int)) (by decide) rfl (Nat.le_of_ble_eq_true rfl) ?_
  intro p e s m below meth c A B hex hZ hD hP hS ls hl
  obtain ⟨hx, hb, hr, hlk, hml, hown, hts, hK, hA, hnm⟩ := B
  have hown : s.vm.findClass RL = some m.cls := hown
  have hl : lv_has ls 5 [(0, .ref ((g 0) 0)), (1, .int a1), (2, .int a2), (3, .ref (q_p3 0))] := hl
  unfold ff_L_height at hf
  refine lv_aload_n hx hb dL_height_0 rfl (lv_at hl 3 rfl) ?_
  refine lv_iconst (v := 0) hx hb dL_height_1 (by decide) ?_
  refine lv_aload_n hx hb dL_height_2 rfl (lv_at hl 0 rfl) ?_
  refine lv_iload_n hx hb dL_height_3 rfl (lv_at hl 1 rfl) ?_
  refine lv_iload_n hx hb dL_height_4 rfl (lv_at hl 2 rfl) ?_
  obtain ⟨u_1, he_2, hf⟩ := os_bd hf
  refine mx_callV ⟨hx, hb, hml, hown, hts⟩ (mm_X12_height l hst zz D kA N g o_p0 o_p0_panel a1 a2 u_1 he_2) (cwV 2 hts gL_height_X12_height rfl rfl rfl (by decide +kernel) ⟨Nat.le_of_ble_eq_true rfl, Nat.le_of_ble_eq_true rfl⟩) (wc := (ce_X12 kA g o_p0 ++ (ce_X5 kA (g 1) o_p0_panel))) (ci := 8) (q0 := 0) rfl rfl rfl hl.1 (As := [.int a1, .int a2]) (rest := [.int (0 : Int32), .ref (q_p3 0)]) rfl (Nat.le_of_ble_eq_true rfl) dL_height_5 ⟨Nat.le_of_ble_eq_true rfl, Nat.le_of_ble_eq_true rfl⟩ hK hP hD hS hA hZ [0, 1, 2, 3, 4, 5, 6, 7] [8] [1, 2, 3, 4, 5, 6, 7, 8, 0] rfl (by decide) rfl (by decide) (by decide) rfl (by decide) (wr := (ce_XJ kA q_p3 o_p3)) (w2 := (ce_X12 kA g o_p0 ++ (ce_X5 kA (g 1) o_p0_panel ++ (ce_XJ kA q_p3 o_p3)))) (fun hx9 H locs q9 ce hP hD hS h91 h92 h93 => ?_) (fun hx9 H locs hP hD hS => ?_)
  · rw [if_neg hx9] at hf
    by_cases hy_4 : u_1.1 = 3
    · rw [if_pos hy_4] at hf
      rw [hy_4] at h93
      refine vx_catch (E := mx_n 3) (name := "java/lang/IndexOutOfBoundsException") hown [] (⟨0, 10, 13, 35⟩ : ExceptionTableEntry) [] hex (fun z h => nomatch h) rfl (by decide) (hts (Cond.classLink RL 35 "java/lang/IndexOutOfBoundsException") (List.mem_of_getElem? (i := 1) rfl)) (va_Nw.use rfl (hZ.2.2.1.2.2.2.1 3)) h91 h92 h93 ?_
      have hP : va_P D vwCl (ce_X12 kA g o_p0 ++ (ce_X5 kA (g 1) o_p0_panel ++ (ce_XJ kA q_p3 o_p3))) H := hP
      refine lv_astore (lv' := [(4, .ref q9), (0, .ref ((g 0) 0)), (1, .int a1), (2, .int a2), (3, .ref (q_p3 0))]) hx hb dL_height_13 hl (by decide) rfl (fun ls hl => ?_)
      refine lv_iconst (v := 1) hx hb dL_height_15 (by decide) ?_
      rw [← Option.some.inj hf]
      exact W.widen (k := 1) (n := 6) (Nat.le_of_ble_eq_true rfl) (Nat.le_of_ble_eq_true rfl) (mc_reti hx hb hr hlk hP hK hD hS dL_height_16)
    rw [if_neg hy_4] at hf
    cases hf
  · rw [if_pos hx9] at hf
    refine W.widen (k := 1) (n := 6) (Nat.le_of_ble_eq_true rfl) (Nat.le_of_ble_eq_true rfl) ?_
    have hP : va_P D vwCl (ce_X12 kA g o_p0 ++ (ce_X5 kA (g 1) o_p0_panel ++ (ce_XJ kA q_p3 o_p3))) H := hP
    refine lv_i2l hx hb dL_height_8 rfl ?_
    obtain ⟨hi_3, hf⟩ := os_if hf
    refine va_last hx hb hK hP hD hS 8 4 rfl rfl hi_3 dL_height_9 (fun H locs hP hD hS => ?_)
    have hP : va_P D vwCl (ce_X12 kA g o_p0 ++ (ce_X5 kA (g 1) o_p0_panel ++ (ce_XJ kA q_p3 (ss_LF o_p3 (vp_updL (os_L o_p3) (Int32.toNatClampNeg (0 : Int32)) (Int32.toInt64 u_1.2)))))) H := hP
    have hD : va_D A (ce_X12 kA g o_p0 ++ (ce_X5 kA (g 1) o_p0_panel ++ (ce_XJ kA q_p3 (ss_LF o_p3 (vp_updL (os_L o_p3) (Int32.toNatClampNeg (0 : Int32)) (Int32.toInt64 u_1.2)))))) := hD
    refine lv_goto (tgt := 17) hx hb dL_height_10 (by decide) ?_
    refine lv_iconst (v := 0) hx hb dL_height_17 (by decide) ?_
    rw [← Option.some.inj hf]
    exact W.widen (k := 1) (n := 6) (Nat.le_of_ble_eq_true rfl) (Nat.le_of_ble_eq_true rfl) (mc_reti hx hb hr hlk hP hK hD hS dL_height_18)
def ff_L_cellsOf (N : Nat) (o_p0 : os_T) (o_p0_panel : os_T) (o_p2 : os_T) (a1 : Int32) : Option (Int32 × os_T) :=
  ((ff_X12_cellsOf N o_p0 o_p0_panel a1).bind fun u_1 => (if u_1.1 = 0 then (if os_in (0 : Int32) 1 then some ((0 : Int32), ss_LF o_p2 (vp_updL (os_L o_p2) (Int32.toNatClampNeg (0 : Int32)) (Int32.toInt64 u_1.2))) else none) else (if u_1.1 = 2 then some ((1 : Int32), o_p2) else none)))
set_option maxHeartbeats 4000000 in
set_option maxRecDepth 100000 in
theorem mm_L_cellsOf (l : Launch) (hst : l.stackTraces = false) (zz : Nat → Nat → Nat) (D : va_G) (kA : Nat → ClassId) (N : Nat) (g : Nat → Nat → Nat) (q_p2 : Nat → Nat) (o_p0 : os_T) (o_p0_panel : os_T) (o_p2 : os_T) (a1 : Int32) (out : (Int32 × os_T)) (hf : ff_L_cellsOf N o_p0 o_p0_panel o_p2 a1 = some out) : mh_C l zz D kA yL_cellsOf wsL_cellsOf ({ frames := 8, cells := 1, slots := 6, locals := 132 } : Room) [.ref ((g 0) 0), .int a1, .ref (q_p2 0)] (ce_X12 kA g o_p0 ++ (ce_X5 kA (g 1) o_p0_panel ++ (ce_XJ kA q_p2 o_p2))) (some (.int out.1)) (ce_X12 kA g o_p0 ++ (ce_X5 kA (g 1) o_p0_panel ++ (ce_XJ kA q_p2 out.2))) := by
  refine mh_of (hh := [(0, 9, 12, 19)]) (cc := cL_cellsOf) (maxL := 4) (ret := (some .int)) (by decide) rfl (Nat.le_of_ble_eq_true rfl) ?_
  intro p e s m below meth c A B hex hZ hD hP hS ls hl
  obtain ⟨hx, hb, hr, hlk, hml, hown, hts, hK, hA, hnm⟩ := B
  have hown : s.vm.findClass RL = some m.cls := hown
  have hl : lv_has ls 4 [(0, .ref ((g 0) 0)), (1, .int a1), (2, .ref (q_p2 0))] := hl
  unfold ff_L_cellsOf at hf
  refine lv_aload_n hx hb dL_cellsOf_0 rfl (lv_at hl 2 rfl) ?_
  refine lv_iconst (v := 0) hx hb dL_cellsOf_1 (by decide) ?_
  refine lv_aload_n hx hb dL_cellsOf_2 rfl (lv_at hl 0 rfl) ?_
  refine lv_iload_n hx hb dL_cellsOf_3 rfl (lv_at hl 1 rfl) ?_
  obtain ⟨u_1, he_2, hf⟩ := os_bd hf
  refine mx_callV ⟨hx, hb, hml, hown, hts⟩ (mm_X12_cellsOf l hst zz D kA N g o_p0 o_p0_panel a1 u_1 he_2) (cwV 1 hts gL_cellsOf_X12_cellsOf rfl rfl rfl (by decide +kernel) ⟨Nat.le_of_ble_eq_true rfl, Nat.le_of_ble_eq_true rfl⟩) (wc := (ce_X12 kA g o_p0 ++ (ce_X5 kA (g 1) o_p0_panel))) (ci := 8) (q0 := 0) rfl rfl rfl hl.1 (As := [.int a1]) (rest := [.int (0 : Int32), .ref (q_p2 0)]) rfl (Nat.le_of_ble_eq_true rfl) dL_cellsOf_4 ⟨Nat.le_of_ble_eq_true rfl, Nat.le_of_ble_eq_true rfl⟩ hK hP hD hS hA hZ [0, 1, 2, 3, 4, 5, 6, 7] [8] [1, 2, 3, 4, 5, 6, 7, 8, 0] rfl (by decide) rfl (by decide) (by decide) rfl (by decide) (wr := (ce_XJ kA q_p2 o_p2)) (w2 := (ce_X12 kA g o_p0 ++ (ce_X5 kA (g 1) o_p0_panel ++ (ce_XJ kA q_p2 o_p2)))) (fun hx9 H locs q9 ce hP hD hS h91 h92 h93 => ?_) (fun hx9 H locs hP hD hS => ?_)
  · rw [if_neg hx9] at hf
    by_cases hy_4 : u_1.1 = 2
    · rw [if_pos hy_4] at hf
      rw [hy_4] at h93
      refine vx_catch (E := mx_n 2) (name := "java/lang/IllegalArgumentException") hown [] (⟨0, 9, 12, 19⟩ : ExceptionTableEntry) [] hex (fun z h => nomatch h) rfl (by decide) (hts (Cond.classLink RL 19 "java/lang/IllegalArgumentException") (List.mem_of_getElem? (i := 1) rfl)) (va_Nw.use rfl (hZ.2.2.1.2.2.2.1 2)) h91 h92 h93 ?_
      have hP : va_P D vwCl (ce_X12 kA g o_p0 ++ (ce_X5 kA (g 1) o_p0_panel ++ (ce_XJ kA q_p2 o_p2))) H := hP
      refine lv_astore_n (lv' := [(3, .ref q9), (0, .ref ((g 0) 0)), (1, .int a1), (2, .ref (q_p2 0))]) hx hb dL_cellsOf_12 rfl hl (by decide) rfl (fun ls hl => ?_)
      refine lv_iconst (v := 1) hx hb dL_cellsOf_13 (by decide) ?_
      rw [← Option.some.inj hf]
      exact W.widen (k := 1) (n := 6) (Nat.le_of_ble_eq_true rfl) (Nat.le_of_ble_eq_true rfl) (mc_reti hx hb hr hlk hP hK hD hS dL_cellsOf_14)
    rw [if_neg hy_4] at hf
    cases hf
  · rw [if_pos hx9] at hf
    refine W.widen (k := 1) (n := 6) (Nat.le_of_ble_eq_true rfl) (Nat.le_of_ble_eq_true rfl) ?_
    have hP : va_P D vwCl (ce_X12 kA g o_p0 ++ (ce_X5 kA (g 1) o_p0_panel ++ (ce_XJ kA q_p2 o_p2))) H := hP
    refine lv_i2l hx hb dL_cellsOf_7 rfl ?_
    obtain ⟨hi_3, hf⟩ := os_if hf
    refine va_last hx hb hK hP hD hS 8 4 rfl rfl hi_3 dL_cellsOf_8 (fun H locs hP hD hS => ?_)
    have hP : va_P D vwCl (ce_X12 kA g o_p0 ++ (ce_X5 kA (g 1) o_p0_panel ++ (ce_XJ kA q_p2 (ss_LF o_p2 (vp_updL (os_L o_p2) (Int32.toNatClampNeg (0 : Int32)) (Int32.toInt64 u_1.2)))))) H := hP
    have hD : va_D A (ce_X12 kA g o_p0 ++ (ce_X5 kA (g 1) o_p0_panel ++ (ce_XJ kA q_p2 (ss_LF o_p2 (vp_updL (os_L o_p2) (Int32.toNatClampNeg (0 : Int32)) (Int32.toInt64 u_1.2)))))) := hD
    refine lv_goto (tgt := 15) hx hb dL_cellsOf_9 (by decide) ?_
    refine lv_iconst (v := 0) hx hb dL_cellsOf_15 (by decide) ?_
    rw [← Option.some.inj hf]
    exact W.widen (k := 1) (n := 6) (Nat.le_of_ble_eq_true rfl) (Nat.le_of_ble_eq_true rfl) (mc_reti hx hb hr hlk hP hK hD hS dL_cellsOf_16)
def ff_L_light (N : Nat) (o_p0 : os_T) (o_p0_panel : os_T) (o_p2 : os_T) (a1 : Int32) : Option (Int32 × os_T) :=
  ((ff_X12_light N o_p0 o_p0_panel a1).bind fun u_1 => (if u_1.1 = 0 then (if os_n64 (FP.f2d u_1.2) then (if os_in (0 : Int32) 1 then some ((0 : Int32), ss_LF o_p2 (vp_updL (os_L o_p2) (Int32.toNatClampNeg (0 : Int32)) (UInt64.toInt64 (FP.f2d u_1.2)))) else none) else none) else (if u_1.1 = 2 then some ((1 : Int32), o_p2) else none)))
set_option maxHeartbeats 4000000 in
set_option maxRecDepth 100000 in
theorem mm_L_light (l : Launch) (hst : l.stackTraces = false) (zz : Nat → Nat → Nat) (D : va_G) (kA : Nat → ClassId) (N : Nat) (g : Nat → Nat → Nat) (q_p2 : Nat → Nat) (o_p0 : os_T) (o_p0_panel : os_T) (o_p2 : os_T) (a1 : Int32) (out : (Int32 × os_T)) (hf : ff_L_light N o_p0 o_p0_panel o_p2 a1 = some out) : mh_C l zz D kA yL_light wsL_light ({ frames := 8, cells := 1, slots := 6, locals := 132 } : Room) [.ref ((g 0) 0), .int a1, .ref (q_p2 0)] (ce_X12 kA g o_p0 ++ (ce_X5 kA (g 1) o_p0_panel ++ (ce_XD kA q_p2 o_p2))) (some (.int out.1)) (ce_X12 kA g o_p0 ++ (ce_X5 kA (g 1) o_p0_panel ++ (ce_XD kA q_p2 out.2))) := by
  refine mh_of (hh := [(0, 9, 12, 19)]) (cc := cL_light) (maxL := 4) (ret := (some .int)) (by decide) rfl (Nat.le_of_ble_eq_true rfl) ?_
  intro p e s m below meth c A B hex hZ hD hP hS ls hl
  obtain ⟨hx, hb, hr, hlk, hml, hown, hts, hK, hA, hnm⟩ := B
  have hown : s.vm.findClass RL = some m.cls := hown
  have hl : lv_has ls 4 [(0, .ref ((g 0) 0)), (1, .int a1), (2, .ref (q_p2 0))] := hl
  unfold ff_L_light at hf
  refine lv_aload_n hx hb dL_light_0 rfl (lv_at hl 2 rfl) ?_
  refine lv_iconst (v := 0) hx hb dL_light_1 (by decide) ?_
  refine lv_aload_n hx hb dL_light_2 rfl (lv_at hl 0 rfl) ?_
  refine lv_iload_n hx hb dL_light_3 rfl (lv_at hl 1 rfl) ?_
  obtain ⟨u_1, he_2, hf⟩ := os_bd hf
  refine mx_callV ⟨hx, hb, hml, hown, hts⟩ (mm_X12_light l hst zz D kA N g o_p0 o_p0_panel a1 u_1 he_2) (cwV 1 hts gL_light_X12_light rfl rfl rfl (by decide +kernel) ⟨Nat.le_of_ble_eq_true rfl, Nat.le_of_ble_eq_true rfl⟩) (wc := (ce_X12 kA g o_p0 ++ (ce_X5 kA (g 1) o_p0_panel))) (ci := 8) (q0 := 0) rfl rfl rfl hl.1 (As := [.int a1]) (rest := [.int (0 : Int32), .ref (q_p2 0)]) rfl (Nat.le_of_ble_eq_true rfl) dL_light_4 ⟨Nat.le_of_ble_eq_true rfl, Nat.le_of_ble_eq_true rfl⟩ hK hP hD hS hA hZ [0, 1, 2, 3, 4, 5, 6, 7] [8] [1, 2, 3, 4, 5, 6, 7, 8, 0] rfl (by decide) rfl (by decide) (by decide) rfl (by decide) (wr := (ce_XD kA q_p2 o_p2)) (w2 := (ce_X12 kA g o_p0 ++ (ce_X5 kA (g 1) o_p0_panel ++ (ce_XD kA q_p2 o_p2)))) (fun hx9 H locs q9 ce hP hD hS h91 h92 h93 => ?_) (fun hx9 H locs hP hD hS => ?_)
  · rw [if_neg hx9] at hf
    by_cases hy_5 : u_1.1 = 2
    · rw [if_pos hy_5] at hf
      rw [hy_5] at h93
      refine vx_catch (E := mx_n 2) (name := "java/lang/IllegalArgumentException") hown [] (⟨0, 9, 12, 19⟩ : ExceptionTableEntry) [] hex (fun z h => nomatch h) rfl (by decide) (hts (Cond.classLink RL 19 "java/lang/IllegalArgumentException") (List.mem_of_getElem? (i := 1) rfl)) (va_Nw.use rfl (hZ.2.2.1.2.2.2.1 2)) h91 h92 h93 ?_
      have hP : va_P D vwCl (ce_X12 kA g o_p0 ++ (ce_X5 kA (g 1) o_p0_panel ++ (ce_XD kA q_p2 o_p2))) H := hP
      refine lv_astore_n (lv' := [(3, .ref q9), (0, .ref ((g 0) 0)), (1, .int a1), (2, .ref (q_p2 0))]) hx hb dL_light_12 rfl hl (by decide) rfl (fun ls hl => ?_)
      refine lv_iconst (v := 1) hx hb dL_light_13 (by decide) ?_
      rw [← Option.some.inj hf]
      exact W.widen (k := 1) (n := 6) (Nat.le_of_ble_eq_true rfl) (Nat.le_of_ble_eq_true rfl) (mc_reti hx hb hr hlk hP hK hD hS dL_light_14)
    rw [if_neg hy_5] at hf
    cases hf
  · rw [if_pos hx9] at hf
    refine W.widen (k := 1) (n := 6) (Nat.le_of_ble_eq_true rfl) (Nat.le_of_ble_eq_true rfl) ?_
    have hP : va_P D vwCl (ce_X12 kA g o_p0 ++ (ce_X5 kA (g 1) o_p0_panel ++ (ce_XD kA q_p2 o_p2))) H := hP
    obtain ⟨hn_3, hf⟩ := os_if hf
    refine lv_f2d hx hb dL_light_7 hn_3 ?_
    obtain ⟨hi_4, hf⟩ := os_if hf
    refine va_dast hx hb hK hP hD hS 8 5 rfl rfl hi_4 dL_light_8 (fun H locs hP hD hS => ?_)
    rw [os_updD] at hP hD
    have hP : va_P D vwCl (ce_X12 kA g o_p0 ++ (ce_X5 kA (g 1) o_p0_panel ++ (ce_XD kA q_p2 (ss_LF o_p2 (vp_updL (os_L o_p2) (Int32.toNatClampNeg (0 : Int32)) (UInt64.toInt64 (FP.f2d u_1.2))))))) H := hP
    have hD : va_D A (ce_X12 kA g o_p0 ++ (ce_X5 kA (g 1) o_p0_panel ++ (ce_XD kA q_p2 (ss_LF o_p2 (vp_updL (os_L o_p2) (Int32.toNatClampNeg (0 : Int32)) (UInt64.toInt64 (FP.f2d u_1.2))))))) := hD
    refine lv_goto (tgt := 15) hx hb dL_light_9 (by decide) ?_
    refine lv_iconst (v := 0) hx hb dL_light_15 (by decide) ?_
    rw [← Option.some.inj hf]
    exact W.widen (k := 1) (n := 6) (Nat.le_of_ble_eq_true rfl) (Nat.le_of_ble_eq_true rfl) (mc_reti hx hb hr hlk hP hK hD hS dL_light_16)
def ff_L_heightFor (N : Nat) (o_p0 : os_T) (o_p0_panel : os_T) (o_p2 : os_T) (a1 : Int32) : Option (Int32 × os_T) :=
  ((ff_X12_heightFor N o_p0 o_p0_panel a1).bind fun u_1 => (if u_1.1 = 0 then (if os_in (0 : Int32) 1 then some ((0 : Int32), ss_LF o_p2 (vp_updL (os_L o_p2) (Int32.toNatClampNeg (0 : Int32)) (Int32.toInt64 u_1.2))) else none) else (if u_1.1 = 2 then some ((1 : Int32), o_p2) else none)))
set_option maxHeartbeats 4000000 in
set_option maxRecDepth 100000 in
theorem mm_L_heightFor (l : Launch) (hst : l.stackTraces = false) (zz : Nat → Nat → Nat) (D : va_G) (kA : Nat → ClassId) (N : Nat) (g : Nat → Nat → Nat) (q_p2 : Nat → Nat) (o_p0 : os_T) (o_p0_panel : os_T) (o_p2 : os_T) (a1 : Int32) (out : (Int32 × os_T)) (hf : ff_L_heightFor N o_p0 o_p0_panel o_p2 a1 = some out) : mh_C l zz D kA yL_heightFor wsL_heightFor ({ frames := 8, cells := 1, slots := 6, locals := 132 } : Room) [.ref ((g 0) 0), .int a1, .ref (q_p2 0)] (ce_X12 kA g o_p0 ++ (ce_X5 kA (g 1) o_p0_panel ++ (ce_XJ kA q_p2 o_p2))) (some (.int out.1)) (ce_X12 kA g o_p0 ++ (ce_X5 kA (g 1) o_p0_panel ++ (ce_XJ kA q_p2 out.2))) := by
  refine mh_of (hh := [(0, 9, 12, 19)]) (cc := cL_heightFor) (maxL := 4) (ret := (some .int)) (by decide) rfl (Nat.le_of_ble_eq_true rfl) ?_
  intro p e s m below meth c A B hex hZ hD hP hS ls hl
  obtain ⟨hx, hb, hr, hlk, hml, hown, hts, hK, hA, hnm⟩ := B
  have hown : s.vm.findClass RL = some m.cls := hown
  have hl : lv_has ls 4 [(0, .ref ((g 0) 0)), (1, .int a1), (2, .ref (q_p2 0))] := hl
  unfold ff_L_heightFor at hf
  refine lv_aload_n hx hb dL_heightFor_0 rfl (lv_at hl 2 rfl) ?_
  refine lv_iconst (v := 0) hx hb dL_heightFor_1 (by decide) ?_
  refine lv_aload_n hx hb dL_heightFor_2 rfl (lv_at hl 0 rfl) ?_
  refine lv_iload_n hx hb dL_heightFor_3 rfl (lv_at hl 1 rfl) ?_
  obtain ⟨u_1, he_2, hf⟩ := os_bd hf
  refine mx_callV ⟨hx, hb, hml, hown, hts⟩ (mm_X12_heightFor l hst zz D kA N g o_p0 o_p0_panel a1 u_1 he_2) (cwV 1 hts gL_heightFor_X12_heightFor rfl rfl rfl (by decide +kernel) ⟨Nat.le_of_ble_eq_true rfl, Nat.le_of_ble_eq_true rfl⟩) (wc := (ce_X12 kA g o_p0 ++ (ce_X5 kA (g 1) o_p0_panel))) (ci := 8) (q0 := 0) rfl rfl rfl hl.1 (As := [.int a1]) (rest := [.int (0 : Int32), .ref (q_p2 0)]) rfl (Nat.le_of_ble_eq_true rfl) dL_heightFor_4 ⟨Nat.le_of_ble_eq_true rfl, Nat.le_of_ble_eq_true rfl⟩ hK hP hD hS hA hZ [0, 1, 2, 3, 4, 5, 6, 7] [8] [1, 2, 3, 4, 5, 6, 7, 8, 0] rfl (by decide) rfl (by decide) (by decide) rfl (by decide) (wr := (ce_XJ kA q_p2 o_p2)) (w2 := (ce_X12 kA g o_p0 ++ (ce_X5 kA (g 1) o_p0_panel ++ (ce_XJ kA q_p2 o_p2)))) (fun hx9 H locs q9 ce hP hD hS h91 h92 h93 => ?_) (fun hx9 H locs hP hD hS => ?_)
  · rw [if_neg hx9] at hf
    by_cases hy_4 : u_1.1 = 2
    · rw [if_pos hy_4] at hf
      rw [hy_4] at h93
      refine vx_catch (E := mx_n 2) (name := "java/lang/IllegalArgumentException") hown [] (⟨0, 9, 12, 19⟩ : ExceptionTableEntry) [] hex (fun z h => nomatch h) rfl (by decide) (hts (Cond.classLink RL 19 "java/lang/IllegalArgumentException") (List.mem_of_getElem? (i := 1) rfl)) (va_Nw.use rfl (hZ.2.2.1.2.2.2.1 2)) h91 h92 h93 ?_
      have hP : va_P D vwCl (ce_X12 kA g o_p0 ++ (ce_X5 kA (g 1) o_p0_panel ++ (ce_XJ kA q_p2 o_p2))) H := hP
      refine lv_astore_n (lv' := [(3, .ref q9), (0, .ref ((g 0) 0)), (1, .int a1), (2, .ref (q_p2 0))]) hx hb dL_heightFor_12 rfl hl (by decide) rfl (fun ls hl => ?_)
      refine lv_iconst (v := 1) hx hb dL_heightFor_13 (by decide) ?_
      rw [← Option.some.inj hf]
      exact W.widen (k := 1) (n := 6) (Nat.le_of_ble_eq_true rfl) (Nat.le_of_ble_eq_true rfl) (mc_reti hx hb hr hlk hP hK hD hS dL_heightFor_14)
    rw [if_neg hy_4] at hf
    cases hf
  · rw [if_pos hx9] at hf
    refine W.widen (k := 1) (n := 6) (Nat.le_of_ble_eq_true rfl) (Nat.le_of_ble_eq_true rfl) ?_
    have hP : va_P D vwCl (ce_X12 kA g o_p0 ++ (ce_X5 kA (g 1) o_p0_panel ++ (ce_XJ kA q_p2 o_p2))) H := hP
    refine lv_i2l hx hb dL_heightFor_7 rfl ?_
    obtain ⟨hi_3, hf⟩ := os_if hf
    refine va_last hx hb hK hP hD hS 8 4 rfl rfl hi_3 dL_heightFor_8 (fun H locs hP hD hS => ?_)
    have hP : va_P D vwCl (ce_X12 kA g o_p0 ++ (ce_X5 kA (g 1) o_p0_panel ++ (ce_XJ kA q_p2 (ss_LF o_p2 (vp_updL (os_L o_p2) (Int32.toNatClampNeg (0 : Int32)) (Int32.toInt64 u_1.2)))))) H := hP
    have hD : va_D A (ce_X12 kA g o_p0 ++ (ce_X5 kA (g 1) o_p0_panel ++ (ce_XJ kA q_p2 (ss_LF o_p2 (vp_updL (os_L o_p2) (Int32.toNatClampNeg (0 : Int32)) (Int32.toInt64 u_1.2)))))) := hD
    refine lv_goto (tgt := 15) hx hb dL_heightFor_9 (by decide) ?_
    refine lv_iconst (v := 0) hx hb dL_heightFor_15 (by decide) ?_
    rw [← Option.some.inj hf]
    exact W.widen (k := 1) (n := 6) (Nat.le_of_ble_eq_true rfl) (Nat.le_of_ble_eq_true rfl) (mc_reti hx hb hr hlk hP hK hD hS dL_heightFor_16)
def ff_L_wanted (N : Nat) (o_p0 : os_T) (o_p0_panel : os_T) (o_p3 : os_T) (a1 : Int32) (a2 : Int32) : Option (Int32 × os_T) :=
  ((ff_X12_wanted N o_p0 o_p0_panel a1 a2).bind fun u_1 => (if u_1.1 = 0 then (if os_n64 (FP.f2d u_1.2) then (if os_in (0 : Int32) 1 then some ((0 : Int32), ss_LF o_p3 (vp_updL (os_L o_p3) (Int32.toNatClampNeg (0 : Int32)) (UInt64.toInt64 (FP.f2d u_1.2)))) else none) else none) else (if u_1.1 = 3 then some ((1 : Int32), o_p3) else none)))
set_option maxHeartbeats 4000000 in
set_option maxRecDepth 100000 in
theorem mm_L_wanted (l : Launch) (hst : l.stackTraces = false) (zz : Nat → Nat → Nat) (D : va_G) (kA : Nat → ClassId) (N : Nat) (g : Nat → Nat → Nat) (q_p3 : Nat → Nat) (o_p0 : os_T) (o_p0_panel : os_T) (o_p3 : os_T) (a1 : Int32) (a2 : Int32) (out : (Int32 × os_T)) (hf : ff_L_wanted N o_p0 o_p0_panel o_p3 a1 a2 = some out) : mh_C l zz D kA yL_wanted wsL_wanted ({ frames := 8, cells := 1, slots := 6, locals := 134 } : Room) [.ref ((g 0) 0), .int a1, .int a2, .ref (q_p3 0)] (ce_X12 kA g o_p0 ++ (ce_X5 kA (g 1) o_p0_panel ++ (ce_XD kA q_p3 o_p3))) (some (.int out.1)) (ce_X12 kA g o_p0 ++ (ce_X5 kA (g 1) o_p0_panel ++ (ce_XD kA q_p3 out.2))) := by
  refine mh_of (hh := [(0, 10, 13, 35)]) (cc := cL_wanted) (maxL := 5) (ret := (some .int)) (by decide) rfl (Nat.le_of_ble_eq_true rfl) ?_
  intro p e s m below meth c A B hex hZ hD hP hS ls hl
  obtain ⟨hx, hb, hr, hlk, hml, hown, hts, hK, hA, hnm⟩ := B
  have hown : s.vm.findClass RL = some m.cls := hown
  have hl : lv_has ls 5 [(0, .ref ((g 0) 0)), (1, .int a1), (2, .int a2), (3, .ref (q_p3 0))] := hl
  unfold ff_L_wanted at hf
  refine lv_aload_n hx hb dL_wanted_0 rfl (lv_at hl 3 rfl) ?_
  refine lv_iconst (v := 0) hx hb dL_wanted_1 (by decide) ?_
  refine lv_aload_n hx hb dL_wanted_2 rfl (lv_at hl 0 rfl) ?_
  refine lv_iload_n hx hb dL_wanted_3 rfl (lv_at hl 1 rfl) ?_
  refine lv_iload_n hx hb dL_wanted_4 rfl (lv_at hl 2 rfl) ?_
  obtain ⟨u_1, he_2, hf⟩ := os_bd hf
  refine mx_callV ⟨hx, hb, hml, hown, hts⟩ (mm_X12_wanted l hst zz D kA N g o_p0 o_p0_panel a1 a2 u_1 he_2) (cwV 2 hts gL_wanted_X12_wanted rfl rfl rfl (by decide +kernel) ⟨Nat.le_of_ble_eq_true rfl, Nat.le_of_ble_eq_true rfl⟩) (wc := (ce_X12 kA g o_p0 ++ (ce_X5 kA (g 1) o_p0_panel))) (ci := 8) (q0 := 0) rfl rfl rfl hl.1 (As := [.int a1, .int a2]) (rest := [.int (0 : Int32), .ref (q_p3 0)]) rfl (Nat.le_of_ble_eq_true rfl) dL_wanted_5 ⟨Nat.le_of_ble_eq_true rfl, Nat.le_of_ble_eq_true rfl⟩ hK hP hD hS hA hZ [0, 1, 2, 3, 4, 5, 6, 7] [8] [1, 2, 3, 4, 5, 6, 7, 8, 0] rfl (by decide) rfl (by decide) (by decide) rfl (by decide) (wr := (ce_XD kA q_p3 o_p3)) (w2 := (ce_X12 kA g o_p0 ++ (ce_X5 kA (g 1) o_p0_panel ++ (ce_XD kA q_p3 o_p3)))) (fun hx9 H locs q9 ce hP hD hS h91 h92 h93 => ?_) (fun hx9 H locs hP hD hS => ?_)
  · rw [if_neg hx9] at hf
    by_cases hy_5 : u_1.1 = 3
    · rw [if_pos hy_5] at hf
      rw [hy_5] at h93
      refine vx_catch (E := mx_n 3) (name := "java/lang/IndexOutOfBoundsException") hown [] (⟨0, 10, 13, 35⟩ : ExceptionTableEntry) [] hex (fun z h => nomatch h) rfl (by decide) (hts (Cond.classLink RL 35 "java/lang/IndexOutOfBoundsException") (List.mem_of_getElem? (i := 1) rfl)) (va_Nw.use rfl (hZ.2.2.1.2.2.2.1 3)) h91 h92 h93 ?_
      have hP : va_P D vwCl (ce_X12 kA g o_p0 ++ (ce_X5 kA (g 1) o_p0_panel ++ (ce_XD kA q_p3 o_p3))) H := hP
      refine lv_astore (lv' := [(4, .ref q9), (0, .ref ((g 0) 0)), (1, .int a1), (2, .int a2), (3, .ref (q_p3 0))]) hx hb dL_wanted_13 hl (by decide) rfl (fun ls hl => ?_)
      refine lv_iconst (v := 1) hx hb dL_wanted_15 (by decide) ?_
      rw [← Option.some.inj hf]
      exact W.widen (k := 1) (n := 6) (Nat.le_of_ble_eq_true rfl) (Nat.le_of_ble_eq_true rfl) (mc_reti hx hb hr hlk hP hK hD hS dL_wanted_16)
    rw [if_neg hy_5] at hf
    cases hf
  · rw [if_pos hx9] at hf
    refine W.widen (k := 1) (n := 6) (Nat.le_of_ble_eq_true rfl) (Nat.le_of_ble_eq_true rfl) ?_
    have hP : va_P D vwCl (ce_X12 kA g o_p0 ++ (ce_X5 kA (g 1) o_p0_panel ++ (ce_XD kA q_p3 o_p3))) H := hP
    obtain ⟨hn_3, hf⟩ := os_if hf
    refine lv_f2d hx hb dL_wanted_8 hn_3 ?_
    obtain ⟨hi_4, hf⟩ := os_if hf
    refine va_dast hx hb hK hP hD hS 8 5 rfl rfl hi_4 dL_wanted_9 (fun H locs hP hD hS => ?_)
    rw [os_updD] at hP hD
    have hP : va_P D vwCl (ce_X12 kA g o_p0 ++ (ce_X5 kA (g 1) o_p0_panel ++ (ce_XD kA q_p3 (ss_LF o_p3 (vp_updL (os_L o_p3) (Int32.toNatClampNeg (0 : Int32)) (UInt64.toInt64 (FP.f2d u_1.2))))))) H := hP
    have hD : va_D A (ce_X12 kA g o_p0 ++ (ce_X5 kA (g 1) o_p0_panel ++ (ce_XD kA q_p3 (ss_LF o_p3 (vp_updL (os_L o_p3) (Int32.toNatClampNeg (0 : Int32)) (UInt64.toInt64 (FP.f2d u_1.2))))))) := hD
    refine lv_goto (tgt := 17) hx hb dL_wanted_10 (by decide) ?_
    refine lv_iconst (v := 0) hx hb dL_wanted_17 (by decide) ?_
    rw [← Option.some.inj hf]
    exact W.widen (k := 1) (n := 6) (Nat.le_of_ble_eq_true rfl) (Nat.le_of_ble_eq_true rfl) (mc_reti hx hb hr hlk hP hK hD hS dL_wanted_18)
def ff_L_estimate (N : Nat) (o_p0 : os_T) (o_p0_panel : os_T) (o_p3 : os_T) (a1 : Int32) (a2 : Int32) : Option (Int32 × os_T) :=
  ((ff_X12_estimate N o_p0 o_p0_panel a1 a2).bind fun u_1 => (if u_1.1 = 0 then (if os_n64 (FP.f2d u_1.2) then (if os_in (0 : Int32) 1 then some ((0 : Int32), ss_LF o_p3 (vp_updL (os_L o_p3) (Int32.toNatClampNeg (0 : Int32)) (UInt64.toInt64 (FP.f2d u_1.2)))) else none) else none) else (if u_1.1 = 3 then some ((1 : Int32), o_p3) else none)))
set_option maxHeartbeats 4000000 in
set_option maxRecDepth 100000 in
theorem mm_L_estimate (l : Launch) (hst : l.stackTraces = false) (zz : Nat → Nat → Nat) (D : va_G) (kA : Nat → ClassId) (N : Nat) (g : Nat → Nat → Nat) (q_p3 : Nat → Nat) (o_p0 : os_T) (o_p0_panel : os_T) (o_p3 : os_T) (a1 : Int32) (a2 : Int32) (out : (Int32 × os_T)) (hf : ff_L_estimate N o_p0 o_p0_panel o_p3 a1 a2 = some out) : mh_C l zz D kA yL_estimate wsL_estimate ({ frames := 8, cells := 1, slots := 6, locals := 134 } : Room) [.ref ((g 0) 0), .int a1, .int a2, .ref (q_p3 0)] (ce_X12 kA g o_p0 ++ (ce_X5 kA (g 1) o_p0_panel ++ (ce_XD kA q_p3 o_p3))) (some (.int out.1)) (ce_X12 kA g o_p0 ++ (ce_X5 kA (g 1) o_p0_panel ++ (ce_XD kA q_p3 out.2))) := by
  refine mh_of (hh := [(0, 10, 13, 35)]) (cc := cL_estimate) (maxL := 5) (ret := (some .int)) (by decide) rfl (Nat.le_of_ble_eq_true rfl) ?_
  intro p e s m below meth c A B hex hZ hD hP hS ls hl
  obtain ⟨hx, hb, hr, hlk, hml, hown, hts, hK, hA, hnm⟩ := B
  have hown : s.vm.findClass RL = some m.cls := hown
  have hl : lv_has ls 5 [(0, .ref ((g 0) 0)), (1, .int a1), (2, .int a2), (3, .ref (q_p3 0))] := hl
  unfold ff_L_estimate at hf
  refine lv_aload_n hx hb dL_estimate_0 rfl (lv_at hl 3 rfl) ?_
  refine lv_iconst (v := 0) hx hb dL_estimate_1 (by decide) ?_
  refine lv_aload_n hx hb dL_estimate_2 rfl (lv_at hl 0 rfl) ?_
  refine lv_iload_n hx hb dL_estimate_3 rfl (lv_at hl 1 rfl) ?_
  refine lv_iload_n hx hb dL_estimate_4 rfl (lv_at hl 2 rfl) ?_
  obtain ⟨u_1, he_2, hf⟩ := os_bd hf
  refine mx_callV ⟨hx, hb, hml, hown, hts⟩ (mm_X12_estimate l hst zz D kA N g o_p0 o_p0_panel a1 a2 u_1 he_2) (cwV 2 hts gL_estimate_X12_estimate rfl rfl rfl (by decide +kernel) ⟨Nat.le_of_ble_eq_true rfl, Nat.le_of_ble_eq_true rfl⟩) (wc := (ce_X12 kA g o_p0 ++ (ce_X5 kA (g 1) o_p0_panel))) (ci := 8) (q0 := 0) rfl rfl rfl hl.1 (As := [.int a1, .int a2]) (rest := [.int (0 : Int32), .ref (q_p3 0)]) rfl (Nat.le_of_ble_eq_true rfl) dL_estimate_5 ⟨Nat.le_of_ble_eq_true rfl, Nat.le_of_ble_eq_true rfl⟩ hK hP hD hS hA hZ [0, 1, 2, 3, 4, 5, 6, 7] [8] [1, 2, 3, 4, 5, 6, 7, 8, 0] rfl (by decide) rfl (by decide) (by decide) rfl (by decide) (wr := (ce_XD kA q_p3 o_p3)) (w2 := (ce_X12 kA g o_p0 ++ (ce_X5 kA (g 1) o_p0_panel ++ (ce_XD kA q_p3 o_p3)))) (fun hx9 H locs q9 ce hP hD hS h91 h92 h93 => ?_) (fun hx9 H locs hP hD hS => ?_)
  · rw [if_neg hx9] at hf
    by_cases hy_5 : u_1.1 = 3
    · rw [if_pos hy_5] at hf
      rw [hy_5] at h93
      refine vx_catch (E := mx_n 3) (name := "java/lang/IndexOutOfBoundsException") hown [] (⟨0, 10, 13, 35⟩ : ExceptionTableEntry) [] hex (fun z h => nomatch h) rfl (by decide) (hts (Cond.classLink RL 35 "java/lang/IndexOutOfBoundsException") (List.mem_of_getElem? (i := 1) rfl)) (va_Nw.use rfl (hZ.2.2.1.2.2.2.1 3)) h91 h92 h93 ?_
      have hP : va_P D vwCl (ce_X12 kA g o_p0 ++ (ce_X5 kA (g 1) o_p0_panel ++ (ce_XD kA q_p3 o_p3))) H := hP
      refine lv_astore (lv' := [(4, .ref q9), (0, .ref ((g 0) 0)), (1, .int a1), (2, .int a2), (3, .ref (q_p3 0))]) hx hb dL_estimate_13 hl (by decide) rfl (fun ls hl => ?_)
      refine lv_iconst (v := 1) hx hb dL_estimate_15 (by decide) ?_
      rw [← Option.some.inj hf]
      exact W.widen (k := 1) (n := 6) (Nat.le_of_ble_eq_true rfl) (Nat.le_of_ble_eq_true rfl) (mc_reti hx hb hr hlk hP hK hD hS dL_estimate_16)
    rw [if_neg hy_5] at hf
    cases hf
  · rw [if_pos hx9] at hf
    refine W.widen (k := 1) (n := 6) (Nat.le_of_ble_eq_true rfl) (Nat.le_of_ble_eq_true rfl) ?_
    have hP : va_P D vwCl (ce_X12 kA g o_p0 ++ (ce_X5 kA (g 1) o_p0_panel ++ (ce_XD kA q_p3 o_p3))) H := hP
    obtain ⟨hn_3, hf⟩ := os_if hf
    refine lv_f2d hx hb dL_estimate_8 hn_3 ?_
    obtain ⟨hi_4, hf⟩ := os_if hf
    refine va_dast hx hb hK hP hD hS 8 5 rfl rfl hi_4 dL_estimate_9 (fun H locs hP hD hS => ?_)
    rw [os_updD] at hP hD
    have hP : va_P D vwCl (ce_X12 kA g o_p0 ++ (ce_X5 kA (g 1) o_p0_panel ++ (ce_XD kA q_p3 (ss_LF o_p3 (vp_updL (os_L o_p3) (Int32.toNatClampNeg (0 : Int32)) (UInt64.toInt64 (FP.f2d u_1.2))))))) H := hP
    have hD : va_D A (ce_X12 kA g o_p0 ++ (ce_X5 kA (g 1) o_p0_panel ++ (ce_XD kA q_p3 (ss_LF o_p3 (vp_updL (os_L o_p3) (Int32.toNatClampNeg (0 : Int32)) (UInt64.toInt64 (FP.f2d u_1.2))))))) := hD
    refine lv_goto (tgt := 17) hx hb dL_estimate_10 (by decide) ?_
    refine lv_iconst (v := 0) hx hb dL_estimate_17 (by decide) ?_
    rw [← Option.some.inj hf]
    exact W.widen (k := 1) (n := 6) (Nat.le_of_ble_eq_true rfl) (Nat.le_of_ble_eq_true rfl) (mc_reti hx hb hr hlk hP hK hD hS dL_estimate_18)
def ff_L_error (N : Nat) (o_p0 : os_T) (o_p0_panel : os_T) (o_p3 : os_T) (a1 : Int32) (a2 : Int32) : Option (Int32 × os_T) :=
  ((ff_X12_error N o_p0 o_p0_panel a1 a2).bind fun u_1 => (if u_1.1 = 0 then (if os_n64 (FP.f2d u_1.2) then (if os_in (0 : Int32) 1 then some ((0 : Int32), ss_LF o_p3 (vp_updL (os_L o_p3) (Int32.toNatClampNeg (0 : Int32)) (UInt64.toInt64 (FP.f2d u_1.2)))) else none) else none) else (if u_1.1 = 3 then some ((1 : Int32), o_p3) else none)))
set_option maxHeartbeats 4000000 in
set_option maxRecDepth 100000 in
theorem mm_L_error (l : Launch) (hst : l.stackTraces = false) (zz : Nat → Nat → Nat) (D : va_G) (kA : Nat → ClassId) (N : Nat) (g : Nat → Nat → Nat) (q_p3 : Nat → Nat) (o_p0 : os_T) (o_p0_panel : os_T) (o_p3 : os_T) (a1 : Int32) (a2 : Int32) (out : (Int32 × os_T)) (hf : ff_L_error N o_p0 o_p0_panel o_p3 a1 a2 = some out) : mh_C l zz D kA yL_error wsL_error ({ frames := 8, cells := 1, slots := 6, locals := 134 } : Room) [.ref ((g 0) 0), .int a1, .int a2, .ref (q_p3 0)] (ce_X12 kA g o_p0 ++ (ce_X5 kA (g 1) o_p0_panel ++ (ce_XD kA q_p3 o_p3))) (some (.int out.1)) (ce_X12 kA g o_p0 ++ (ce_X5 kA (g 1) o_p0_panel ++ (ce_XD kA q_p3 out.2))) := by
  refine mh_of (hh := [(0, 10, 13, 35)]) (cc := cL_error) (maxL := 5) (ret := (some .int)) (by decide) rfl (Nat.le_of_ble_eq_true rfl) ?_
  intro p e s m below meth c A B hex hZ hD hP hS ls hl
  obtain ⟨hx, hb, hr, hlk, hml, hown, hts, hK, hA, hnm⟩ := B
  have hown : s.vm.findClass RL = some m.cls := hown
  have hl : lv_has ls 5 [(0, .ref ((g 0) 0)), (1, .int a1), (2, .int a2), (3, .ref (q_p3 0))] := hl
  unfold ff_L_error at hf
  refine lv_aload_n hx hb dL_error_0 rfl (lv_at hl 3 rfl) ?_
  refine lv_iconst (v := 0) hx hb dL_error_1 (by decide) ?_
  refine lv_aload_n hx hb dL_error_2 rfl (lv_at hl 0 rfl) ?_
  refine lv_iload_n hx hb dL_error_3 rfl (lv_at hl 1 rfl) ?_
  refine lv_iload_n hx hb dL_error_4 rfl (lv_at hl 2 rfl) ?_
  obtain ⟨u_1, he_2, hf⟩ := os_bd hf
  refine mx_callV ⟨hx, hb, hml, hown, hts⟩ (mm_X12_error l hst zz D kA N g o_p0 o_p0_panel a1 a2 u_1 he_2) (cwV 2 hts gL_error_X12_error rfl rfl rfl (by decide +kernel) ⟨Nat.le_of_ble_eq_true rfl, Nat.le_of_ble_eq_true rfl⟩) (wc := (ce_X12 kA g o_p0 ++ (ce_X5 kA (g 1) o_p0_panel))) (ci := 8) (q0 := 0) rfl rfl rfl hl.1 (As := [.int a1, .int a2]) (rest := [.int (0 : Int32), .ref (q_p3 0)]) rfl (Nat.le_of_ble_eq_true rfl) dL_error_5 ⟨Nat.le_of_ble_eq_true rfl, Nat.le_of_ble_eq_true rfl⟩ hK hP hD hS hA hZ [0, 1, 2, 3, 4, 5, 6, 7] [8] [1, 2, 3, 4, 5, 6, 7, 8, 0] rfl (by decide) rfl (by decide) (by decide) rfl (by decide) (wr := (ce_XD kA q_p3 o_p3)) (w2 := (ce_X12 kA g o_p0 ++ (ce_X5 kA (g 1) o_p0_panel ++ (ce_XD kA q_p3 o_p3)))) (fun hx9 H locs q9 ce hP hD hS h91 h92 h93 => ?_) (fun hx9 H locs hP hD hS => ?_)
  · rw [if_neg hx9] at hf
    by_cases hy_5 : u_1.1 = 3
    · rw [if_pos hy_5] at hf
      rw [hy_5] at h93
      refine vx_catch (E := mx_n 3) (name := "java/lang/IndexOutOfBoundsException") hown [] (⟨0, 10, 13, 35⟩ : ExceptionTableEntry) [] hex (fun z h => nomatch h) rfl (by decide) (hts (Cond.classLink RL 35 "java/lang/IndexOutOfBoundsException") (List.mem_of_getElem? (i := 1) rfl)) (va_Nw.use rfl (hZ.2.2.1.2.2.2.1 3)) h91 h92 h93 ?_
      have hP : va_P D vwCl (ce_X12 kA g o_p0 ++ (ce_X5 kA (g 1) o_p0_panel ++ (ce_XD kA q_p3 o_p3))) H := hP
      refine lv_astore (lv' := [(4, .ref q9), (0, .ref ((g 0) 0)), (1, .int a1), (2, .int a2), (3, .ref (q_p3 0))]) hx hb dL_error_13 hl (by decide) rfl (fun ls hl => ?_)
      refine lv_iconst (v := 1) hx hb dL_error_15 (by decide) ?_
      rw [← Option.some.inj hf]
      exact W.widen (k := 1) (n := 6) (Nat.le_of_ble_eq_true rfl) (Nat.le_of_ble_eq_true rfl) (mc_reti hx hb hr hlk hP hK hD hS dL_error_16)
    rw [if_neg hy_5] at hf
    cases hf
  · rw [if_pos hx9] at hf
    refine W.widen (k := 1) (n := 6) (Nat.le_of_ble_eq_true rfl) (Nat.le_of_ble_eq_true rfl) ?_
    have hP : va_P D vwCl (ce_X12 kA g o_p0 ++ (ce_X5 kA (g 1) o_p0_panel ++ (ce_XD kA q_p3 o_p3))) H := hP
    obtain ⟨hn_3, hf⟩ := os_if hf
    refine lv_f2d hx hb dL_error_8 hn_3 ?_
    obtain ⟨hi_4, hf⟩ := os_if hf
    refine va_dast hx hb hK hP hD hS 8 5 rfl rfl hi_4 dL_error_9 (fun H locs hP hD hS => ?_)
    rw [os_updD] at hP hD
    have hP : va_P D vwCl (ce_X12 kA g o_p0 ++ (ce_X5 kA (g 1) o_p0_panel ++ (ce_XD kA q_p3 (ss_LF o_p3 (vp_updL (os_L o_p3) (Int32.toNatClampNeg (0 : Int32)) (UInt64.toInt64 (FP.f2d u_1.2))))))) H := hP
    have hD : va_D A (ce_X12 kA g o_p0 ++ (ce_X5 kA (g 1) o_p0_panel ++ (ce_XD kA q_p3 (ss_LF o_p3 (vp_updL (os_L o_p3) (Int32.toNatClampNeg (0 : Int32)) (UInt64.toInt64 (FP.f2d u_1.2))))))) := hD
    refine lv_goto (tgt := 17) hx hb dL_error_10 (by decide) ?_
    refine lv_iconst (v := 0) hx hb dL_error_17 (by decide) ?_
    rw [← Option.some.inj hf]
    exact W.widen (k := 1) (n := 6) (Nat.le_of_ble_eq_true rfl) (Nat.le_of_ble_eq_true rfl) (mc_reti hx hb hr hlk hP hK hD hS dL_error_18)
def ff_L_isThin_b16 (N : Nat) (o_p0 : os_T) (o_p0_panel : os_T) (o_p3 : os_T) (t0 : Int64) (t1 : Int32) : Option (Int32 × os_T) :=
  (if os_in t1 1 then some ((0 : Int32), ss_LF o_p3 (vp_updL (os_L o_p3) (Int32.toNatClampNeg t1) t0)) else none)
def ff_L_isThin (N : Nat) (o_p0 : os_T) (o_p0_panel : os_T) (o_p3 : os_T) (a1 : Int32) (a2 : Int32) : Option (Int32 × os_T) :=
  ((ff_X12_isThin N o_p0 o_p0_panel a1 a2).bind fun u_1 => (if u_1.1 = 0 then (if u_1.2 = 0 then ff_L_isThin_b16 N o_p0 o_p0_panel o_p3 (0 : Int64) (0 : Int32) else ff_L_isThin_b16 N o_p0 o_p0_panel o_p3 (1 : Int64) (0 : Int32)) else (if u_1.1 = 3 then some ((1 : Int32), o_p3) else none)))
set_option maxHeartbeats 4000000 in
set_option maxRecDepth 100000 in
theorem mm_L_isThin (l : Launch) (hst : l.stackTraces = false) (zz : Nat → Nat → Nat) (D : va_G) (kA : Nat → ClassId) (N : Nat) (g : Nat → Nat → Nat) (q_p3 : Nat → Nat) (o_p0 : os_T) (o_p0_panel : os_T) (o_p3 : os_T) (a1 : Int32) (a2 : Int32) (out : (Int32 × os_T)) (hf : ff_L_isThin N o_p0 o_p0_panel o_p3 a1 a2 = some out) : mh_C l zz D kA yL_isThin wsL_isThin ({ frames := 8, cells := 1, slots := 6, locals := 134 } : Room) [.ref ((g 0) 0), .int a1, .int a2, .ref (q_p3 0)] (ce_X12 kA g o_p0 ++ (ce_X5 kA (g 1) o_p0_panel ++ (ce_XJ kA q_p3 o_p3))) (some (.int out.1)) (ce_X12 kA g o_p0 ++ (ce_X5 kA (g 1) o_p0_panel ++ (ce_XJ kA q_p3 out.2))) := by
  refine mh_of (hh := [(0, 17, 20, 35)]) (cc := cL_isThin) (maxL := 5) (ret := (some .int)) (by decide) rfl (Nat.le_of_ble_eq_true rfl) ?_
  intro p e s m below meth c A B hex hZ hD hP hS ls hl
  obtain ⟨hx, hb, hr, hlk, hml, hown, hts, hK, hA, hnm⟩ := B
  have hown : s.vm.findClass RL = some m.cls := hown
  have hl : lv_has ls 5 [(0, .ref ((g 0) 0)), (1, .int a1), (2, .int a2), (3, .ref (q_p3 0))] := hl
  have hB16 : ∀ (o_p3 : os_T) (t0 : Int64) (t1 : Int32) (H : Heap) (locs : List Loc) (ls : Array Slot), va_P D vwCl (ce_X12 kA g o_p0 ++ (ce_X5 kA (g 1) o_p0_panel ++ (ce_XJ kA q_p3 o_p3))) H → va_D A (ce_X12 kA g o_p0 ++ (ce_X5 kA (g 1) o_p0_panel ++ (ce_XJ kA q_p3 o_p3))) → va_S A s.heap H locs → lv_has ls 5 [] → ff_L_isThin_b16 N o_p0 o_p0_panel o_p3 t0 t1 = some out → W p l e ({ frames := 8, cells := 1, slots := 6, locals := 134 } : Room) s m [.ref ((g 0) 0), .int a1, .int a2, .ref (q_p3 0)].toArray below meth c H locs 1 6 (MQ below (mc_Q D kA A (some (.int out.1)) (ce_X12 kA g o_p0 ++ (ce_X5 kA (g 1) o_p0_panel ++ (ce_XJ kA q_p3 out.2)))) [.ref ((g 0) 0), .int a1, .int a2, .ref (q_p3 0)].toArray s 1 6 A) (F0 m 16 ls [.long t0, .int t1, .ref (q_p3 0)]) := by
    intro o_p3 t0 t1 H locs ls hP hD hS hl hf
    unfold ff_L_isThin_b16 at hf
    obtain ⟨hi_5, hf⟩ := os_if hf
    refine va_last hx hb hK hP hD hS 8 4 rfl rfl hi_5 dL_isThin_16 (fun H locs hP hD hS => ?_)
    have hP : va_P D vwCl (ce_X12 kA g o_p0 ++ (ce_X5 kA (g 1) o_p0_panel ++ (ce_XJ kA q_p3 (ss_LF o_p3 (vp_updL (os_L o_p3) (Int32.toNatClampNeg t1) t0))))) H := hP
    have hD : va_D A (ce_X12 kA g o_p0 ++ (ce_X5 kA (g 1) o_p0_panel ++ (ce_XJ kA q_p3 (ss_LF o_p3 (vp_updL (os_L o_p3) (Int32.toNatClampNeg t1) t0))))) := hD
    refine lv_goto (tgt := 24) hx hb dL_isThin_17 (by decide) ?_
    refine lv_iconst (v := 0) hx hb dL_isThin_24 (by decide) ?_
    rw [← Option.some.inj hf]
    exact W.widen (k := 1) (n := 6) (Nat.le_of_ble_eq_true rfl) (Nat.le_of_ble_eq_true rfl) (mc_reti hx hb hr hlk hP hK hD hS dL_isThin_25)
  unfold ff_L_isThin at hf
  refine lv_aload_n hx hb dL_isThin_0 rfl (lv_at hl 3 rfl) ?_
  refine lv_iconst (v := 0) hx hb dL_isThin_1 (by decide) ?_
  refine lv_aload_n hx hb dL_isThin_2 rfl (lv_at hl 0 rfl) ?_
  refine lv_iload_n hx hb dL_isThin_3 rfl (lv_at hl 1 rfl) ?_
  refine lv_iload_n hx hb dL_isThin_4 rfl (lv_at hl 2 rfl) ?_
  obtain ⟨u_1, he_2, hf⟩ := os_bd hf
  refine mx_callV ⟨hx, hb, hml, hown, hts⟩ (mm_X12_isThin l hst zz D kA N g o_p0 o_p0_panel a1 a2 u_1 he_2) (cwV 2 hts gL_isThin_X12_isThin rfl rfl rfl (by decide +kernel) ⟨Nat.le_of_ble_eq_true rfl, Nat.le_of_ble_eq_true rfl⟩) (wc := (ce_X12 kA g o_p0 ++ (ce_X5 kA (g 1) o_p0_panel))) (ci := 8) (q0 := 0) rfl rfl rfl hl.1 (As := [.int a1, .int a2]) (rest := [.int (0 : Int32), .ref (q_p3 0)]) rfl (Nat.le_of_ble_eq_true rfl) dL_isThin_5 ⟨Nat.le_of_ble_eq_true rfl, Nat.le_of_ble_eq_true rfl⟩ hK hP hD hS hA hZ [0, 1, 2, 3, 4, 5, 6, 7] [8] [1, 2, 3, 4, 5, 6, 7, 8, 0] rfl (by decide) rfl (by decide) (by decide) rfl (by decide) (wr := (ce_XJ kA q_p3 o_p3)) (w2 := (ce_X12 kA g o_p0 ++ (ce_X5 kA (g 1) o_p0_panel ++ (ce_XJ kA q_p3 o_p3)))) (fun hx9 H locs q9 ce hP hD hS h91 h92 h93 => ?_) (fun hx9 H locs hP hD hS => ?_)
  · rw [if_neg hx9] at hf
    by_cases hy_4 : u_1.1 = 3
    · rw [if_pos hy_4] at hf
      rw [hy_4] at h93
      refine vx_catch (E := mx_n 3) (name := "java/lang/IndexOutOfBoundsException") hown [] (⟨0, 17, 20, 35⟩ : ExceptionTableEntry) [] hex (fun z h => nomatch h) rfl (by decide) (hts (Cond.classLink RL 35 "java/lang/IndexOutOfBoundsException") (List.mem_of_getElem? (i := 1) rfl)) (va_Nw.use rfl (hZ.2.2.1.2.2.2.1 3)) h91 h92 h93 ?_
      have hP : va_P D vwCl (ce_X12 kA g o_p0 ++ (ce_X5 kA (g 1) o_p0_panel ++ (ce_XJ kA q_p3 o_p3))) H := hP
      refine lv_astore (lv' := [(4, .ref q9), (0, .ref ((g 0) 0)), (1, .int a1), (2, .int a2), (3, .ref (q_p3 0))]) hx hb dL_isThin_20 hl (by decide) rfl (fun ls hl => ?_)
      refine lv_iconst (v := 1) hx hb dL_isThin_22 (by decide) ?_
      rw [← Option.some.inj hf]
      exact W.widen (k := 1) (n := 6) (Nat.le_of_ble_eq_true rfl) (Nat.le_of_ble_eq_true rfl) (mc_reti hx hb hr hlk hP hK hD hS dL_isThin_23)
    rw [if_neg hy_4] at hf
    cases hf
  · rw [if_pos hx9] at hf
    refine W.widen (k := 1) (n := 6) (Nat.le_of_ble_eq_true rfl) (Nat.le_of_ble_eq_true rfl) ?_
    have hP : va_P D vwCl (ce_X12 kA g o_p0 ++ (ce_X5 kA (g 1) o_p0_panel ++ (ce_XJ kA q_p3 o_p3))) H := hP
    refine lv_if_eq (tgt := 15) hx hb dL_isThin_8 (by decide) (fun hc_3 => ?_) (fun hc_3 => ?_)
    · rw [if_pos hc_3] at hf
      refine lv_lconst (v := 0) hx hb dL_isThin_15 (by decide) ?_
      exact hB16 o_p3 (0 : Int64) (0 : Int32) _ _ _ hP hD hS (lv_sub hl [] rfl) hf
    · rw [if_neg hc_3] at hf
      refine lv_lconst (v := 1) hx hb dL_isThin_11 (by decide) ?_
      refine lv_goto (tgt := 16) hx hb dL_isThin_12 (by decide) ?_
      exact hB16 o_p3 (1 : Int64) (0 : Int32) _ _ _ hP hD hS (lv_sub hl [] rfl) hf
def ff_L_smooth (N : Nat) (o_p0 : os_T) (o_p0_panel : os_T) (o_p0_spare : os_T) (o_p0_history : os_T) (o_p0_history_panels0 : os_T) (o_p0_history_panels1 : os_T) (o_p0_history_panels2 : os_T) (o_p0_history_panels3 : os_T) (o_p0_history_panels4 : os_T) (o_p0_history_panels5 : os_T) (o_p0_history_panels6 : os_T) (o_p2 : os_T) (a1 : Int32) : Option (Int32 × os_T × os_T × os_T × os_T × os_T × os_T × os_T × os_T × os_T × os_T × os_T) :=
  ((ff_X12_smooth N o_p0 o_p0_panel o_p0_spare o_p0_history o_p0_history_panels0 o_p0_history_panels1 o_p0_history_panels2 o_p0_history_panels3 o_p0_history_panels4 o_p0_history_panels5 o_p0_history_panels6 a1).bind fun u_1 => (if u_1.1 = 0 then (if os_in (0 : Int32) 1 then some ((0 : Int32), u_1.2.2.1, u_1.2.2.2.1, u_1.2.2.2.2.1, u_1.2.2.2.2.2.1, u_1.2.2.2.2.2.2.1, u_1.2.2.2.2.2.2.2.1, u_1.2.2.2.2.2.2.2.2.1, u_1.2.2.2.2.2.2.2.2.2.1, u_1.2.2.2.2.2.2.2.2.2.2.1, u_1.2.2.2.2.2.2.2.2.2.2.2, ss_LF o_p2 (vp_updL (os_L o_p2) (Int32.toNatClampNeg (0 : Int32)) (Int32.toInt64 u_1.2.1))) else none) else (if u_1.1 = 2 then some ((1 : Int32), u_1.2.2.1, u_1.2.2.2.1, u_1.2.2.2.2.1, u_1.2.2.2.2.2.1, u_1.2.2.2.2.2.2.1, u_1.2.2.2.2.2.2.2.1, u_1.2.2.2.2.2.2.2.2.1, u_1.2.2.2.2.2.2.2.2.2.1, u_1.2.2.2.2.2.2.2.2.2.2.1, u_1.2.2.2.2.2.2.2.2.2.2.2, o_p2) else none)))
set_option maxHeartbeats 4000000 in
set_option maxRecDepth 100000 in
theorem mm_L_smooth (l : Launch) (hst : l.stackTraces = false) (zz : Nat → Nat → Nat) (D : va_G) (kA : Nat → ClassId) (N : Nat) (g : Nat → Nat → Nat) (q_p2 : Nat → Nat) (o_p0 : os_T) (o_p0_panel : os_T) (o_p0_spare : os_T) (o_p0_history : os_T) (o_p0_history_panels0 : os_T) (o_p0_history_panels1 : os_T) (o_p0_history_panels2 : os_T) (o_p0_history_panels3 : os_T) (o_p0_history_panels4 : os_T) (o_p0_history_panels5 : os_T) (o_p0_history_panels6 : os_T) (o_p2 : os_T) (a1 : Int32) (out : (Int32 × os_T × os_T × os_T × os_T × os_T × os_T × os_T × os_T × os_T × os_T × os_T)) (hf : ff_L_smooth N o_p0 o_p0_panel o_p0_spare o_p0_history o_p0_history_panels0 o_p0_history_panels1 o_p0_history_panels2 o_p0_history_panels3 o_p0_history_panels4 o_p0_history_panels5 o_p0_history_panels6 o_p2 a1 = some out) : mh_C l zz D kA yL_smooth wsL_smooth ({ frames := 7, cells := 1, slots := 6, locals := 148 } : Room) [.ref ((g 0) 0), .int a1, .ref (q_p2 0)] (ce_X12 kA g o_p0 ++ (ce_X5 kA (g 1) o_p0_panel ++ (ce_X5 kA (g 2) o_p0_spare ++ (ce_X3 kA (g 5) (fun k => g (6 + k)) o_p0_history ++ (ce_X5 kA (g 6) o_p0_history_panels0 ++ (ce_X5 kA (g 7) o_p0_history_panels1 ++ (ce_X5 kA (g 8) o_p0_history_panels2 ++ (ce_X5 kA (g 9) o_p0_history_panels3 ++ (ce_X5 kA (g 10) o_p0_history_panels4 ++ (ce_X5 kA (g 11) o_p0_history_panels5 ++ (ce_X5 kA (g 12) o_p0_history_panels6 ++ (ce_XJ kA q_p2 o_p2)))))))))))) (some (.int out.1)) (ce_X12 kA g o_p0 ++ (ce_X5 kA (g 1) out.2.1 ++ (ce_X5 kA (g 2) out.2.2.1 ++ (ce_X3 kA (g 5) (fun k => g (6 + k)) out.2.2.2.1 ++ (ce_X5 kA (g 6) out.2.2.2.2.1 ++ (ce_X5 kA (g 7) out.2.2.2.2.2.1 ++ (ce_X5 kA (g 8) out.2.2.2.2.2.2.1 ++ (ce_X5 kA (g 9) out.2.2.2.2.2.2.2.1 ++ (ce_X5 kA (g 10) out.2.2.2.2.2.2.2.2.1 ++ (ce_X5 kA (g 11) out.2.2.2.2.2.2.2.2.2.1 ++ (ce_X5 kA (g 12) out.2.2.2.2.2.2.2.2.2.2.1 ++ (ce_XJ kA q_p2 out.2.2.2.2.2.2.2.2.2.2.2)))))))))))) := by
  refine mh_of (hh := [(0, 9, 12, 19)]) (cc := cL_smooth) (maxL := 4) (ret := (some .int)) (by decide) rfl (Nat.le_of_ble_eq_true rfl) ?_
  intro p e s m below meth c A B hex hZ hD hP hS ls hl
  obtain ⟨hx, hb, hr, hlk, hml, hown, hts, hK, hA, hnm⟩ := B
  have hown : s.vm.findClass RL = some m.cls := hown
  have hl : lv_has ls 4 [(0, .ref ((g 0) 0)), (1, .int a1), (2, .ref (q_p2 0))] := hl
  unfold ff_L_smooth at hf
  refine lv_aload_n hx hb dL_smooth_0 rfl (lv_at hl 2 rfl) ?_
  refine lv_iconst (v := 0) hx hb dL_smooth_1 (by decide) ?_
  refine lv_aload_n hx hb dL_smooth_2 rfl (lv_at hl 0 rfl) ?_
  refine lv_iload_n hx hb dL_smooth_3 rfl (lv_at hl 1 rfl) ?_
  obtain ⟨u_1, he_2, hf⟩ := os_bd hf
  refine mx_callV ⟨hx, hb, hml, hown, hts⟩ (mm_X12_smooth l hst zz D kA N g o_p0 o_p0_panel o_p0_spare o_p0_history o_p0_history_panels0 o_p0_history_panels1 o_p0_history_panels2 o_p0_history_panels3 o_p0_history_panels4 o_p0_history_panels5 o_p0_history_panels6 a1 u_1 he_2) (cwV 1 hts gL_smooth_X12_smooth rfl rfl rfl (by decide +kernel) ⟨Nat.le_of_ble_eq_true rfl, Nat.le_of_ble_eq_true rfl⟩) (wc := (ce_X12 kA g o_p0 ++ (ce_X5 kA (g 1) o_p0_panel ++ (ce_X5 kA (g 2) o_p0_spare ++ (ce_X3 kA (g 5) (fun k => g (6 + k)) o_p0_history ++ (ce_X5 kA (g 6) o_p0_history_panels0 ++ (ce_X5 kA (g 7) o_p0_history_panels1 ++ (ce_X5 kA (g 8) o_p0_history_panels2 ++ (ce_X5 kA (g 9) o_p0_history_panels3 ++ (ce_X5 kA (g 10) o_p0_history_panels4 ++ (ce_X5 kA (g 11) o_p0_history_panels5 ++ (ce_X5 kA (g 12) o_p0_history_panels6)))))))))))) (ci := 8) (q0 := 0) rfl rfl rfl hl.1 (As := [.int a1]) (rest := [.int (0 : Int32), .ref (q_p2 0)]) rfl (Nat.le_of_ble_eq_true rfl) dL_smooth_4 ⟨Nat.le_of_ble_eq_true rfl, Nat.le_of_ble_eq_true rfl⟩ hK hP hD hS hA hZ [0, 1, 2, 3, 4, 5, 6, 7, 8, 9, 10, 11, 12, 13, 14, 15, 16, 17, 18, 19, 20, 21, 22, 23, 24, 25, 26, 27, 28, 29, 30, 31, 32, 33, 34, 35, 36, 37, 38, 39, 40, 41] [42] [1, 2, 3, 4, 5, 6, 7, 8, 9, 10, 11, 12, 13, 14, 15, 16, 17, 18, 19, 20, 21, 22, 23, 24, 25, 26, 27, 28, 29, 30, 31, 32, 33, 34, 35, 36, 37, 38, 39, 40, 41, 42, 0] rfl (by decide) rfl (by decide) (by decide) rfl (by decide) (wr := (ce_XJ kA q_p2 o_p2)) (w2 := (ce_X12 kA g o_p0 ++ (ce_X5 kA (g 1) u_1.2.2.1 ++ (ce_X5 kA (g 2) u_1.2.2.2.1 ++ (ce_X3 kA (g 5) (fun k => g (6 + k)) u_1.2.2.2.2.1 ++ (ce_X5 kA (g 6) u_1.2.2.2.2.2.1 ++ (ce_X5 kA (g 7) u_1.2.2.2.2.2.2.1 ++ (ce_X5 kA (g 8) u_1.2.2.2.2.2.2.2.1 ++ (ce_X5 kA (g 9) u_1.2.2.2.2.2.2.2.2.1 ++ (ce_X5 kA (g 10) u_1.2.2.2.2.2.2.2.2.2.1 ++ (ce_X5 kA (g 11) u_1.2.2.2.2.2.2.2.2.2.2.1 ++ (ce_X5 kA (g 12) u_1.2.2.2.2.2.2.2.2.2.2.2 ++ (ce_XJ kA q_p2 o_p2))))))))))))) (fun hx9 H locs q9 ce hP hD hS h91 h92 h93 => ?_) (fun hx9 H locs hP hD hS => ?_)
  · rw [if_neg hx9] at hf
    by_cases hy_4 : u_1.1 = 2
    · rw [if_pos hy_4] at hf
      rw [hy_4] at h93
      refine vx_catch (E := mx_n 2) (name := "java/lang/IllegalArgumentException") hown [] (⟨0, 9, 12, 19⟩ : ExceptionTableEntry) [] hex (fun z h => nomatch h) rfl (by decide) (hts (Cond.classLink RL 19 "java/lang/IllegalArgumentException") (List.mem_of_getElem? (i := 1) rfl)) (va_Nw.use rfl (hZ.2.2.1.2.2.2.1 2)) h91 h92 h93 ?_
      have hP : va_P D vwCl (ce_X12 kA g o_p0 ++ (ce_X5 kA (g 1) u_1.2.2.1 ++ (ce_X5 kA (g 2) u_1.2.2.2.1 ++ (ce_X3 kA (g 5) (fun k => g (6 + k)) u_1.2.2.2.2.1 ++ (ce_X5 kA (g 6) u_1.2.2.2.2.2.1 ++ (ce_X5 kA (g 7) u_1.2.2.2.2.2.2.1 ++ (ce_X5 kA (g 8) u_1.2.2.2.2.2.2.2.1 ++ (ce_X5 kA (g 9) u_1.2.2.2.2.2.2.2.2.1 ++ (ce_X5 kA (g 10) u_1.2.2.2.2.2.2.2.2.2.1 ++ (ce_X5 kA (g 11) u_1.2.2.2.2.2.2.2.2.2.2.1 ++ (ce_X5 kA (g 12) u_1.2.2.2.2.2.2.2.2.2.2.2 ++ (ce_XJ kA q_p2 o_p2)))))))))))) H := hP
      refine lv_astore_n (lv' := [(3, .ref q9), (0, .ref ((g 0) 0)), (1, .int a1), (2, .ref (q_p2 0))]) hx hb dL_smooth_12 rfl hl (by decide) rfl (fun ls hl => ?_)
      refine lv_iconst (v := 1) hx hb dL_smooth_13 (by decide) ?_
      rw [← Option.some.inj hf]
      exact W.widen (k := 1) (n := 6) (Nat.le_of_ble_eq_true rfl) (Nat.le_of_ble_eq_true rfl) (mc_reti hx hb hr hlk hP hK hD hS dL_smooth_14)
    rw [if_neg hy_4] at hf
    cases hf
  · rw [if_pos hx9] at hf
    refine W.widen (k := 1) (n := 6) (Nat.le_of_ble_eq_true rfl) (Nat.le_of_ble_eq_true rfl) ?_
    have hP : va_P D vwCl (ce_X12 kA g o_p0 ++ (ce_X5 kA (g 1) u_1.2.2.1 ++ (ce_X5 kA (g 2) u_1.2.2.2.1 ++ (ce_X3 kA (g 5) (fun k => g (6 + k)) u_1.2.2.2.2.1 ++ (ce_X5 kA (g 6) u_1.2.2.2.2.2.1 ++ (ce_X5 kA (g 7) u_1.2.2.2.2.2.2.1 ++ (ce_X5 kA (g 8) u_1.2.2.2.2.2.2.2.1 ++ (ce_X5 kA (g 9) u_1.2.2.2.2.2.2.2.2.1 ++ (ce_X5 kA (g 10) u_1.2.2.2.2.2.2.2.2.2.1 ++ (ce_X5 kA (g 11) u_1.2.2.2.2.2.2.2.2.2.2.1 ++ (ce_X5 kA (g 12) u_1.2.2.2.2.2.2.2.2.2.2.2 ++ (ce_XJ kA q_p2 o_p2)))))))))))) H := hP
    refine lv_i2l hx hb dL_smooth_7 rfl ?_
    obtain ⟨hi_3, hf⟩ := os_if hf
    refine va_last hx hb hK hP hD hS 42 4 rfl rfl hi_3 dL_smooth_8 (fun H locs hP hD hS => ?_)
    have hP : va_P D vwCl (ce_X12 kA g o_p0 ++ (ce_X5 kA (g 1) u_1.2.2.1 ++ (ce_X5 kA (g 2) u_1.2.2.2.1 ++ (ce_X3 kA (g 5) (fun k => g (6 + k)) u_1.2.2.2.2.1 ++ (ce_X5 kA (g 6) u_1.2.2.2.2.2.1 ++ (ce_X5 kA (g 7) u_1.2.2.2.2.2.2.1 ++ (ce_X5 kA (g 8) u_1.2.2.2.2.2.2.2.1 ++ (ce_X5 kA (g 9) u_1.2.2.2.2.2.2.2.2.1 ++ (ce_X5 kA (g 10) u_1.2.2.2.2.2.2.2.2.2.1 ++ (ce_X5 kA (g 11) u_1.2.2.2.2.2.2.2.2.2.2.1 ++ (ce_X5 kA (g 12) u_1.2.2.2.2.2.2.2.2.2.2.2 ++ (ce_XJ kA q_p2 (ss_LF o_p2 (vp_updL (os_L o_p2) (Int32.toNatClampNeg (0 : Int32)) (Int32.toInt64 u_1.2.1))))))))))))))) H := hP
    have hD : va_D A (ce_X12 kA g o_p0 ++ (ce_X5 kA (g 1) u_1.2.2.1 ++ (ce_X5 kA (g 2) u_1.2.2.2.1 ++ (ce_X3 kA (g 5) (fun k => g (6 + k)) u_1.2.2.2.2.1 ++ (ce_X5 kA (g 6) u_1.2.2.2.2.2.1 ++ (ce_X5 kA (g 7) u_1.2.2.2.2.2.2.1 ++ (ce_X5 kA (g 8) u_1.2.2.2.2.2.2.2.1 ++ (ce_X5 kA (g 9) u_1.2.2.2.2.2.2.2.2.1 ++ (ce_X5 kA (g 10) u_1.2.2.2.2.2.2.2.2.2.1 ++ (ce_X5 kA (g 11) u_1.2.2.2.2.2.2.2.2.2.2.1 ++ (ce_X5 kA (g 12) u_1.2.2.2.2.2.2.2.2.2.2.2 ++ (ce_XJ kA q_p2 (ss_LF o_p2 (vp_updL (os_L o_p2) (Int32.toNatClampNeg (0 : Int32)) (Int32.toInt64 u_1.2.1))))))))))))))) := hD
    refine lv_goto (tgt := 15) hx hb dL_smooth_9 (by decide) ?_
    refine lv_iconst (v := 0) hx hb dL_smooth_15 (by decide) ?_
    rw [← Option.some.inj hf]
    exact W.widen (k := 1) (n := 6) (Nat.le_of_ble_eq_true rfl) (Nat.le_of_ble_eq_true rfl) (mc_reti hx hb hr hlk hP hK hD hS dL_smooth_16)
def ff_L_overhang (N : Nat) (o_p0 : os_T) (o_p0_panel : os_T) (o_p3 : os_T) (a1 : Int32) (a2 : Int32) : Option (Int32 × os_T) :=
  ((ff_X12_overhang N o_p0 o_p0_panel a1 a2).bind fun u_1 => (if u_1.1 = 0 then (if os_in (0 : Int32) 1 then some ((0 : Int32), ss_LF o_p3 (vp_updL (os_L o_p3) (Int32.toNatClampNeg (0 : Int32)) (Int32.toInt64 u_1.2))) else none) else (if u_1.1 = 3 then some ((1 : Int32), o_p3) else none)))
set_option maxHeartbeats 4000000 in
set_option maxRecDepth 100000 in
theorem mm_L_overhang (l : Launch) (hst : l.stackTraces = false) (zz : Nat → Nat → Nat) (D : va_G) (kA : Nat → ClassId) (N : Nat) (g : Nat → Nat → Nat) (q_p3 : Nat → Nat) (o_p0 : os_T) (o_p0_panel : os_T) (o_p3 : os_T) (a1 : Int32) (a2 : Int32) (out : (Int32 × os_T)) (hf : ff_L_overhang N o_p0 o_p0_panel o_p3 a1 a2 = some out) : mh_C l zz D kA yL_overhang wsL_overhang ({ frames := 8, cells := 1, slots := 6, locals := 134 } : Room) [.ref ((g 0) 0), .int a1, .int a2, .ref (q_p3 0)] (ce_X12 kA g o_p0 ++ (ce_X5 kA (g 1) o_p0_panel ++ (ce_XJ kA q_p3 o_p3))) (some (.int out.1)) (ce_X12 kA g o_p0 ++ (ce_X5 kA (g 1) o_p0_panel ++ (ce_XJ kA q_p3 out.2))) := by
  refine mh_of (hh := [(0, 10, 13, 35)]) (cc := cL_overhang) (maxL := 5) (ret := (some .int)) (by decide) rfl (Nat.le_of_ble_eq_true rfl) ?_
  intro p e s m below meth c A B hex hZ hD hP hS ls hl
  obtain ⟨hx, hb, hr, hlk, hml, hown, hts, hK, hA, hnm⟩ := B
  have hown : s.vm.findClass RL = some m.cls := hown
  have hl : lv_has ls 5 [(0, .ref ((g 0) 0)), (1, .int a1), (2, .int a2), (3, .ref (q_p3 0))] := hl
  unfold ff_L_overhang at hf
  refine lv_aload_n hx hb dL_overhang_0 rfl (lv_at hl 3 rfl) ?_
  refine lv_iconst (v := 0) hx hb dL_overhang_1 (by decide) ?_
  refine lv_aload_n hx hb dL_overhang_2 rfl (lv_at hl 0 rfl) ?_
  refine lv_iload_n hx hb dL_overhang_3 rfl (lv_at hl 1 rfl) ?_
  refine lv_iload_n hx hb dL_overhang_4 rfl (lv_at hl 2 rfl) ?_
  obtain ⟨u_1, he_2, hf⟩ := os_bd hf
  refine mx_callV ⟨hx, hb, hml, hown, hts⟩ (mm_X12_overhang l hst zz D kA N g o_p0 o_p0_panel a1 a2 u_1 he_2) (cwV 2 hts gL_overhang_X12_overhang rfl rfl rfl (by decide +kernel) ⟨Nat.le_of_ble_eq_true rfl, Nat.le_of_ble_eq_true rfl⟩) (wc := (ce_X12 kA g o_p0 ++ (ce_X5 kA (g 1) o_p0_panel))) (ci := 8) (q0 := 0) rfl rfl rfl hl.1 (As := [.int a1, .int a2]) (rest := [.int (0 : Int32), .ref (q_p3 0)]) rfl (Nat.le_of_ble_eq_true rfl) dL_overhang_5 ⟨Nat.le_of_ble_eq_true rfl, Nat.le_of_ble_eq_true rfl⟩ hK hP hD hS hA hZ [0, 1, 2, 3, 4, 5, 6, 7] [8] [1, 2, 3, 4, 5, 6, 7, 8, 0] rfl (by decide) rfl (by decide) (by decide) rfl (by decide) (wr := (ce_XJ kA q_p3 o_p3)) (w2 := (ce_X12 kA g o_p0 ++ (ce_X5 kA (g 1) o_p0_panel ++ (ce_XJ kA q_p3 o_p3)))) (fun hx9 H locs q9 ce hP hD hS h91 h92 h93 => ?_) (fun hx9 H locs hP hD hS => ?_)
  · rw [if_neg hx9] at hf
    by_cases hy_4 : u_1.1 = 3
    · rw [if_pos hy_4] at hf
      rw [hy_4] at h93
      refine vx_catch (E := mx_n 3) (name := "java/lang/IndexOutOfBoundsException") hown [] (⟨0, 10, 13, 35⟩ : ExceptionTableEntry) [] hex (fun z h => nomatch h) rfl (by decide) (hts (Cond.classLink RL 35 "java/lang/IndexOutOfBoundsException") (List.mem_of_getElem? (i := 1) rfl)) (va_Nw.use rfl (hZ.2.2.1.2.2.2.1 3)) h91 h92 h93 ?_
      have hP : va_P D vwCl (ce_X12 kA g o_p0 ++ (ce_X5 kA (g 1) o_p0_panel ++ (ce_XJ kA q_p3 o_p3))) H := hP
      refine lv_astore (lv' := [(4, .ref q9), (0, .ref ((g 0) 0)), (1, .int a1), (2, .int a2), (3, .ref (q_p3 0))]) hx hb dL_overhang_13 hl (by decide) rfl (fun ls hl => ?_)
      refine lv_iconst (v := 1) hx hb dL_overhang_15 (by decide) ?_
      rw [← Option.some.inj hf]
      exact W.widen (k := 1) (n := 6) (Nat.le_of_ble_eq_true rfl) (Nat.le_of_ble_eq_true rfl) (mc_reti hx hb hr hlk hP hK hD hS dL_overhang_16)
    rw [if_neg hy_4] at hf
    cases hf
  · rw [if_pos hx9] at hf
    refine W.widen (k := 1) (n := 6) (Nat.le_of_ble_eq_true rfl) (Nat.le_of_ble_eq_true rfl) ?_
    have hP : va_P D vwCl (ce_X12 kA g o_p0 ++ (ce_X5 kA (g 1) o_p0_panel ++ (ce_XJ kA q_p3 o_p3))) H := hP
    refine lv_i2l hx hb dL_overhang_8 rfl ?_
    obtain ⟨hi_3, hf⟩ := os_if hf
    refine va_last hx hb hK hP hD hS 8 4 rfl rfl hi_3 dL_overhang_9 (fun H locs hP hD hS => ?_)
    have hP : va_P D vwCl (ce_X12 kA g o_p0 ++ (ce_X5 kA (g 1) o_p0_panel ++ (ce_XJ kA q_p3 (ss_LF o_p3 (vp_updL (os_L o_p3) (Int32.toNatClampNeg (0 : Int32)) (Int32.toInt64 u_1.2)))))) H := hP
    have hD : va_D A (ce_X12 kA g o_p0 ++ (ce_X5 kA (g 1) o_p0_panel ++ (ce_XJ kA q_p3 (ss_LF o_p3 (vp_updL (os_L o_p3) (Int32.toNatClampNeg (0 : Int32)) (Int32.toInt64 u_1.2)))))) := hD
    refine lv_goto (tgt := 17) hx hb dL_overhang_10 (by decide) ?_
    refine lv_iconst (v := 0) hx hb dL_overhang_17 (by decide) ?_
    rw [← Option.some.inj hf]
    exact W.widen (k := 1) (n := 6) (Nat.le_of_ble_eq_true rfl) (Nat.le_of_ble_eq_true rfl) (mc_reti hx hb hr hlk hP hK hD hS dL_overhang_18)
def ff_L_supportOf (N : Nat) (o_p0 : os_T) (o_p0_panel : os_T) (o_p4 : os_T) (a1 : Int32) (a2 : Int32) (a3 : Int32) : Option (Int32 × os_T) :=
  ((ff_X12_supportOf N o_p0 o_p0_panel a1 a2 a3).bind fun u_1 => (if u_1.1 = 0 then (if os_in (0 : Int32) 1 then some ((0 : Int32), ss_LF o_p4 (vp_updL (os_L o_p4) (Int32.toNatClampNeg (0 : Int32)) (Int32.toInt64 u_1.2))) else none) else (if u_1.1 = 3 then some ((1 : Int32), o_p4) else (if u_1.1 = 2 then some ((2 : Int32), o_p4) else none))))
set_option maxHeartbeats 4000000 in
set_option maxRecDepth 100000 in
theorem mm_L_supportOf (l : Launch) (hst : l.stackTraces = false) (zz : Nat → Nat → Nat) (D : va_G) (kA : Nat → ClassId) (N : Nat) (g : Nat → Nat → Nat) (q_p4 : Nat → Nat) (o_p0 : os_T) (o_p0_panel : os_T) (o_p4 : os_T) (a1 : Int32) (a2 : Int32) (a3 : Int32) (out : (Int32 × os_T)) (hf : ff_L_supportOf N o_p0 o_p0_panel o_p4 a1 a2 a3 = some out) : mh_C l zz D kA yL_supportOf wsL_supportOf ({ frames := 8, cells := 2, slots := 12, locals := 135 } : Room) [.ref ((g 0) 0), .int a1, .int a2, .int a3, .ref (q_p4 0)] (ce_X12 kA g o_p0 ++ (ce_X5 kA (g 1) o_p0_panel ++ (ce_XJ kA q_p4 o_p4))) (some (.int out.1)) (ce_X12 kA g o_p0 ++ (ce_X5 kA (g 1) o_p0_panel ++ (ce_XJ kA q_p4 out.2))) := by
  refine mh_of (hh := [(0, 12, 15, 35), (0, 12, 19, 19)]) (cc := cL_supportOf) (maxL := 6) (ret := (some .int)) (by decide) rfl (Nat.le_of_ble_eq_true rfl) ?_
  intro p e s m below meth c A B hex hZ hD hP hS ls hl
  obtain ⟨hx, hb, hr, hlk, hml, hown, hts, hK, hA, hnm⟩ := B
  have hown : s.vm.findClass RL = some m.cls := hown
  have hl : lv_has ls 6 [(0, .ref ((g 0) 0)), (1, .int a1), (2, .int a2), (3, .int a3), (4, .ref (q_p4 0))] := hl
  unfold ff_L_supportOf at hf
  refine lv_aload hx hb dL_supportOf_0 (lv_at hl 4 rfl) ?_
  refine lv_iconst (v := 0) hx hb dL_supportOf_2 (by decide) ?_
  refine lv_aload_n hx hb dL_supportOf_3 rfl (lv_at hl 0 rfl) ?_
  refine lv_iload_n hx hb dL_supportOf_4 rfl (lv_at hl 1 rfl) ?_
  refine lv_iload_n hx hb dL_supportOf_5 rfl (lv_at hl 2 rfl) ?_
  refine lv_iload_n hx hb dL_supportOf_6 rfl (lv_at hl 3 rfl) ?_
  obtain ⟨u_1, he_2, hf⟩ := os_bd hf
  refine mx_callV ⟨hx, hb, hml, hown, hts⟩ (mm_X12_supportOf l hst zz D kA N g o_p0 o_p0_panel a1 a2 a3 u_1 he_2) (cwV 3 hts gL_supportOf_X12_supportOf rfl rfl rfl (by decide +kernel) ⟨Nat.le_of_ble_eq_true rfl, Nat.le_of_ble_eq_true rfl⟩) (wc := (ce_X12 kA g o_p0 ++ (ce_X5 kA (g 1) o_p0_panel))) (ci := 8) (q0 := 0) rfl rfl rfl hl.1 (As := [.int a1, .int a2, .int a3]) (rest := [.int (0 : Int32), .ref (q_p4 0)]) rfl (Nat.le_of_ble_eq_true rfl) dL_supportOf_7 ⟨Nat.le_of_ble_eq_true rfl, Nat.le_of_ble_eq_true rfl⟩ hK hP hD hS hA hZ [0, 1, 2, 3, 4, 5, 6, 7] [8] [1, 2, 3, 4, 5, 6, 7, 8, 0] rfl (by decide) rfl (by decide) (by decide) rfl (by decide) (wr := (ce_XJ kA q_p4 o_p4)) (w2 := (ce_X12 kA g o_p0 ++ (ce_X5 kA (g 1) o_p0_panel ++ (ce_XJ kA q_p4 o_p4)))) (fun hx9 H locs q9 ce hP hD hS h91 h92 h93 => ?_) (fun hx9 H locs hP hD hS => ?_)
  · rw [if_neg hx9] at hf
    by_cases hy_4 : u_1.1 = 3
    · rw [if_pos hy_4] at hf
      rw [hy_4] at h93
      refine vx_catch (E := mx_n 3) (name := "java/lang/IndexOutOfBoundsException") hown [] (⟨0, 12, 15, 35⟩ : ExceptionTableEntry) [(⟨0, 12, 19, 19⟩ : ExceptionTableEntry)] hex (fun z h => nomatch h) rfl (by decide) (hts (Cond.classLink RL 35 "java/lang/IndexOutOfBoundsException") (List.mem_of_getElem? (i := 1) rfl)) (va_Nw.use rfl (hZ.2.2.1.2.2.2.1 3)) h91 h92 h93 ?_
      have hP : va_P D vwCl (ce_X12 kA g o_p0 ++ (ce_X5 kA (g 1) o_p0_panel ++ (ce_XJ kA q_p4 o_p4))) H := hP
      refine lv_astore (lv' := [(5, .ref q9), (0, .ref ((g 0) 0)), (1, .int a1), (2, .int a2), (3, .int a3), (4, .ref (q_p4 0))]) hx hb dL_supportOf_15 hl (by decide) rfl (fun ls hl => ?_)
      refine lv_iconst (v := 1) hx hb dL_supportOf_17 (by decide) ?_
      rw [← Option.some.inj hf]
      exact W.widen (k := 2) (n := 12) (Nat.le_of_ble_eq_true rfl) (Nat.le_of_ble_eq_true rfl) (mc_reti hx hb hr hlk hP hK hD hS dL_supportOf_18)
    rw [if_neg hy_4] at hf
    by_cases hy_5 : u_1.1 = 2
    · rw [if_pos hy_5] at hf
      rw [hy_5] at h93
      refine vx_catch (E := mx_n 2) (name := "java/lang/IllegalArgumentException") hown [(⟨0, 12, 15, 35⟩ : ExceptionTableEntry)] (⟨0, 12, 19, 19⟩ : ExceptionTableEntry) [] hex (fun z h => by rcases List.mem_singleton.mp h with rfl; exact Or.inr ⟨by decide, "java/lang/IndexOutOfBoundsException", hts (Cond.classLink RL 35 "java/lang/IndexOutOfBoundsException") (List.mem_of_getElem? (i := 1) rfl), hZ.2.2.1.2.2.2.2 2 3 (by decide)⟩) rfl (by decide) (hts (Cond.classLink RL 19 "java/lang/IllegalArgumentException") (List.mem_of_getElem? (i := 2) rfl)) (va_Nw.use rfl (hZ.2.2.1.2.2.2.1 2)) h91 h92 h93 ?_
      have hP : va_P D vwCl (ce_X12 kA g o_p0 ++ (ce_X5 kA (g 1) o_p0_panel ++ (ce_XJ kA q_p4 o_p4))) H := hP
      refine lv_astore (lv' := [(5, .ref q9), (0, .ref ((g 0) 0)), (1, .int a1), (2, .int a2), (3, .int a3), (4, .ref (q_p4 0))]) hx hb dL_supportOf_19 hl (by decide) rfl (fun ls hl => ?_)
      refine lv_iconst (v := 2) hx hb dL_supportOf_21 (by decide) ?_
      rw [← Option.some.inj hf]
      exact W.widen (k := 2) (n := 12) (Nat.le_of_ble_eq_true rfl) (Nat.le_of_ble_eq_true rfl) (mc_reti hx hb hr hlk hP hK hD hS dL_supportOf_22)
    rw [if_neg hy_5] at hf
    cases hf
  · rw [if_pos hx9] at hf
    refine W.widen (k := 2) (n := 12) (Nat.le_of_ble_eq_true rfl) (Nat.le_of_ble_eq_true rfl) ?_
    have hP : va_P D vwCl (ce_X12 kA g o_p0 ++ (ce_X5 kA (g 1) o_p0_panel ++ (ce_XJ kA q_p4 o_p4))) H := hP
    refine lv_i2l hx hb dL_supportOf_10 rfl ?_
    obtain ⟨hi_3, hf⟩ := os_if hf
    refine va_last hx hb hK hP hD hS 8 4 rfl rfl hi_3 dL_supportOf_11 (fun H locs hP hD hS => ?_)
    have hP : va_P D vwCl (ce_X12 kA g o_p0 ++ (ce_X5 kA (g 1) o_p0_panel ++ (ce_XJ kA q_p4 (ss_LF o_p4 (vp_updL (os_L o_p4) (Int32.toNatClampNeg (0 : Int32)) (Int32.toInt64 u_1.2)))))) H := hP
    have hD : va_D A (ce_X12 kA g o_p0 ++ (ce_X5 kA (g 1) o_p0_panel ++ (ce_XJ kA q_p4 (ss_LF o_p4 (vp_updL (os_L o_p4) (Int32.toNatClampNeg (0 : Int32)) (Int32.toInt64 u_1.2)))))) := hD
    refine lv_goto (tgt := 23) hx hb dL_supportOf_12 (by decide) ?_
    refine lv_iconst (v := 0) hx hb dL_supportOf_23 (by decide) ?_
    rw [← Option.some.inj hf]
    exact W.widen (k := 2) (n := 12) (Nat.le_of_ble_eq_true rfl) (Nat.le_of_ble_eq_true rfl) (mc_reti hx hb hr hlk hP hK hD hS dL_supportOf_24)
def ff_L_layerCells (N : Nat) (o_p0 : os_T) (o_p0_panel : os_T) (o_p0_layers : os_T) (o_p2 : os_T) (a1 : Int32) : Option (Int32 × os_T) :=
  ((ff_X12_layerCells N o_p0 o_p0_panel o_p0_layers a1).bind fun u_1 => (if u_1.1 = 0 then (if os_in (0 : Int32) 1 then some ((0 : Int32), ss_LF o_p2 (vp_updL (os_L o_p2) (Int32.toNatClampNeg (0 : Int32)) (Int32.toInt64 u_1.2))) else none) else (if u_1.1 = 2 then some ((1 : Int32), o_p2) else none)))
set_option maxHeartbeats 4000000 in
set_option maxRecDepth 100000 in
theorem mm_L_layerCells (l : Launch) (hst : l.stackTraces = false) (zz : Nat → Nat → Nat) (D : va_G) (kA : Nat → ClassId) (N : Nat) (g : Nat → Nat → Nat) (q_p2 : Nat → Nat) (o_p0 : os_T) (o_p0_panel : os_T) (o_p0_layers : os_T) (o_p2 : os_T) (a1 : Int32) (out : (Int32 × os_T)) (hf : ff_L_layerCells N o_p0 o_p0_panel o_p0_layers o_p2 a1 = some out) : mh_C l zz D kA yL_layerCells wsL_layerCells ({ frames := 8, cells := 1, slots := 6, locals := 132 } : Room) [.ref ((g 0) 0), .int a1, .ref (q_p2 0)] (ce_X12 kA g o_p0 ++ (ce_X5 kA (g 1) o_p0_panel ++ (ce_X4 kA (g 14) (g 1) o_p0_layers ++ (ce_XJ kA q_p2 o_p2)))) (some (.int out.1)) (ce_X12 kA g o_p0 ++ (ce_X5 kA (g 1) o_p0_panel ++ (ce_X4 kA (g 14) (g 1) o_p0_layers ++ (ce_XJ kA q_p2 out.2)))) := by
  refine mh_of (hh := [(0, 9, 12, 19)]) (cc := cL_layerCells) (maxL := 4) (ret := (some .int)) (by decide) rfl (Nat.le_of_ble_eq_true rfl) ?_
  intro p e s m below meth c A B hex hZ hD hP hS ls hl
  obtain ⟨hx, hb, hr, hlk, hml, hown, hts, hK, hA, hnm⟩ := B
  have hown : s.vm.findClass RL = some m.cls := hown
  have hl : lv_has ls 4 [(0, .ref ((g 0) 0)), (1, .int a1), (2, .ref (q_p2 0))] := hl
  unfold ff_L_layerCells at hf
  refine lv_aload_n hx hb dL_layerCells_0 rfl (lv_at hl 2 rfl) ?_
  refine lv_iconst (v := 0) hx hb dL_layerCells_1 (by decide) ?_
  refine lv_aload_n hx hb dL_layerCells_2 rfl (lv_at hl 0 rfl) ?_
  refine lv_iload_n hx hb dL_layerCells_3 rfl (lv_at hl 1 rfl) ?_
  obtain ⟨u_1, he_2, hf⟩ := os_bd hf
  refine mx_callV ⟨hx, hb, hml, hown, hts⟩ (mm_X12_layerCells l hst zz D kA N g o_p0 o_p0_panel o_p0_layers a1 u_1 he_2) (cwV 1 hts gL_layerCells_X12_layerCells rfl rfl rfl (by decide +kernel) ⟨Nat.le_of_ble_eq_true rfl, Nat.le_of_ble_eq_true rfl⟩) (wc := (ce_X12 kA g o_p0 ++ (ce_X5 kA (g 1) o_p0_panel ++ (ce_X4 kA (g 14) (g 1) o_p0_layers)))) (ci := 8) (q0 := 0) rfl rfl rfl hl.1 (As := [.int a1]) (rest := [.int (0 : Int32), .ref (q_p2 0)]) rfl (Nat.le_of_ble_eq_true rfl) dL_layerCells_4 ⟨Nat.le_of_ble_eq_true rfl, Nat.le_of_ble_eq_true rfl⟩ hK hP hD hS hA hZ [0, 1, 2, 3, 4, 5, 6, 7, 8, 9, 10] [11] [1, 2, 3, 4, 5, 6, 7, 8, 9, 10, 11, 0] rfl (by decide) rfl (by decide) (by decide) rfl (by decide) (wr := (ce_XJ kA q_p2 o_p2)) (w2 := (ce_X12 kA g o_p0 ++ (ce_X5 kA (g 1) o_p0_panel ++ (ce_X4 kA (g 14) (g 1) o_p0_layers ++ (ce_XJ kA q_p2 o_p2))))) (fun hx9 H locs q9 ce hP hD hS h91 h92 h93 => ?_) (fun hx9 H locs hP hD hS => ?_)
  · rw [if_neg hx9] at hf
    by_cases hy_4 : u_1.1 = 2
    · rw [if_pos hy_4] at hf
      rw [hy_4] at h93
      refine vx_catch (E := mx_n 2) (name := "java/lang/IllegalArgumentException") hown [] (⟨0, 9, 12, 19⟩ : ExceptionTableEntry) [] hex (fun z h => nomatch h) rfl (by decide) (hts (Cond.classLink RL 19 "java/lang/IllegalArgumentException") (List.mem_of_getElem? (i := 1) rfl)) (va_Nw.use rfl (hZ.2.2.1.2.2.2.1 2)) h91 h92 h93 ?_
      have hP : va_P D vwCl (ce_X12 kA g o_p0 ++ (ce_X5 kA (g 1) o_p0_panel ++ (ce_X4 kA (g 14) (g 1) o_p0_layers ++ (ce_XJ kA q_p2 o_p2)))) H := hP
      refine lv_astore_n (lv' := [(3, .ref q9), (0, .ref ((g 0) 0)), (1, .int a1), (2, .ref (q_p2 0))]) hx hb dL_layerCells_12 rfl hl (by decide) rfl (fun ls hl => ?_)
      refine lv_iconst (v := 1) hx hb dL_layerCells_13 (by decide) ?_
      rw [← Option.some.inj hf]
      exact W.widen (k := 1) (n := 6) (Nat.le_of_ble_eq_true rfl) (Nat.le_of_ble_eq_true rfl) (mc_reti hx hb hr hlk hP hK hD hS dL_layerCells_14)
    rw [if_neg hy_4] at hf
    cases hf
  · rw [if_pos hx9] at hf
    refine W.widen (k := 1) (n := 6) (Nat.le_of_ble_eq_true rfl) (Nat.le_of_ble_eq_true rfl) ?_
    have hP : va_P D vwCl (ce_X12 kA g o_p0 ++ (ce_X5 kA (g 1) o_p0_panel ++ (ce_X4 kA (g 14) (g 1) o_p0_layers ++ (ce_XJ kA q_p2 o_p2)))) H := hP
    refine lv_i2l hx hb dL_layerCells_7 rfl ?_
    obtain ⟨hi_3, hf⟩ := os_if hf
    refine va_last hx hb hK hP hD hS 11 4 rfl rfl hi_3 dL_layerCells_8 (fun H locs hP hD hS => ?_)
    have hP : va_P D vwCl (ce_X12 kA g o_p0 ++ (ce_X5 kA (g 1) o_p0_panel ++ (ce_X4 kA (g 14) (g 1) o_p0_layers ++ (ce_XJ kA q_p2 (ss_LF o_p2 (vp_updL (os_L o_p2) (Int32.toNatClampNeg (0 : Int32)) (Int32.toInt64 u_1.2))))))) H := hP
    have hD : va_D A (ce_X12 kA g o_p0 ++ (ce_X5 kA (g 1) o_p0_panel ++ (ce_X4 kA (g 14) (g 1) o_p0_layers ++ (ce_XJ kA q_p2 (ss_LF o_p2 (vp_updL (os_L o_p2) (Int32.toNatClampNeg (0 : Int32)) (Int32.toInt64 u_1.2))))))) := hD
    refine lv_goto (tgt := 15) hx hb dL_layerCells_9 (by decide) ?_
    refine lv_iconst (v := 0) hx hb dL_layerCells_15 (by decide) ?_
    rw [← Option.some.inj hf]
    exact W.widen (k := 1) (n := 6) (Nat.le_of_ble_eq_true rfl) (Nat.le_of_ble_eq_true rfl) (mc_reti hx hb hr hlk hP hK hD hS dL_layerCells_16)
def ff_L_runs (N : Nat) (o_p0 : os_T) (o_p0_panel : os_T) (o_p0_layers : os_T) (o_p2 : os_T) (a1 : Int32) : Option (Int32 × os_T) :=
  ((ff_X12_runs N o_p0 o_p0_panel o_p0_layers a1).bind fun u_1 => (if u_1.1 = 0 then (if os_in (0 : Int32) 1 then some ((0 : Int32), ss_LF o_p2 (vp_updL (os_L o_p2) (Int32.toNatClampNeg (0 : Int32)) (Int32.toInt64 u_1.2))) else none) else (if u_1.1 = 2 then some ((1 : Int32), o_p2) else none)))
set_option maxHeartbeats 4000000 in
set_option maxRecDepth 100000 in
theorem mm_L_runs (l : Launch) (hst : l.stackTraces = false) (zz : Nat → Nat → Nat) (D : va_G) (kA : Nat → ClassId) (N : Nat) (g : Nat → Nat → Nat) (q_p2 : Nat → Nat) (o_p0 : os_T) (o_p0_panel : os_T) (o_p0_layers : os_T) (o_p2 : os_T) (a1 : Int32) (out : (Int32 × os_T)) (hf : ff_L_runs N o_p0 o_p0_panel o_p0_layers o_p2 a1 = some out) : mh_C l zz D kA yL_runs wsL_runs ({ frames := 8, cells := 1, slots := 6, locals := 132 } : Room) [.ref ((g 0) 0), .int a1, .ref (q_p2 0)] (ce_X12 kA g o_p0 ++ (ce_X5 kA (g 1) o_p0_panel ++ (ce_X4 kA (g 14) (g 1) o_p0_layers ++ (ce_XJ kA q_p2 o_p2)))) (some (.int out.1)) (ce_X12 kA g o_p0 ++ (ce_X5 kA (g 1) o_p0_panel ++ (ce_X4 kA (g 14) (g 1) o_p0_layers ++ (ce_XJ kA q_p2 out.2)))) := by
  refine mh_of (hh := [(0, 9, 12, 19)]) (cc := cL_runs) (maxL := 4) (ret := (some .int)) (by decide) rfl (Nat.le_of_ble_eq_true rfl) ?_
  intro p e s m below meth c A B hex hZ hD hP hS ls hl
  obtain ⟨hx, hb, hr, hlk, hml, hown, hts, hK, hA, hnm⟩ := B
  have hown : s.vm.findClass RL = some m.cls := hown
  have hl : lv_has ls 4 [(0, .ref ((g 0) 0)), (1, .int a1), (2, .ref (q_p2 0))] := hl
  unfold ff_L_runs at hf
  refine lv_aload_n hx hb dL_runs_0 rfl (lv_at hl 2 rfl) ?_
  refine lv_iconst (v := 0) hx hb dL_runs_1 (by decide) ?_
  refine lv_aload_n hx hb dL_runs_2 rfl (lv_at hl 0 rfl) ?_
  refine lv_iload_n hx hb dL_runs_3 rfl (lv_at hl 1 rfl) ?_
  obtain ⟨u_1, he_2, hf⟩ := os_bd hf
  refine mx_callV ⟨hx, hb, hml, hown, hts⟩ (mm_X12_runs l hst zz D kA N g o_p0 o_p0_panel o_p0_layers a1 u_1 he_2) (cwV 1 hts gL_runs_X12_runs rfl rfl rfl (by decide +kernel) ⟨Nat.le_of_ble_eq_true rfl, Nat.le_of_ble_eq_true rfl⟩) (wc := (ce_X12 kA g o_p0 ++ (ce_X5 kA (g 1) o_p0_panel ++ (ce_X4 kA (g 14) (g 1) o_p0_layers)))) (ci := 8) (q0 := 0) rfl rfl rfl hl.1 (As := [.int a1]) (rest := [.int (0 : Int32), .ref (q_p2 0)]) rfl (Nat.le_of_ble_eq_true rfl) dL_runs_4 ⟨Nat.le_of_ble_eq_true rfl, Nat.le_of_ble_eq_true rfl⟩ hK hP hD hS hA hZ [0, 1, 2, 3, 4, 5, 6, 7, 8, 9, 10] [11] [1, 2, 3, 4, 5, 6, 7, 8, 9, 10, 11, 0] rfl (by decide) rfl (by decide) (by decide) rfl (by decide) (wr := (ce_XJ kA q_p2 o_p2)) (w2 := (ce_X12 kA g o_p0 ++ (ce_X5 kA (g 1) o_p0_panel ++ (ce_X4 kA (g 14) (g 1) o_p0_layers ++ (ce_XJ kA q_p2 o_p2))))) (fun hx9 H locs q9 ce hP hD hS h91 h92 h93 => ?_) (fun hx9 H locs hP hD hS => ?_)
  · rw [if_neg hx9] at hf
    by_cases hy_4 : u_1.1 = 2
    · rw [if_pos hy_4] at hf
      rw [hy_4] at h93
      refine vx_catch (E := mx_n 2) (name := "java/lang/IllegalArgumentException") hown [] (⟨0, 9, 12, 19⟩ : ExceptionTableEntry) [] hex (fun z h => nomatch h) rfl (by decide) (hts (Cond.classLink RL 19 "java/lang/IllegalArgumentException") (List.mem_of_getElem? (i := 1) rfl)) (va_Nw.use rfl (hZ.2.2.1.2.2.2.1 2)) h91 h92 h93 ?_
      have hP : va_P D vwCl (ce_X12 kA g o_p0 ++ (ce_X5 kA (g 1) o_p0_panel ++ (ce_X4 kA (g 14) (g 1) o_p0_layers ++ (ce_XJ kA q_p2 o_p2)))) H := hP
      refine lv_astore_n (lv' := [(3, .ref q9), (0, .ref ((g 0) 0)), (1, .int a1), (2, .ref (q_p2 0))]) hx hb dL_runs_12 rfl hl (by decide) rfl (fun ls hl => ?_)
      refine lv_iconst (v := 1) hx hb dL_runs_13 (by decide) ?_
      rw [← Option.some.inj hf]
      exact W.widen (k := 1) (n := 6) (Nat.le_of_ble_eq_true rfl) (Nat.le_of_ble_eq_true rfl) (mc_reti hx hb hr hlk hP hK hD hS dL_runs_14)
    rw [if_neg hy_4] at hf
    cases hf
  · rw [if_pos hx9] at hf
    refine W.widen (k := 1) (n := 6) (Nat.le_of_ble_eq_true rfl) (Nat.le_of_ble_eq_true rfl) ?_
    have hP : va_P D vwCl (ce_X12 kA g o_p0 ++ (ce_X5 kA (g 1) o_p0_panel ++ (ce_X4 kA (g 14) (g 1) o_p0_layers ++ (ce_XJ kA q_p2 o_p2)))) H := hP
    refine lv_i2l hx hb dL_runs_7 rfl ?_
    obtain ⟨hi_3, hf⟩ := os_if hf
    refine va_last hx hb hK hP hD hS 11 4 rfl rfl hi_3 dL_runs_8 (fun H locs hP hD hS => ?_)
    have hP : va_P D vwCl (ce_X12 kA g o_p0 ++ (ce_X5 kA (g 1) o_p0_panel ++ (ce_X4 kA (g 14) (g 1) o_p0_layers ++ (ce_XJ kA q_p2 (ss_LF o_p2 (vp_updL (os_L o_p2) (Int32.toNatClampNeg (0 : Int32)) (Int32.toInt64 u_1.2))))))) H := hP
    have hD : va_D A (ce_X12 kA g o_p0 ++ (ce_X5 kA (g 1) o_p0_panel ++ (ce_X4 kA (g 14) (g 1) o_p0_layers ++ (ce_XJ kA q_p2 (ss_LF o_p2 (vp_updL (os_L o_p2) (Int32.toNatClampNeg (0 : Int32)) (Int32.toInt64 u_1.2))))))) := hD
    refine lv_goto (tgt := 15) hx hb dL_runs_9 (by decide) ?_
    refine lv_iconst (v := 0) hx hb dL_runs_15 (by decide) ?_
    rw [← Option.some.inj hf]
    exact W.widen (k := 1) (n := 6) (Nat.le_of_ble_eq_true rfl) (Nat.le_of_ble_eq_true rfl) (mc_reti hx hb hr hlk hP hK hD hS dL_runs_16)
def ff_L_rectangles (N : Nat) (o_p0 : os_T) (o_p0_panel : os_T) (o_p0_layers : os_T) (o_p2 : os_T) (a1 : Int32) : Option (Int32 × os_T) :=
  ((ff_X12_rectangles N o_p0 o_p0_panel o_p0_layers a1).bind fun u_1 => (if u_1.1 = 0 then (if os_in (0 : Int32) 1 then some ((0 : Int32), ss_LF o_p2 (vp_updL (os_L o_p2) (Int32.toNatClampNeg (0 : Int32)) (Int32.toInt64 u_1.2))) else none) else (if u_1.1 = 2 then some ((1 : Int32), o_p2) else none)))
set_option maxHeartbeats 4000000 in
set_option maxRecDepth 100000 in
theorem mm_L_rectangles (l : Launch) (hst : l.stackTraces = false) (zz : Nat → Nat → Nat) (D : va_G) (kA : Nat → ClassId) (N : Nat) (g : Nat → Nat → Nat) (q_p2 : Nat → Nat) (o_p0 : os_T) (o_p0_panel : os_T) (o_p0_layers : os_T) (o_p2 : os_T) (a1 : Int32) (out : (Int32 × os_T)) (hf : ff_L_rectangles N o_p0 o_p0_panel o_p0_layers o_p2 a1 = some out) : mh_C l zz D kA yL_rectangles wsL_rectangles ({ frames := 8, cells := 1, slots := 6, locals := 164 } : Room) [.ref ((g 0) 0), .int a1, .ref (q_p2 0)] (ce_X12 kA g o_p0 ++ (ce_X5 kA (g 1) o_p0_panel ++ (ce_X4 kA (g 14) (g 1) o_p0_layers ++ (ce_XJ kA q_p2 o_p2)))) (some (.int out.1)) (ce_X12 kA g o_p0 ++ (ce_X5 kA (g 1) o_p0_panel ++ (ce_X4 kA (g 14) (g 1) o_p0_layers ++ (ce_XJ kA q_p2 out.2)))) := by
  refine mh_of (hh := [(0, 9, 12, 19)]) (cc := cL_rectangles) (maxL := 4) (ret := (some .int)) (by decide) rfl (Nat.le_of_ble_eq_true rfl) ?_
  intro p e s m below meth c A B hex hZ hD hP hS ls hl
  obtain ⟨hx, hb, hr, hlk, hml, hown, hts, hK, hA, hnm⟩ := B
  have hown : s.vm.findClass RL = some m.cls := hown
  have hl : lv_has ls 4 [(0, .ref ((g 0) 0)), (1, .int a1), (2, .ref (q_p2 0))] := hl
  unfold ff_L_rectangles at hf
  refine lv_aload_n hx hb dL_rectangles_0 rfl (lv_at hl 2 rfl) ?_
  refine lv_iconst (v := 0) hx hb dL_rectangles_1 (by decide) ?_
  refine lv_aload_n hx hb dL_rectangles_2 rfl (lv_at hl 0 rfl) ?_
  refine lv_iload_n hx hb dL_rectangles_3 rfl (lv_at hl 1 rfl) ?_
  obtain ⟨u_1, he_2, hf⟩ := os_bd hf
  refine mx_callV ⟨hx, hb, hml, hown, hts⟩ (mm_X12_rectangles l hst zz D kA N g o_p0 o_p0_panel o_p0_layers a1 u_1 he_2) (cwV 1 hts gL_rectangles_X12_rectangles rfl rfl rfl (by decide +kernel) ⟨Nat.le_of_ble_eq_true rfl, Nat.le_of_ble_eq_true rfl⟩) (wc := (ce_X12 kA g o_p0 ++ (ce_X5 kA (g 1) o_p0_panel ++ (ce_X4 kA (g 14) (g 1) o_p0_layers)))) (ci := 8) (q0 := 0) rfl rfl rfl hl.1 (As := [.int a1]) (rest := [.int (0 : Int32), .ref (q_p2 0)]) rfl (Nat.le_of_ble_eq_true rfl) dL_rectangles_4 ⟨Nat.le_of_ble_eq_true rfl, Nat.le_of_ble_eq_true rfl⟩ hK hP hD hS hA hZ [0, 1, 2, 3, 4, 5, 6, 7, 8, 9, 10] [11] [1, 2, 3, 4, 5, 6, 7, 8, 9, 10, 11, 0] rfl (by decide) rfl (by decide) (by decide) rfl (by decide) (wr := (ce_XJ kA q_p2 o_p2)) (w2 := (ce_X12 kA g o_p0 ++ (ce_X5 kA (g 1) o_p0_panel ++ (ce_X4 kA (g 14) (g 1) o_p0_layers ++ (ce_XJ kA q_p2 o_p2))))) (fun hx9 H locs q9 ce hP hD hS h91 h92 h93 => ?_) (fun hx9 H locs hP hD hS => ?_)
  · rw [if_neg hx9] at hf
    by_cases hy_4 : u_1.1 = 2
    · rw [if_pos hy_4] at hf
      rw [hy_4] at h93
      refine vx_catch (E := mx_n 2) (name := "java/lang/IllegalArgumentException") hown [] (⟨0, 9, 12, 19⟩ : ExceptionTableEntry) [] hex (fun z h => nomatch h) rfl (by decide) (hts (Cond.classLink RL 19 "java/lang/IllegalArgumentException") (List.mem_of_getElem? (i := 1) rfl)) (va_Nw.use rfl (hZ.2.2.1.2.2.2.1 2)) h91 h92 h93 ?_
      have hP : va_P D vwCl (ce_X12 kA g o_p0 ++ (ce_X5 kA (g 1) o_p0_panel ++ (ce_X4 kA (g 14) (g 1) o_p0_layers ++ (ce_XJ kA q_p2 o_p2)))) H := hP
      refine lv_astore_n (lv' := [(3, .ref q9), (0, .ref ((g 0) 0)), (1, .int a1), (2, .ref (q_p2 0))]) hx hb dL_rectangles_12 rfl hl (by decide) rfl (fun ls hl => ?_)
      refine lv_iconst (v := 1) hx hb dL_rectangles_13 (by decide) ?_
      rw [← Option.some.inj hf]
      exact W.widen (k := 1) (n := 6) (Nat.le_of_ble_eq_true rfl) (Nat.le_of_ble_eq_true rfl) (mc_reti hx hb hr hlk hP hK hD hS dL_rectangles_14)
    rw [if_neg hy_4] at hf
    cases hf
  · rw [if_pos hx9] at hf
    refine W.widen (k := 1) (n := 6) (Nat.le_of_ble_eq_true rfl) (Nat.le_of_ble_eq_true rfl) ?_
    have hP : va_P D vwCl (ce_X12 kA g o_p0 ++ (ce_X5 kA (g 1) o_p0_panel ++ (ce_X4 kA (g 14) (g 1) o_p0_layers ++ (ce_XJ kA q_p2 o_p2)))) H := hP
    refine lv_i2l hx hb dL_rectangles_7 rfl ?_
    obtain ⟨hi_3, hf⟩ := os_if hf
    refine va_last hx hb hK hP hD hS 11 4 rfl rfl hi_3 dL_rectangles_8 (fun H locs hP hD hS => ?_)
    have hP : va_P D vwCl (ce_X12 kA g o_p0 ++ (ce_X5 kA (g 1) o_p0_panel ++ (ce_X4 kA (g 14) (g 1) o_p0_layers ++ (ce_XJ kA q_p2 (ss_LF o_p2 (vp_updL (os_L o_p2) (Int32.toNatClampNeg (0 : Int32)) (Int32.toInt64 u_1.2))))))) H := hP
    have hD : va_D A (ce_X12 kA g o_p0 ++ (ce_X5 kA (g 1) o_p0_panel ++ (ce_X4 kA (g 14) (g 1) o_p0_layers ++ (ce_XJ kA q_p2 (ss_LF o_p2 (vp_updL (os_L o_p2) (Int32.toNatClampNeg (0 : Int32)) (Int32.toInt64 u_1.2))))))) := hD
    refine lv_goto (tgt := 15) hx hb dL_rectangles_9 (by decide) ?_
    refine lv_iconst (v := 0) hx hb dL_rectangles_15 (by decide) ?_
    rw [← Option.some.inj hf]
    exact W.widen (k := 1) (n := 6) (Nat.le_of_ble_eq_true rfl) (Nat.le_of_ble_eq_true rfl) (mc_reti hx hb hr hlk hP hK hD hS dL_rectangles_16)
def ff_L_rectangle (N : Nat) (o_p0 : os_T) (o_p0_panel : os_T) (o_p0_layers : os_T) (o_p4 : os_T) (a1 : Int32) (a2 : Int32) (a3 : Int32) : Option (Int32 × os_T) :=
  ((ff_X12_rectangle N o_p0 o_p0_panel o_p0_layers a1 a2 a3).bind fun u_1 => (if u_1.1 = 0 then (if os_in (0 : Int32) 1 then some ((0 : Int32), ss_LF o_p4 (vp_updL (os_L o_p4) (Int32.toNatClampNeg (0 : Int32)) (Int32.toInt64 u_1.2))) else none) else (if u_1.1 = 2 then some ((1 : Int32), o_p4) else (if u_1.1 = 3 then some ((2 : Int32), o_p4) else none))))
set_option maxHeartbeats 4000000 in
set_option maxRecDepth 100000 in
theorem mm_L_rectangle (l : Launch) (hst : l.stackTraces = false) (zz : Nat → Nat → Nat) (D : va_G) (kA : Nat → ClassId) (N : Nat) (g : Nat → Nat → Nat) (q_p4 : Nat → Nat) (o_p0 : os_T) (o_p0_panel : os_T) (o_p0_layers : os_T) (o_p4 : os_T) (a1 : Int32) (a2 : Int32) (a3 : Int32) (out : (Int32 × os_T)) (hf : ff_L_rectangle N o_p0 o_p0_panel o_p0_layers o_p4 a1 a2 a3 = some out) : mh_C l zz D kA yL_rectangle wsL_rectangle ({ frames := 8, cells := 2, slots := 12, locals := 147 } : Room) [.ref ((g 0) 0), .int a1, .int a2, .int a3, .ref (q_p4 0)] (ce_X12 kA g o_p0 ++ (ce_X5 kA (g 1) o_p0_panel ++ (ce_X4 kA (g 14) (g 1) o_p0_layers ++ (ce_XJ kA q_p4 o_p4)))) (some (.int out.1)) (ce_X12 kA g o_p0 ++ (ce_X5 kA (g 1) o_p0_panel ++ (ce_X4 kA (g 14) (g 1) o_p0_layers ++ (ce_XJ kA q_p4 out.2)))) := by
  refine mh_of (hh := [(0, 12, 15, 19), (0, 12, 19, 35)]) (cc := cL_rectangle) (maxL := 6) (ret := (some .int)) (by decide) rfl (Nat.le_of_ble_eq_true rfl) ?_
  intro p e s m below meth c A B hex hZ hD hP hS ls hl
  obtain ⟨hx, hb, hr, hlk, hml, hown, hts, hK, hA, hnm⟩ := B
  have hown : s.vm.findClass RL = some m.cls := hown
  have hl : lv_has ls 6 [(0, .ref ((g 0) 0)), (1, .int a1), (2, .int a2), (3, .int a3), (4, .ref (q_p4 0))] := hl
  unfold ff_L_rectangle at hf
  refine lv_aload hx hb dL_rectangle_0 (lv_at hl 4 rfl) ?_
  refine lv_iconst (v := 0) hx hb dL_rectangle_2 (by decide) ?_
  refine lv_aload_n hx hb dL_rectangle_3 rfl (lv_at hl 0 rfl) ?_
  refine lv_iload_n hx hb dL_rectangle_4 rfl (lv_at hl 1 rfl) ?_
  refine lv_iload_n hx hb dL_rectangle_5 rfl (lv_at hl 2 rfl) ?_
  refine lv_iload_n hx hb dL_rectangle_6 rfl (lv_at hl 3 rfl) ?_
  obtain ⟨u_1, he_2, hf⟩ := os_bd hf
  refine mx_callV ⟨hx, hb, hml, hown, hts⟩ (mm_X12_rectangle l hst zz D kA N g o_p0 o_p0_panel o_p0_layers a1 a2 a3 u_1 he_2) (cwV 3 hts gL_rectangle_X12_rectangle rfl rfl rfl (by decide +kernel) ⟨Nat.le_of_ble_eq_true rfl, Nat.le_of_ble_eq_true rfl⟩) (wc := (ce_X12 kA g o_p0 ++ (ce_X5 kA (g 1) o_p0_panel ++ (ce_X4 kA (g 14) (g 1) o_p0_layers)))) (ci := 8) (q0 := 0) rfl rfl rfl hl.1 (As := [.int a1, .int a2, .int a3]) (rest := [.int (0 : Int32), .ref (q_p4 0)]) rfl (Nat.le_of_ble_eq_true rfl) dL_rectangle_7 ⟨Nat.le_of_ble_eq_true rfl, Nat.le_of_ble_eq_true rfl⟩ hK hP hD hS hA hZ [0, 1, 2, 3, 4, 5, 6, 7, 8, 9, 10] [11] [1, 2, 3, 4, 5, 6, 7, 8, 9, 10, 11, 0] rfl (by decide) rfl (by decide) (by decide) rfl (by decide) (wr := (ce_XJ kA q_p4 o_p4)) (w2 := (ce_X12 kA g o_p0 ++ (ce_X5 kA (g 1) o_p0_panel ++ (ce_X4 kA (g 14) (g 1) o_p0_layers ++ (ce_XJ kA q_p4 o_p4))))) (fun hx9 H locs q9 ce hP hD hS h91 h92 h93 => ?_) (fun hx9 H locs hP hD hS => ?_)
  · rw [if_neg hx9] at hf
    by_cases hy_4 : u_1.1 = 2
    · rw [if_pos hy_4] at hf
      rw [hy_4] at h93
      refine vx_catch (E := mx_n 2) (name := "java/lang/IllegalArgumentException") hown [] (⟨0, 12, 15, 19⟩ : ExceptionTableEntry) [(⟨0, 12, 19, 35⟩ : ExceptionTableEntry)] hex (fun z h => nomatch h) rfl (by decide) (hts (Cond.classLink RL 19 "java/lang/IllegalArgumentException") (List.mem_of_getElem? (i := 1) rfl)) (va_Nw.use rfl (hZ.2.2.1.2.2.2.1 2)) h91 h92 h93 ?_
      have hP : va_P D vwCl (ce_X12 kA g o_p0 ++ (ce_X5 kA (g 1) o_p0_panel ++ (ce_X4 kA (g 14) (g 1) o_p0_layers ++ (ce_XJ kA q_p4 o_p4)))) H := hP
      refine lv_astore (lv' := [(5, .ref q9), (0, .ref ((g 0) 0)), (1, .int a1), (2, .int a2), (3, .int a3), (4, .ref (q_p4 0))]) hx hb dL_rectangle_15 hl (by decide) rfl (fun ls hl => ?_)
      refine lv_iconst (v := 1) hx hb dL_rectangle_17 (by decide) ?_
      rw [← Option.some.inj hf]
      exact W.widen (k := 2) (n := 12) (Nat.le_of_ble_eq_true rfl) (Nat.le_of_ble_eq_true rfl) (mc_reti hx hb hr hlk hP hK hD hS dL_rectangle_18)
    rw [if_neg hy_4] at hf
    by_cases hy_5 : u_1.1 = 3
    · rw [if_pos hy_5] at hf
      rw [hy_5] at h93
      refine vx_catch (E := mx_n 3) (name := "java/lang/IndexOutOfBoundsException") hown [(⟨0, 12, 15, 19⟩ : ExceptionTableEntry)] (⟨0, 12, 19, 35⟩ : ExceptionTableEntry) [] hex (fun z h => by rcases List.mem_singleton.mp h with rfl; exact Or.inr ⟨by decide, "java/lang/IllegalArgumentException", hts (Cond.classLink RL 19 "java/lang/IllegalArgumentException") (List.mem_of_getElem? (i := 1) rfl), hZ.2.2.1.2.2.2.2 3 2 (by decide)⟩) rfl (by decide) (hts (Cond.classLink RL 35 "java/lang/IndexOutOfBoundsException") (List.mem_of_getElem? (i := 2) rfl)) (va_Nw.use rfl (hZ.2.2.1.2.2.2.1 3)) h91 h92 h93 ?_
      have hP : va_P D vwCl (ce_X12 kA g o_p0 ++ (ce_X5 kA (g 1) o_p0_panel ++ (ce_X4 kA (g 14) (g 1) o_p0_layers ++ (ce_XJ kA q_p4 o_p4)))) H := hP
      refine lv_astore (lv' := [(5, .ref q9), (0, .ref ((g 0) 0)), (1, .int a1), (2, .int a2), (3, .int a3), (4, .ref (q_p4 0))]) hx hb dL_rectangle_19 hl (by decide) rfl (fun ls hl => ?_)
      refine lv_iconst (v := 2) hx hb dL_rectangle_21 (by decide) ?_
      rw [← Option.some.inj hf]
      exact W.widen (k := 2) (n := 12) (Nat.le_of_ble_eq_true rfl) (Nat.le_of_ble_eq_true rfl) (mc_reti hx hb hr hlk hP hK hD hS dL_rectangle_22)
    rw [if_neg hy_5] at hf
    cases hf
  · rw [if_pos hx9] at hf
    refine W.widen (k := 2) (n := 12) (Nat.le_of_ble_eq_true rfl) (Nat.le_of_ble_eq_true rfl) ?_
    have hP : va_P D vwCl (ce_X12 kA g o_p0 ++ (ce_X5 kA (g 1) o_p0_panel ++ (ce_X4 kA (g 14) (g 1) o_p0_layers ++ (ce_XJ kA q_p4 o_p4)))) H := hP
    refine lv_i2l hx hb dL_rectangle_10 rfl ?_
    obtain ⟨hi_3, hf⟩ := os_if hf
    refine va_last hx hb hK hP hD hS 11 4 rfl rfl hi_3 dL_rectangle_11 (fun H locs hP hD hS => ?_)
    have hP : va_P D vwCl (ce_X12 kA g o_p0 ++ (ce_X5 kA (g 1) o_p0_panel ++ (ce_X4 kA (g 14) (g 1) o_p0_layers ++ (ce_XJ kA q_p4 (ss_LF o_p4 (vp_updL (os_L o_p4) (Int32.toNatClampNeg (0 : Int32)) (Int32.toInt64 u_1.2))))))) H := hP
    have hD : va_D A (ce_X12 kA g o_p0 ++ (ce_X5 kA (g 1) o_p0_panel ++ (ce_X4 kA (g 14) (g 1) o_p0_layers ++ (ce_XJ kA q_p4 (ss_LF o_p4 (vp_updL (os_L o_p4) (Int32.toNatClampNeg (0 : Int32)) (Int32.toInt64 u_1.2))))))) := hD
    refine lv_goto (tgt := 23) hx hb dL_rectangle_12 (by decide) ?_
    refine lv_iconst (v := 0) hx hb dL_rectangle_23 (by decide) ?_
    rw [← Option.some.inj hf]
    exact W.widen (k := 2) (n := 12) (Nat.le_of_ble_eq_true rfl) (Nat.le_of_ble_eq_true rfl) (mc_reti hx hb hr hlk hP hK hD hS dL_rectangle_24)
def ff_L_rectangleAt (N : Nat) (o_p0 : os_T) (o_p0_panel : os_T) (o_p0_layers : os_T) (o_p4 : os_T) (a1 : Int32) (a2 : Int32) (a3 : Int32) : Option (Int32 × os_T) :=
  ((ff_X12_rectangleAt N o_p0 o_p0_panel o_p0_layers a1 a2 a3).bind fun u_1 => (if u_1.1 = 0 then (if os_in (0 : Int32) 1 then some ((0 : Int32), ss_LF o_p4 (vp_updL (os_L o_p4) (Int32.toNatClampNeg (0 : Int32)) (Int32.toInt64 u_1.2))) else none) else (if u_1.1 = 3 then some ((1 : Int32), o_p4) else (if u_1.1 = 2 then some ((2 : Int32), o_p4) else none))))
set_option maxHeartbeats 4000000 in
set_option maxRecDepth 100000 in
theorem mm_L_rectangleAt (l : Launch) (hst : l.stackTraces = false) (zz : Nat → Nat → Nat) (D : va_G) (kA : Nat → ClassId) (N : Nat) (g : Nat → Nat → Nat) (q_p4 : Nat → Nat) (o_p0 : os_T) (o_p0_panel : os_T) (o_p0_layers : os_T) (o_p4 : os_T) (a1 : Int32) (a2 : Int32) (a3 : Int32) (out : (Int32 × os_T)) (hf : ff_L_rectangleAt N o_p0 o_p0_panel o_p0_layers o_p4 a1 a2 a3 = some out) : mh_C l zz D kA yL_rectangleAt wsL_rectangleAt ({ frames := 8, cells := 2, slots := 12, locals := 172 } : Room) [.ref ((g 0) 0), .int a1, .int a2, .int a3, .ref (q_p4 0)] (ce_X12 kA g o_p0 ++ (ce_X5 kA (g 1) o_p0_panel ++ (ce_X4 kA (g 14) (g 1) o_p0_layers ++ (ce_XJ kA q_p4 o_p4)))) (some (.int out.1)) (ce_X12 kA g o_p0 ++ (ce_X5 kA (g 1) o_p0_panel ++ (ce_X4 kA (g 14) (g 1) o_p0_layers ++ (ce_XJ kA q_p4 out.2)))) := by
  refine mh_of (hh := [(0, 12, 15, 35), (0, 12, 19, 19)]) (cc := cL_rectangleAt) (maxL := 6) (ret := (some .int)) (by decide) rfl (Nat.le_of_ble_eq_true rfl) ?_
  intro p e s m below meth c A B hex hZ hD hP hS ls hl
  obtain ⟨hx, hb, hr, hlk, hml, hown, hts, hK, hA, hnm⟩ := B
  have hown : s.vm.findClass RL = some m.cls := hown
  have hl : lv_has ls 6 [(0, .ref ((g 0) 0)), (1, .int a1), (2, .int a2), (3, .int a3), (4, .ref (q_p4 0))] := hl
  unfold ff_L_rectangleAt at hf
  refine lv_aload hx hb dL_rectangleAt_0 (lv_at hl 4 rfl) ?_
  refine lv_iconst (v := 0) hx hb dL_rectangleAt_2 (by decide) ?_
  refine lv_aload_n hx hb dL_rectangleAt_3 rfl (lv_at hl 0 rfl) ?_
  refine lv_iload_n hx hb dL_rectangleAt_4 rfl (lv_at hl 1 rfl) ?_
  refine lv_iload_n hx hb dL_rectangleAt_5 rfl (lv_at hl 2 rfl) ?_
  refine lv_iload_n hx hb dL_rectangleAt_6 rfl (lv_at hl 3 rfl) ?_
  obtain ⟨u_1, he_2, hf⟩ := os_bd hf
  refine mx_callV ⟨hx, hb, hml, hown, hts⟩ (mm_X12_rectangleAt l hst zz D kA N g o_p0 o_p0_panel o_p0_layers a1 a2 a3 u_1 he_2) (cwV 3 hts gL_rectangleAt_X12_rectangleAt rfl rfl rfl (by decide +kernel) ⟨Nat.le_of_ble_eq_true rfl, Nat.le_of_ble_eq_true rfl⟩) (wc := (ce_X12 kA g o_p0 ++ (ce_X5 kA (g 1) o_p0_panel ++ (ce_X4 kA (g 14) (g 1) o_p0_layers)))) (ci := 8) (q0 := 0) rfl rfl rfl hl.1 (As := [.int a1, .int a2, .int a3]) (rest := [.int (0 : Int32), .ref (q_p4 0)]) rfl (Nat.le_of_ble_eq_true rfl) dL_rectangleAt_7 ⟨Nat.le_of_ble_eq_true rfl, Nat.le_of_ble_eq_true rfl⟩ hK hP hD hS hA hZ [0, 1, 2, 3, 4, 5, 6, 7, 8, 9, 10] [11] [1, 2, 3, 4, 5, 6, 7, 8, 9, 10, 11, 0] rfl (by decide) rfl (by decide) (by decide) rfl (by decide) (wr := (ce_XJ kA q_p4 o_p4)) (w2 := (ce_X12 kA g o_p0 ++ (ce_X5 kA (g 1) o_p0_panel ++ (ce_X4 kA (g 14) (g 1) o_p0_layers ++ (ce_XJ kA q_p4 o_p4))))) (fun hx9 H locs q9 ce hP hD hS h91 h92 h93 => ?_) (fun hx9 H locs hP hD hS => ?_)
  · rw [if_neg hx9] at hf
    by_cases hy_4 : u_1.1 = 3
    · rw [if_pos hy_4] at hf
      rw [hy_4] at h93
      refine vx_catch (E := mx_n 3) (name := "java/lang/IndexOutOfBoundsException") hown [] (⟨0, 12, 15, 35⟩ : ExceptionTableEntry) [(⟨0, 12, 19, 19⟩ : ExceptionTableEntry)] hex (fun z h => nomatch h) rfl (by decide) (hts (Cond.classLink RL 35 "java/lang/IndexOutOfBoundsException") (List.mem_of_getElem? (i := 1) rfl)) (va_Nw.use rfl (hZ.2.2.1.2.2.2.1 3)) h91 h92 h93 ?_
      have hP : va_P D vwCl (ce_X12 kA g o_p0 ++ (ce_X5 kA (g 1) o_p0_panel ++ (ce_X4 kA (g 14) (g 1) o_p0_layers ++ (ce_XJ kA q_p4 o_p4)))) H := hP
      refine lv_astore (lv' := [(5, .ref q9), (0, .ref ((g 0) 0)), (1, .int a1), (2, .int a2), (3, .int a3), (4, .ref (q_p4 0))]) hx hb dL_rectangleAt_15 hl (by decide) rfl (fun ls hl => ?_)
      refine lv_iconst (v := 1) hx hb dL_rectangleAt_17 (by decide) ?_
      rw [← Option.some.inj hf]
      exact W.widen (k := 2) (n := 12) (Nat.le_of_ble_eq_true rfl) (Nat.le_of_ble_eq_true rfl) (mc_reti hx hb hr hlk hP hK hD hS dL_rectangleAt_18)
    rw [if_neg hy_4] at hf
    by_cases hy_5 : u_1.1 = 2
    · rw [if_pos hy_5] at hf
      rw [hy_5] at h93
      refine vx_catch (E := mx_n 2) (name := "java/lang/IllegalArgumentException") hown [(⟨0, 12, 15, 35⟩ : ExceptionTableEntry)] (⟨0, 12, 19, 19⟩ : ExceptionTableEntry) [] hex (fun z h => by rcases List.mem_singleton.mp h with rfl; exact Or.inr ⟨by decide, "java/lang/IndexOutOfBoundsException", hts (Cond.classLink RL 35 "java/lang/IndexOutOfBoundsException") (List.mem_of_getElem? (i := 1) rfl), hZ.2.2.1.2.2.2.2 2 3 (by decide)⟩) rfl (by decide) (hts (Cond.classLink RL 19 "java/lang/IllegalArgumentException") (List.mem_of_getElem? (i := 2) rfl)) (va_Nw.use rfl (hZ.2.2.1.2.2.2.1 2)) h91 h92 h93 ?_
      have hP : va_P D vwCl (ce_X12 kA g o_p0 ++ (ce_X5 kA (g 1) o_p0_panel ++ (ce_X4 kA (g 14) (g 1) o_p0_layers ++ (ce_XJ kA q_p4 o_p4)))) H := hP
      refine lv_astore (lv' := [(5, .ref q9), (0, .ref ((g 0) 0)), (1, .int a1), (2, .int a2), (3, .int a3), (4, .ref (q_p4 0))]) hx hb dL_rectangleAt_19 hl (by decide) rfl (fun ls hl => ?_)
      refine lv_iconst (v := 2) hx hb dL_rectangleAt_21 (by decide) ?_
      rw [← Option.some.inj hf]
      exact W.widen (k := 2) (n := 12) (Nat.le_of_ble_eq_true rfl) (Nat.le_of_ble_eq_true rfl) (mc_reti hx hb hr hlk hP hK hD hS dL_rectangleAt_22)
    rw [if_neg hy_5] at hf
    cases hf
  · rw [if_pos hx9] at hf
    refine W.widen (k := 2) (n := 12) (Nat.le_of_ble_eq_true rfl) (Nat.le_of_ble_eq_true rfl) ?_
    have hP : va_P D vwCl (ce_X12 kA g o_p0 ++ (ce_X5 kA (g 1) o_p0_panel ++ (ce_X4 kA (g 14) (g 1) o_p0_layers ++ (ce_XJ kA q_p4 o_p4)))) H := hP
    refine lv_i2l hx hb dL_rectangleAt_10 rfl ?_
    obtain ⟨hi_3, hf⟩ := os_if hf
    refine va_last hx hb hK hP hD hS 11 4 rfl rfl hi_3 dL_rectangleAt_11 (fun H locs hP hD hS => ?_)
    have hP : va_P D vwCl (ce_X12 kA g o_p0 ++ (ce_X5 kA (g 1) o_p0_panel ++ (ce_X4 kA (g 14) (g 1) o_p0_layers ++ (ce_XJ kA q_p4 (ss_LF o_p4 (vp_updL (os_L o_p4) (Int32.toNatClampNeg (0 : Int32)) (Int32.toInt64 u_1.2))))))) H := hP
    have hD : va_D A (ce_X12 kA g o_p0 ++ (ce_X5 kA (g 1) o_p0_panel ++ (ce_X4 kA (g 14) (g 1) o_p0_layers ++ (ce_XJ kA q_p4 (ss_LF o_p4 (vp_updL (os_L o_p4) (Int32.toNatClampNeg (0 : Int32)) (Int32.toInt64 u_1.2))))))) := hD
    refine lv_goto (tgt := 23) hx hb dL_rectangleAt_12 (by decide) ?_
    refine lv_iconst (v := 0) hx hb dL_rectangleAt_23 (by decide) ?_
    rw [← Option.some.inj hf]
    exact W.widen (k := 2) (n := 12) (Nat.le_of_ble_eq_true rfl) (Nat.le_of_ble_eq_true rfl) (mc_reti hx hb hr hlk hP hK hD hS dL_rectangleAt_24)
def ff_L_largest (N : Nat) (o_p0 : os_T) (o_p0_panel : os_T) (o_p0_layers : os_T) (o_p2 : os_T) (a1 : Int32) : Option (Int32 × os_T) :=
  ((ff_X12_largest N o_p0 o_p0_panel o_p0_layers a1).bind fun u_1 => (if u_1.1 = 0 then (if os_in (0 : Int32) 1 then some ((0 : Int32), ss_LF o_p2 (vp_updL (os_L o_p2) (Int32.toNatClampNeg (0 : Int32)) (Int32.toInt64 u_1.2))) else none) else (if u_1.1 = 2 then some ((1 : Int32), o_p2) else none)))
set_option maxHeartbeats 4000000 in
set_option maxRecDepth 100000 in
theorem mm_L_largest (l : Launch) (hst : l.stackTraces = false) (zz : Nat → Nat → Nat) (D : va_G) (kA : Nat → ClassId) (N : Nat) (g : Nat → Nat → Nat) (q_p2 : Nat → Nat) (o_p0 : os_T) (o_p0_panel : os_T) (o_p0_layers : os_T) (o_p2 : os_T) (a1 : Int32) (out : (Int32 × os_T)) (hf : ff_L_largest N o_p0 o_p0_panel o_p0_layers o_p2 a1 = some out) : mh_C l zz D kA yL_largest wsL_largest ({ frames := 8, cells := 1, slots := 6, locals := 146 } : Room) [.ref ((g 0) 0), .int a1, .ref (q_p2 0)] (ce_X12 kA g o_p0 ++ (ce_X5 kA (g 1) o_p0_panel ++ (ce_X4 kA (g 14) (g 1) o_p0_layers ++ (ce_XJ kA q_p2 o_p2)))) (some (.int out.1)) (ce_X12 kA g o_p0 ++ (ce_X5 kA (g 1) o_p0_panel ++ (ce_X4 kA (g 14) (g 1) o_p0_layers ++ (ce_XJ kA q_p2 out.2)))) := by
  refine mh_of (hh := [(0, 9, 12, 19)]) (cc := cL_largest) (maxL := 4) (ret := (some .int)) (by decide) rfl (Nat.le_of_ble_eq_true rfl) ?_
  intro p e s m below meth c A B hex hZ hD hP hS ls hl
  obtain ⟨hx, hb, hr, hlk, hml, hown, hts, hK, hA, hnm⟩ := B
  have hown : s.vm.findClass RL = some m.cls := hown
  have hl : lv_has ls 4 [(0, .ref ((g 0) 0)), (1, .int a1), (2, .ref (q_p2 0))] := hl
  unfold ff_L_largest at hf
  refine lv_aload_n hx hb dL_largest_0 rfl (lv_at hl 2 rfl) ?_
  refine lv_iconst (v := 0) hx hb dL_largest_1 (by decide) ?_
  refine lv_aload_n hx hb dL_largest_2 rfl (lv_at hl 0 rfl) ?_
  refine lv_iload_n hx hb dL_largest_3 rfl (lv_at hl 1 rfl) ?_
  obtain ⟨u_1, he_2, hf⟩ := os_bd hf
  refine mx_callV ⟨hx, hb, hml, hown, hts⟩ (mm_X12_largest l hst zz D kA N g o_p0 o_p0_panel o_p0_layers a1 u_1 he_2) (cwV 1 hts gL_largest_X12_largest rfl rfl rfl (by decide +kernel) ⟨Nat.le_of_ble_eq_true rfl, Nat.le_of_ble_eq_true rfl⟩) (wc := (ce_X12 kA g o_p0 ++ (ce_X5 kA (g 1) o_p0_panel ++ (ce_X4 kA (g 14) (g 1) o_p0_layers)))) (ci := 8) (q0 := 0) rfl rfl rfl hl.1 (As := [.int a1]) (rest := [.int (0 : Int32), .ref (q_p2 0)]) rfl (Nat.le_of_ble_eq_true rfl) dL_largest_4 ⟨Nat.le_of_ble_eq_true rfl, Nat.le_of_ble_eq_true rfl⟩ hK hP hD hS hA hZ [0, 1, 2, 3, 4, 5, 6, 7, 8, 9, 10] [11] [1, 2, 3, 4, 5, 6, 7, 8, 9, 10, 11, 0] rfl (by decide) rfl (by decide) (by decide) rfl (by decide) (wr := (ce_XJ kA q_p2 o_p2)) (w2 := (ce_X12 kA g o_p0 ++ (ce_X5 kA (g 1) o_p0_panel ++ (ce_X4 kA (g 14) (g 1) o_p0_layers ++ (ce_XJ kA q_p2 o_p2))))) (fun hx9 H locs q9 ce hP hD hS h91 h92 h93 => ?_) (fun hx9 H locs hP hD hS => ?_)
  · rw [if_neg hx9] at hf
    by_cases hy_4 : u_1.1 = 2
    · rw [if_pos hy_4] at hf
      rw [hy_4] at h93
      refine vx_catch (E := mx_n 2) (name := "java/lang/IllegalArgumentException") hown [] (⟨0, 9, 12, 19⟩ : ExceptionTableEntry) [] hex (fun z h => nomatch h) rfl (by decide) (hts (Cond.classLink RL 19 "java/lang/IllegalArgumentException") (List.mem_of_getElem? (i := 1) rfl)) (va_Nw.use rfl (hZ.2.2.1.2.2.2.1 2)) h91 h92 h93 ?_
      have hP : va_P D vwCl (ce_X12 kA g o_p0 ++ (ce_X5 kA (g 1) o_p0_panel ++ (ce_X4 kA (g 14) (g 1) o_p0_layers ++ (ce_XJ kA q_p2 o_p2)))) H := hP
      refine lv_astore_n (lv' := [(3, .ref q9), (0, .ref ((g 0) 0)), (1, .int a1), (2, .ref (q_p2 0))]) hx hb dL_largest_12 rfl hl (by decide) rfl (fun ls hl => ?_)
      refine lv_iconst (v := 1) hx hb dL_largest_13 (by decide) ?_
      rw [← Option.some.inj hf]
      exact W.widen (k := 1) (n := 6) (Nat.le_of_ble_eq_true rfl) (Nat.le_of_ble_eq_true rfl) (mc_reti hx hb hr hlk hP hK hD hS dL_largest_14)
    rw [if_neg hy_4] at hf
    cases hf
  · rw [if_pos hx9] at hf
    refine W.widen (k := 1) (n := 6) (Nat.le_of_ble_eq_true rfl) (Nat.le_of_ble_eq_true rfl) ?_
    have hP : va_P D vwCl (ce_X12 kA g o_p0 ++ (ce_X5 kA (g 1) o_p0_panel ++ (ce_X4 kA (g 14) (g 1) o_p0_layers ++ (ce_XJ kA q_p2 o_p2)))) H := hP
    refine lv_i2l hx hb dL_largest_7 rfl ?_
    obtain ⟨hi_3, hf⟩ := os_if hf
    refine va_last hx hb hK hP hD hS 11 4 rfl rfl hi_3 dL_largest_8 (fun H locs hP hD hS => ?_)
    have hP : va_P D vwCl (ce_X12 kA g o_p0 ++ (ce_X5 kA (g 1) o_p0_panel ++ (ce_X4 kA (g 14) (g 1) o_p0_layers ++ (ce_XJ kA q_p2 (ss_LF o_p2 (vp_updL (os_L o_p2) (Int32.toNatClampNeg (0 : Int32)) (Int32.toInt64 u_1.2))))))) H := hP
    have hD : va_D A (ce_X12 kA g o_p0 ++ (ce_X5 kA (g 1) o_p0_panel ++ (ce_X4 kA (g 14) (g 1) o_p0_layers ++ (ce_XJ kA q_p2 (ss_LF o_p2 (vp_updL (os_L o_p2) (Int32.toNatClampNeg (0 : Int32)) (Int32.toInt64 u_1.2))))))) := hD
    refine lv_goto (tgt := 15) hx hb dL_largest_9 (by decide) ?_
    refine lv_iconst (v := 0) hx hb dL_largest_15 (by decide) ?_
    rw [← Option.some.inj hf]
    exact W.widen (k := 1) (n := 6) (Nat.le_of_ble_eq_true rfl) (Nat.le_of_ble_eq_true rfl) (mc_reti hx hb hr hlk hP hK hD hS dL_largest_16)
def ff_L_shortest (N : Nat) (o_p0 : os_T) (o_p0_panel : os_T) (o_p0_layers : os_T) (o_p2 : os_T) (a1 : Int32) : Option (Int32 × os_T) :=
  ((ff_X12_shortest N o_p0 o_p0_panel o_p0_layers a1).bind fun u_1 => (if u_1.1 = 0 then (if os_in (0 : Int32) 1 then some ((0 : Int32), ss_LF o_p2 (vp_updL (os_L o_p2) (Int32.toNatClampNeg (0 : Int32)) (Int32.toInt64 u_1.2))) else none) else (if u_1.1 = 2 then some ((1 : Int32), o_p2) else none)))
set_option maxHeartbeats 4000000 in
set_option maxRecDepth 100000 in
theorem mm_L_shortest (l : Launch) (hst : l.stackTraces = false) (zz : Nat → Nat → Nat) (D : va_G) (kA : Nat → ClassId) (N : Nat) (g : Nat → Nat → Nat) (q_p2 : Nat → Nat) (o_p0 : os_T) (o_p0_panel : os_T) (o_p0_layers : os_T) (o_p2 : os_T) (a1 : Int32) (out : (Int32 × os_T)) (hf : ff_L_shortest N o_p0 o_p0_panel o_p0_layers o_p2 a1 = some out) : mh_C l zz D kA yL_shortest wsL_shortest ({ frames := 8, cells := 1, slots := 6, locals := 132 } : Room) [.ref ((g 0) 0), .int a1, .ref (q_p2 0)] (ce_X12 kA g o_p0 ++ (ce_X5 kA (g 1) o_p0_panel ++ (ce_X4 kA (g 14) (g 1) o_p0_layers ++ (ce_XJ kA q_p2 o_p2)))) (some (.int out.1)) (ce_X12 kA g o_p0 ++ (ce_X5 kA (g 1) o_p0_panel ++ (ce_X4 kA (g 14) (g 1) o_p0_layers ++ (ce_XJ kA q_p2 out.2)))) := by
  refine mh_of (hh := [(0, 9, 12, 19)]) (cc := cL_shortest) (maxL := 4) (ret := (some .int)) (by decide) rfl (Nat.le_of_ble_eq_true rfl) ?_
  intro p e s m below meth c A B hex hZ hD hP hS ls hl
  obtain ⟨hx, hb, hr, hlk, hml, hown, hts, hK, hA, hnm⟩ := B
  have hown : s.vm.findClass RL = some m.cls := hown
  have hl : lv_has ls 4 [(0, .ref ((g 0) 0)), (1, .int a1), (2, .ref (q_p2 0))] := hl
  unfold ff_L_shortest at hf
  refine lv_aload_n hx hb dL_shortest_0 rfl (lv_at hl 2 rfl) ?_
  refine lv_iconst (v := 0) hx hb dL_shortest_1 (by decide) ?_
  refine lv_aload_n hx hb dL_shortest_2 rfl (lv_at hl 0 rfl) ?_
  refine lv_iload_n hx hb dL_shortest_3 rfl (lv_at hl 1 rfl) ?_
  obtain ⟨u_1, he_2, hf⟩ := os_bd hf
  refine mx_callV ⟨hx, hb, hml, hown, hts⟩ (mm_X12_shortest l hst zz D kA N g o_p0 o_p0_panel o_p0_layers a1 u_1 he_2) (cwV 1 hts gL_shortest_X12_shortest rfl rfl rfl (by decide +kernel) ⟨Nat.le_of_ble_eq_true rfl, Nat.le_of_ble_eq_true rfl⟩) (wc := (ce_X12 kA g o_p0 ++ (ce_X5 kA (g 1) o_p0_panel ++ (ce_X4 kA (g 14) (g 1) o_p0_layers)))) (ci := 8) (q0 := 0) rfl rfl rfl hl.1 (As := [.int a1]) (rest := [.int (0 : Int32), .ref (q_p2 0)]) rfl (Nat.le_of_ble_eq_true rfl) dL_shortest_4 ⟨Nat.le_of_ble_eq_true rfl, Nat.le_of_ble_eq_true rfl⟩ hK hP hD hS hA hZ [0, 1, 2, 3, 4, 5, 6, 7, 8, 9, 10] [11] [1, 2, 3, 4, 5, 6, 7, 8, 9, 10, 11, 0] rfl (by decide) rfl (by decide) (by decide) rfl (by decide) (wr := (ce_XJ kA q_p2 o_p2)) (w2 := (ce_X12 kA g o_p0 ++ (ce_X5 kA (g 1) o_p0_panel ++ (ce_X4 kA (g 14) (g 1) o_p0_layers ++ (ce_XJ kA q_p2 o_p2))))) (fun hx9 H locs q9 ce hP hD hS h91 h92 h93 => ?_) (fun hx9 H locs hP hD hS => ?_)
  · rw [if_neg hx9] at hf
    by_cases hy_4 : u_1.1 = 2
    · rw [if_pos hy_4] at hf
      rw [hy_4] at h93
      refine vx_catch (E := mx_n 2) (name := "java/lang/IllegalArgumentException") hown [] (⟨0, 9, 12, 19⟩ : ExceptionTableEntry) [] hex (fun z h => nomatch h) rfl (by decide) (hts (Cond.classLink RL 19 "java/lang/IllegalArgumentException") (List.mem_of_getElem? (i := 1) rfl)) (va_Nw.use rfl (hZ.2.2.1.2.2.2.1 2)) h91 h92 h93 ?_
      have hP : va_P D vwCl (ce_X12 kA g o_p0 ++ (ce_X5 kA (g 1) o_p0_panel ++ (ce_X4 kA (g 14) (g 1) o_p0_layers ++ (ce_XJ kA q_p2 o_p2)))) H := hP
      refine lv_astore_n (lv' := [(3, .ref q9), (0, .ref ((g 0) 0)), (1, .int a1), (2, .ref (q_p2 0))]) hx hb dL_shortest_12 rfl hl (by decide) rfl (fun ls hl => ?_)
      refine lv_iconst (v := 1) hx hb dL_shortest_13 (by decide) ?_
      rw [← Option.some.inj hf]
      exact W.widen (k := 1) (n := 6) (Nat.le_of_ble_eq_true rfl) (Nat.le_of_ble_eq_true rfl) (mc_reti hx hb hr hlk hP hK hD hS dL_shortest_14)
    rw [if_neg hy_4] at hf
    cases hf
  · rw [if_pos hx9] at hf
    refine W.widen (k := 1) (n := 6) (Nat.le_of_ble_eq_true rfl) (Nat.le_of_ble_eq_true rfl) ?_
    have hP : va_P D vwCl (ce_X12 kA g o_p0 ++ (ce_X5 kA (g 1) o_p0_panel ++ (ce_X4 kA (g 14) (g 1) o_p0_layers ++ (ce_XJ kA q_p2 o_p2)))) H := hP
    refine lv_i2l hx hb dL_shortest_7 rfl ?_
    obtain ⟨hi_3, hf⟩ := os_if hf
    refine va_last hx hb hK hP hD hS 11 4 rfl rfl hi_3 dL_shortest_8 (fun H locs hP hD hS => ?_)
    have hP : va_P D vwCl (ce_X12 kA g o_p0 ++ (ce_X5 kA (g 1) o_p0_panel ++ (ce_X4 kA (g 14) (g 1) o_p0_layers ++ (ce_XJ kA q_p2 (ss_LF o_p2 (vp_updL (os_L o_p2) (Int32.toNatClampNeg (0 : Int32)) (Int32.toInt64 u_1.2))))))) H := hP
    have hD : va_D A (ce_X12 kA g o_p0 ++ (ce_X5 kA (g 1) o_p0_panel ++ (ce_X4 kA (g 14) (g 1) o_p0_layers ++ (ce_XJ kA q_p2 (ss_LF o_p2 (vp_updL (os_L o_p2) (Int32.toNatClampNeg (0 : Int32)) (Int32.toInt64 u_1.2))))))) := hD
    refine lv_goto (tgt := 15) hx hb dL_shortest_9 (by decide) ?_
    refine lv_iconst (v := 0) hx hb dL_shortest_15 (by decide) ?_
    rw [← Option.some.inj hf]
    exact W.widen (k := 1) (n := 6) (Nat.le_of_ble_eq_true rfl) (Nat.le_of_ble_eq_true rfl) (mc_reti hx hb hr hlk hP hK hD hS dL_shortest_16)
def ff_L_parts (N : Nat) (o_p0 : os_T) (o_p0_panel : os_T) (o_p0_layers : os_T) (o_p2 : os_T) (a1 : Int32) : Option (Int32 × os_T × os_T) :=
  ((ff_X12_parts N o_p0 o_p0_panel o_p0_layers a1).bind fun u_1 => (if u_1.1 = 0 then (if os_in (0 : Int32) 1 then some ((0 : Int32), u_1.2.2, ss_LF o_p2 (vp_updL (os_L o_p2) (Int32.toNatClampNeg (0 : Int32)) (Int32.toInt64 u_1.2.1))) else none) else (if u_1.1 = 2 then some ((1 : Int32), u_1.2.2, o_p2) else none)))
set_option maxHeartbeats 4000000 in
set_option maxRecDepth 100000 in
theorem mm_L_parts (l : Launch) (hst : l.stackTraces = false) (zz : Nat → Nat → Nat) (D : va_G) (kA : Nat → ClassId) (N : Nat) (g : Nat → Nat → Nat) (q_p2 : Nat → Nat) (o_p0 : os_T) (o_p0_panel : os_T) (o_p0_layers : os_T) (o_p2 : os_T) (a1 : Int32) (out : (Int32 × os_T × os_T)) (hf : ff_L_parts N o_p0 o_p0_panel o_p0_layers o_p2 a1 = some out) : mh_C l zz D kA yL_parts wsL_parts ({ frames := 8, cells := 1, slots := 6, locals := 144 } : Room) [.ref ((g 0) 0), .int a1, .ref (q_p2 0)] (ce_X12 kA g o_p0 ++ (ce_X5 kA (g 1) o_p0_panel ++ (ce_X4 kA (g 14) (g 1) o_p0_layers ++ (ce_XJ kA q_p2 o_p2)))) (some (.int out.1)) (ce_X12 kA g o_p0 ++ (ce_X5 kA (g 1) o_p0_panel ++ (ce_X4 kA (g 14) (g 1) out.2.1 ++ (ce_XJ kA q_p2 out.2.2)))) := by
  refine mh_of (hh := [(0, 9, 12, 19)]) (cc := cL_parts) (maxL := 4) (ret := (some .int)) (by decide) rfl (Nat.le_of_ble_eq_true rfl) ?_
  intro p e s m below meth c A B hex hZ hD hP hS ls hl
  obtain ⟨hx, hb, hr, hlk, hml, hown, hts, hK, hA, hnm⟩ := B
  have hown : s.vm.findClass RL = some m.cls := hown
  have hl : lv_has ls 4 [(0, .ref ((g 0) 0)), (1, .int a1), (2, .ref (q_p2 0))] := hl
  unfold ff_L_parts at hf
  refine lv_aload_n hx hb dL_parts_0 rfl (lv_at hl 2 rfl) ?_
  refine lv_iconst (v := 0) hx hb dL_parts_1 (by decide) ?_
  refine lv_aload_n hx hb dL_parts_2 rfl (lv_at hl 0 rfl) ?_
  refine lv_iload_n hx hb dL_parts_3 rfl (lv_at hl 1 rfl) ?_
  obtain ⟨u_1, he_2, hf⟩ := os_bd hf
  refine mx_callV ⟨hx, hb, hml, hown, hts⟩ (mm_X12_parts l hst zz D kA N g o_p0 o_p0_panel o_p0_layers a1 u_1 he_2) (cwV 1 hts gL_parts_X12_parts rfl rfl rfl (by decide +kernel) ⟨Nat.le_of_ble_eq_true rfl, Nat.le_of_ble_eq_true rfl⟩) (wc := (ce_X12 kA g o_p0 ++ (ce_X5 kA (g 1) o_p0_panel ++ (ce_X4 kA (g 14) (g 1) o_p0_layers)))) (ci := 8) (q0 := 0) rfl rfl rfl hl.1 (As := [.int a1]) (rest := [.int (0 : Int32), .ref (q_p2 0)]) rfl (Nat.le_of_ble_eq_true rfl) dL_parts_4 ⟨Nat.le_of_ble_eq_true rfl, Nat.le_of_ble_eq_true rfl⟩ hK hP hD hS hA hZ [0, 1, 2, 3, 4, 5, 6, 7, 8, 9, 10] [11] [1, 2, 3, 4, 5, 6, 7, 8, 9, 10, 11, 0] rfl (by decide) rfl (by decide) (by decide) rfl (by decide) (wr := (ce_XJ kA q_p2 o_p2)) (w2 := (ce_X12 kA g o_p0 ++ (ce_X5 kA (g 1) o_p0_panel ++ (ce_X4 kA (g 14) (g 1) u_1.2.2 ++ (ce_XJ kA q_p2 o_p2))))) (fun hx9 H locs q9 ce hP hD hS h91 h92 h93 => ?_) (fun hx9 H locs hP hD hS => ?_)
  · rw [if_neg hx9] at hf
    by_cases hy_4 : u_1.1 = 2
    · rw [if_pos hy_4] at hf
      rw [hy_4] at h93
      refine vx_catch (E := mx_n 2) (name := "java/lang/IllegalArgumentException") hown [] (⟨0, 9, 12, 19⟩ : ExceptionTableEntry) [] hex (fun z h => nomatch h) rfl (by decide) (hts (Cond.classLink RL 19 "java/lang/IllegalArgumentException") (List.mem_of_getElem? (i := 1) rfl)) (va_Nw.use rfl (hZ.2.2.1.2.2.2.1 2)) h91 h92 h93 ?_
      have hP : va_P D vwCl (ce_X12 kA g o_p0 ++ (ce_X5 kA (g 1) o_p0_panel ++ (ce_X4 kA (g 14) (g 1) u_1.2.2 ++ (ce_XJ kA q_p2 o_p2)))) H := hP
      refine lv_astore_n (lv' := [(3, .ref q9), (0, .ref ((g 0) 0)), (1, .int a1), (2, .ref (q_p2 0))]) hx hb dL_parts_12 rfl hl (by decide) rfl (fun ls hl => ?_)
      refine lv_iconst (v := 1) hx hb dL_parts_13 (by decide) ?_
      rw [← Option.some.inj hf]
      exact W.widen (k := 1) (n := 6) (Nat.le_of_ble_eq_true rfl) (Nat.le_of_ble_eq_true rfl) (mc_reti hx hb hr hlk hP hK hD hS dL_parts_14)
    rw [if_neg hy_4] at hf
    cases hf
  · rw [if_pos hx9] at hf
    refine W.widen (k := 1) (n := 6) (Nat.le_of_ble_eq_true rfl) (Nat.le_of_ble_eq_true rfl) ?_
    have hP : va_P D vwCl (ce_X12 kA g o_p0 ++ (ce_X5 kA (g 1) o_p0_panel ++ (ce_X4 kA (g 14) (g 1) u_1.2.2 ++ (ce_XJ kA q_p2 o_p2)))) H := hP
    refine lv_i2l hx hb dL_parts_7 rfl ?_
    obtain ⟨hi_3, hf⟩ := os_if hf
    refine va_last hx hb hK hP hD hS 11 4 rfl rfl hi_3 dL_parts_8 (fun H locs hP hD hS => ?_)
    have hP : va_P D vwCl (ce_X12 kA g o_p0 ++ (ce_X5 kA (g 1) o_p0_panel ++ (ce_X4 kA (g 14) (g 1) u_1.2.2 ++ (ce_XJ kA q_p2 (ss_LF o_p2 (vp_updL (os_L o_p2) (Int32.toNatClampNeg (0 : Int32)) (Int32.toInt64 u_1.2.1))))))) H := hP
    have hD : va_D A (ce_X12 kA g o_p0 ++ (ce_X5 kA (g 1) o_p0_panel ++ (ce_X4 kA (g 14) (g 1) u_1.2.2 ++ (ce_XJ kA q_p2 (ss_LF o_p2 (vp_updL (os_L o_p2) (Int32.toNatClampNeg (0 : Int32)) (Int32.toInt64 u_1.2.1))))))) := hD
    refine lv_goto (tgt := 15) hx hb dL_parts_9 (by decide) ?_
    refine lv_iconst (v := 0) hx hb dL_parts_15 (by decide) ?_
    rw [← Option.some.inj hf]
    exact W.widen (k := 1) (n := 6) (Nat.le_of_ble_eq_true rfl) (Nat.le_of_ble_eq_true rfl) (mc_reti hx hb hr hlk hP hK hD hS dL_parts_16)
def ff_L_outline (N : Nat) (o_p0 : os_T) (o_p0_panel : os_T) (o_p0_layers : os_T) (o_p2 : os_T) (a1 : Int32) : Option (Int32 × os_T) :=
  ((ff_X12_outline N o_p0 o_p0_panel o_p0_layers a1).bind fun u_1 => (if u_1.1 = 0 then (if os_in (0 : Int32) 1 then some ((0 : Int32), ss_LF o_p2 (vp_updL (os_L o_p2) (Int32.toNatClampNeg (0 : Int32)) (Int32.toInt64 u_1.2))) else none) else (if u_1.1 = 2 then some ((1 : Int32), o_p2) else none)))
set_option maxHeartbeats 4000000 in
set_option maxRecDepth 100000 in
theorem mm_L_outline (l : Launch) (hst : l.stackTraces = false) (zz : Nat → Nat → Nat) (D : va_G) (kA : Nat → ClassId) (N : Nat) (g : Nat → Nat → Nat) (q_p2 : Nat → Nat) (o_p0 : os_T) (o_p0_panel : os_T) (o_p0_layers : os_T) (o_p2 : os_T) (a1 : Int32) (out : (Int32 × os_T)) (hf : ff_L_outline N o_p0 o_p0_panel o_p0_layers o_p2 a1 = some out) : mh_C l zz D kA yL_outline wsL_outline ({ frames := 8, cells := 1, slots := 6, locals := 132 } : Room) [.ref ((g 0) 0), .int a1, .ref (q_p2 0)] (ce_X12 kA g o_p0 ++ (ce_X5 kA (g 1) o_p0_panel ++ (ce_X4 kA (g 14) (g 1) o_p0_layers ++ (ce_XJ kA q_p2 o_p2)))) (some (.int out.1)) (ce_X12 kA g o_p0 ++ (ce_X5 kA (g 1) o_p0_panel ++ (ce_X4 kA (g 14) (g 1) o_p0_layers ++ (ce_XJ kA q_p2 out.2)))) := by
  refine mh_of (hh := [(0, 9, 12, 19)]) (cc := cL_outline) (maxL := 4) (ret := (some .int)) (by decide) rfl (Nat.le_of_ble_eq_true rfl) ?_
  intro p e s m below meth c A B hex hZ hD hP hS ls hl
  obtain ⟨hx, hb, hr, hlk, hml, hown, hts, hK, hA, hnm⟩ := B
  have hown : s.vm.findClass RL = some m.cls := hown
  have hl : lv_has ls 4 [(0, .ref ((g 0) 0)), (1, .int a1), (2, .ref (q_p2 0))] := hl
  unfold ff_L_outline at hf
  refine lv_aload_n hx hb dL_outline_0 rfl (lv_at hl 2 rfl) ?_
  refine lv_iconst (v := 0) hx hb dL_outline_1 (by decide) ?_
  refine lv_aload_n hx hb dL_outline_2 rfl (lv_at hl 0 rfl) ?_
  refine lv_iload_n hx hb dL_outline_3 rfl (lv_at hl 1 rfl) ?_
  obtain ⟨u_1, he_2, hf⟩ := os_bd hf
  refine mx_callV ⟨hx, hb, hml, hown, hts⟩ (mm_X12_outline l hst zz D kA N g o_p0 o_p0_panel o_p0_layers a1 u_1 he_2) (cwV 1 hts gL_outline_X12_outline rfl rfl rfl (by decide +kernel) ⟨Nat.le_of_ble_eq_true rfl, Nat.le_of_ble_eq_true rfl⟩) (wc := (ce_X12 kA g o_p0 ++ (ce_X5 kA (g 1) o_p0_panel ++ (ce_X4 kA (g 14) (g 1) o_p0_layers)))) (ci := 8) (q0 := 0) rfl rfl rfl hl.1 (As := [.int a1]) (rest := [.int (0 : Int32), .ref (q_p2 0)]) rfl (Nat.le_of_ble_eq_true rfl) dL_outline_4 ⟨Nat.le_of_ble_eq_true rfl, Nat.le_of_ble_eq_true rfl⟩ hK hP hD hS hA hZ [0, 1, 2, 3, 4, 5, 6, 7, 8, 9, 10] [11] [1, 2, 3, 4, 5, 6, 7, 8, 9, 10, 11, 0] rfl (by decide) rfl (by decide) (by decide) rfl (by decide) (wr := (ce_XJ kA q_p2 o_p2)) (w2 := (ce_X12 kA g o_p0 ++ (ce_X5 kA (g 1) o_p0_panel ++ (ce_X4 kA (g 14) (g 1) o_p0_layers ++ (ce_XJ kA q_p2 o_p2))))) (fun hx9 H locs q9 ce hP hD hS h91 h92 h93 => ?_) (fun hx9 H locs hP hD hS => ?_)
  · rw [if_neg hx9] at hf
    by_cases hy_4 : u_1.1 = 2
    · rw [if_pos hy_4] at hf
      rw [hy_4] at h93
      refine vx_catch (E := mx_n 2) (name := "java/lang/IllegalArgumentException") hown [] (⟨0, 9, 12, 19⟩ : ExceptionTableEntry) [] hex (fun z h => nomatch h) rfl (by decide) (hts (Cond.classLink RL 19 "java/lang/IllegalArgumentException") (List.mem_of_getElem? (i := 1) rfl)) (va_Nw.use rfl (hZ.2.2.1.2.2.2.1 2)) h91 h92 h93 ?_
      have hP : va_P D vwCl (ce_X12 kA g o_p0 ++ (ce_X5 kA (g 1) o_p0_panel ++ (ce_X4 kA (g 14) (g 1) o_p0_layers ++ (ce_XJ kA q_p2 o_p2)))) H := hP
      refine lv_astore_n (lv' := [(3, .ref q9), (0, .ref ((g 0) 0)), (1, .int a1), (2, .ref (q_p2 0))]) hx hb dL_outline_12 rfl hl (by decide) rfl (fun ls hl => ?_)
      refine lv_iconst (v := 1) hx hb dL_outline_13 (by decide) ?_
      rw [← Option.some.inj hf]
      exact W.widen (k := 1) (n := 6) (Nat.le_of_ble_eq_true rfl) (Nat.le_of_ble_eq_true rfl) (mc_reti hx hb hr hlk hP hK hD hS dL_outline_14)
    rw [if_neg hy_4] at hf
    cases hf
  · rw [if_pos hx9] at hf
    refine W.widen (k := 1) (n := 6) (Nat.le_of_ble_eq_true rfl) (Nat.le_of_ble_eq_true rfl) ?_
    have hP : va_P D vwCl (ce_X12 kA g o_p0 ++ (ce_X5 kA (g 1) o_p0_panel ++ (ce_X4 kA (g 14) (g 1) o_p0_layers ++ (ce_XJ kA q_p2 o_p2)))) H := hP
    refine lv_i2l hx hb dL_outline_7 rfl ?_
    obtain ⟨hi_3, hf⟩ := os_if hf
    refine va_last hx hb hK hP hD hS 11 4 rfl rfl hi_3 dL_outline_8 (fun H locs hP hD hS => ?_)
    have hP : va_P D vwCl (ce_X12 kA g o_p0 ++ (ce_X5 kA (g 1) o_p0_panel ++ (ce_X4 kA (g 14) (g 1) o_p0_layers ++ (ce_XJ kA q_p2 (ss_LF o_p2 (vp_updL (os_L o_p2) (Int32.toNatClampNeg (0 : Int32)) (Int32.toInt64 u_1.2))))))) H := hP
    have hD : va_D A (ce_X12 kA g o_p0 ++ (ce_X5 kA (g 1) o_p0_panel ++ (ce_X4 kA (g 14) (g 1) o_p0_layers ++ (ce_XJ kA q_p2 (ss_LF o_p2 (vp_updL (os_L o_p2) (Int32.toNatClampNeg (0 : Int32)) (Int32.toInt64 u_1.2))))))) := hD
    refine lv_goto (tgt := 15) hx hb dL_outline_9 (by decide) ?_
    refine lv_iconst (v := 0) hx hb dL_outline_15 (by decide) ?_
    rw [← Option.some.inj hf]
    exact W.widen (k := 1) (n := 6) (Nat.le_of_ble_eq_true rfl) (Nat.le_of_ble_eq_true rfl) (mc_reti hx hb hr hlk hP hK hD hS dL_outline_16)
def ff_L_hollows (N : Nat) (o_p0 : os_T) (o_p0_panel : os_T) (o_p0_layers : os_T) (o_p2 : os_T) (a1 : Int32) : Option (Int32 × os_T × os_T) :=
  ((ff_X12_hollows N o_p0 o_p0_panel o_p0_layers a1).bind fun u_1 => (if u_1.1 = 0 then (if os_in (0 : Int32) 1 then some ((0 : Int32), u_1.2.2, ss_LF o_p2 (vp_updL (os_L o_p2) (Int32.toNatClampNeg (0 : Int32)) (Int32.toInt64 u_1.2.1))) else none) else (if u_1.1 = 2 then some ((1 : Int32), u_1.2.2, o_p2) else none)))
set_option maxHeartbeats 4000000 in
set_option maxRecDepth 100000 in
theorem mm_L_hollows (l : Launch) (hst : l.stackTraces = false) (zz : Nat → Nat → Nat) (D : va_G) (kA : Nat → ClassId) (N : Nat) (g : Nat → Nat → Nat) (q_p2 : Nat → Nat) (o_p0 : os_T) (o_p0_panel : os_T) (o_p0_layers : os_T) (o_p2 : os_T) (a1 : Int32) (out : (Int32 × os_T × os_T)) (hf : ff_L_hollows N o_p0 o_p0_panel o_p0_layers o_p2 a1 = some out) : mh_C l zz D kA yL_hollows wsL_hollows ({ frames := 8, cells := 1, slots := 6, locals := 144 } : Room) [.ref ((g 0) 0), .int a1, .ref (q_p2 0)] (ce_X12 kA g o_p0 ++ (ce_X5 kA (g 1) o_p0_panel ++ (ce_X4 kA (g 14) (g 1) o_p0_layers ++ (ce_XJ kA q_p2 o_p2)))) (some (.int out.1)) (ce_X12 kA g o_p0 ++ (ce_X5 kA (g 1) o_p0_panel ++ (ce_X4 kA (g 14) (g 1) out.2.1 ++ (ce_XJ kA q_p2 out.2.2)))) := by
  refine mh_of (hh := [(0, 9, 12, 19)]) (cc := cL_hollows) (maxL := 4) (ret := (some .int)) (by decide) rfl (Nat.le_of_ble_eq_true rfl) ?_
  intro p e s m below meth c A B hex hZ hD hP hS ls hl
  obtain ⟨hx, hb, hr, hlk, hml, hown, hts, hK, hA, hnm⟩ := B
  have hown : s.vm.findClass RL = some m.cls := hown
  have hl : lv_has ls 4 [(0, .ref ((g 0) 0)), (1, .int a1), (2, .ref (q_p2 0))] := hl
  unfold ff_L_hollows at hf
  refine lv_aload_n hx hb dL_hollows_0 rfl (lv_at hl 2 rfl) ?_
  refine lv_iconst (v := 0) hx hb dL_hollows_1 (by decide) ?_
  refine lv_aload_n hx hb dL_hollows_2 rfl (lv_at hl 0 rfl) ?_
  refine lv_iload_n hx hb dL_hollows_3 rfl (lv_at hl 1 rfl) ?_
  obtain ⟨u_1, he_2, hf⟩ := os_bd hf
  refine mx_callV ⟨hx, hb, hml, hown, hts⟩ (mm_X12_hollows l hst zz D kA N g o_p0 o_p0_panel o_p0_layers a1 u_1 he_2) (cwV 1 hts gL_hollows_X12_hollows rfl rfl rfl (by decide +kernel) ⟨Nat.le_of_ble_eq_true rfl, Nat.le_of_ble_eq_true rfl⟩) (wc := (ce_X12 kA g o_p0 ++ (ce_X5 kA (g 1) o_p0_panel ++ (ce_X4 kA (g 14) (g 1) o_p0_layers)))) (ci := 8) (q0 := 0) rfl rfl rfl hl.1 (As := [.int a1]) (rest := [.int (0 : Int32), .ref (q_p2 0)]) rfl (Nat.le_of_ble_eq_true rfl) dL_hollows_4 ⟨Nat.le_of_ble_eq_true rfl, Nat.le_of_ble_eq_true rfl⟩ hK hP hD hS hA hZ [0, 1, 2, 3, 4, 5, 6, 7, 8, 9, 10] [11] [1, 2, 3, 4, 5, 6, 7, 8, 9, 10, 11, 0] rfl (by decide) rfl (by decide) (by decide) rfl (by decide) (wr := (ce_XJ kA q_p2 o_p2)) (w2 := (ce_X12 kA g o_p0 ++ (ce_X5 kA (g 1) o_p0_panel ++ (ce_X4 kA (g 14) (g 1) u_1.2.2 ++ (ce_XJ kA q_p2 o_p2))))) (fun hx9 H locs q9 ce hP hD hS h91 h92 h93 => ?_) (fun hx9 H locs hP hD hS => ?_)
  · rw [if_neg hx9] at hf
    by_cases hy_4 : u_1.1 = 2
    · rw [if_pos hy_4] at hf
      rw [hy_4] at h93
      refine vx_catch (E := mx_n 2) (name := "java/lang/IllegalArgumentException") hown [] (⟨0, 9, 12, 19⟩ : ExceptionTableEntry) [] hex (fun z h => nomatch h) rfl (by decide) (hts (Cond.classLink RL 19 "java/lang/IllegalArgumentException") (List.mem_of_getElem? (i := 1) rfl)) (va_Nw.use rfl (hZ.2.2.1.2.2.2.1 2)) h91 h92 h93 ?_
      have hP : va_P D vwCl (ce_X12 kA g o_p0 ++ (ce_X5 kA (g 1) o_p0_panel ++ (ce_X4 kA (g 14) (g 1) u_1.2.2 ++ (ce_XJ kA q_p2 o_p2)))) H := hP
      refine lv_astore_n (lv' := [(3, .ref q9), (0, .ref ((g 0) 0)), (1, .int a1), (2, .ref (q_p2 0))]) hx hb dL_hollows_12 rfl hl (by decide) rfl (fun ls hl => ?_)
      refine lv_iconst (v := 1) hx hb dL_hollows_13 (by decide) ?_
      rw [← Option.some.inj hf]
      exact W.widen (k := 1) (n := 6) (Nat.le_of_ble_eq_true rfl) (Nat.le_of_ble_eq_true rfl) (mc_reti hx hb hr hlk hP hK hD hS dL_hollows_14)
    rw [if_neg hy_4] at hf
    cases hf
  · rw [if_pos hx9] at hf
    refine W.widen (k := 1) (n := 6) (Nat.le_of_ble_eq_true rfl) (Nat.le_of_ble_eq_true rfl) ?_
    have hP : va_P D vwCl (ce_X12 kA g o_p0 ++ (ce_X5 kA (g 1) o_p0_panel ++ (ce_X4 kA (g 14) (g 1) u_1.2.2 ++ (ce_XJ kA q_p2 o_p2)))) H := hP
    refine lv_i2l hx hb dL_hollows_7 rfl ?_
    obtain ⟨hi_3, hf⟩ := os_if hf
    refine va_last hx hb hK hP hD hS 11 4 rfl rfl hi_3 dL_hollows_8 (fun H locs hP hD hS => ?_)
    have hP : va_P D vwCl (ce_X12 kA g o_p0 ++ (ce_X5 kA (g 1) o_p0_panel ++ (ce_X4 kA (g 14) (g 1) u_1.2.2 ++ (ce_XJ kA q_p2 (ss_LF o_p2 (vp_updL (os_L o_p2) (Int32.toNatClampNeg (0 : Int32)) (Int32.toInt64 u_1.2.1))))))) H := hP
    have hD : va_D A (ce_X12 kA g o_p0 ++ (ce_X5 kA (g 1) o_p0_panel ++ (ce_X4 kA (g 14) (g 1) u_1.2.2 ++ (ce_XJ kA q_p2 (ss_LF o_p2 (vp_updL (os_L o_p2) (Int32.toNatClampNeg (0 : Int32)) (Int32.toInt64 u_1.2.1))))))) := hD
    refine lv_goto (tgt := 15) hx hb dL_hollows_9 (by decide) ?_
    refine lv_iconst (v := 0) hx hb dL_hollows_15 (by decide) ?_
    rw [← Option.some.inj hf]
    exact W.widen (k := 1) (n := 6) (Nat.le_of_ble_eq_true rfl) (Nat.le_of_ble_eq_true rfl) (mc_reti hx hb hr hlk hP hK hD hS dL_hollows_16)
def ff_L_setTone (N : Nat) (o_p0 : os_T) (o_p0_panel : os_T) (o_p0_history : os_T) (o_p0_history_panels0 : os_T) (o_p0_history_panels1 : os_T) (o_p0_history_panels2 : os_T) (o_p0_history_panels3 : os_T) (o_p0_history_panels4 : os_T) (o_p0_history_panels5 : os_T) (o_p0_history_panels6 : os_T) (o_p4 : os_T) (a1 : Int32) (a2 : Int32) (a3 : Int32) : Option (Int32 × os_T × os_T × os_T × os_T × os_T × os_T × os_T × os_T × os_T × os_T) :=
  ((ff_X12_setTone N o_p0 o_p0_panel o_p0_history o_p0_history_panels0 o_p0_history_panels1 o_p0_history_panels2 o_p0_history_panels3 o_p0_history_panels4 o_p0_history_panels5 o_p0_history_panels6 a1 a2 a3).bind fun u_1 => (if u_1.1 = 0 then (if os_in (0 : Int32) 1 then some ((0 : Int32), u_1.2.2.1, u_1.2.2.2.1, u_1.2.2.2.2.1, u_1.2.2.2.2.2.1, u_1.2.2.2.2.2.2.1, u_1.2.2.2.2.2.2.2.1, u_1.2.2.2.2.2.2.2.2.1, u_1.2.2.2.2.2.2.2.2.2.1, u_1.2.2.2.2.2.2.2.2.2.2, ss_LF o_p4 (vp_updL (os_L o_p4) (Int32.toNatClampNeg (0 : Int32)) (Int32.toInt64 u_1.2.1))) else none) else (if u_1.1 = 3 then some ((1 : Int32), u_1.2.2.1, u_1.2.2.2.1, u_1.2.2.2.2.1, u_1.2.2.2.2.2.1, u_1.2.2.2.2.2.2.1, u_1.2.2.2.2.2.2.2.1, u_1.2.2.2.2.2.2.2.2.1, u_1.2.2.2.2.2.2.2.2.2.1, u_1.2.2.2.2.2.2.2.2.2.2, o_p4) else (if u_1.1 = 2 then some ((2 : Int32), u_1.2.2.1, u_1.2.2.2.1, u_1.2.2.2.2.1, u_1.2.2.2.2.2.1, u_1.2.2.2.2.2.2.1, u_1.2.2.2.2.2.2.2.1, u_1.2.2.2.2.2.2.2.2.1, u_1.2.2.2.2.2.2.2.2.2.1, u_1.2.2.2.2.2.2.2.2.2.2, o_p4) else none))))
set_option maxHeartbeats 4000000 in
set_option maxRecDepth 100000 in
theorem mm_L_setTone (l : Launch) (hst : l.stackTraces = false) (zz : Nat → Nat → Nat) (D : va_G) (kA : Nat → ClassId) (N : Nat) (g : Nat → Nat → Nat) (q_p4 : Nat → Nat) (o_p0 : os_T) (o_p0_panel : os_T) (o_p0_history : os_T) (o_p0_history_panels0 : os_T) (o_p0_history_panels1 : os_T) (o_p0_history_panels2 : os_T) (o_p0_history_panels3 : os_T) (o_p0_history_panels4 : os_T) (o_p0_history_panels5 : os_T) (o_p0_history_panels6 : os_T) (o_p4 : os_T) (a1 : Int32) (a2 : Int32) (a3 : Int32) (out : (Int32 × os_T × os_T × os_T × os_T × os_T × os_T × os_T × os_T × os_T × os_T)) (hf : ff_L_setTone N o_p0 o_p0_panel o_p0_history o_p0_history_panels0 o_p0_history_panels1 o_p0_history_panels2 o_p0_history_panels3 o_p0_history_panels4 o_p0_history_panels5 o_p0_history_panels6 o_p4 a1 a2 a3 = some out) : mh_C l zz D kA yL_setTone wsL_setTone ({ frames := 8, cells := 2, slots := 12, locals := 146 } : Room) [.ref ((g 0) 0), .int a1, .int a2, .int a3, .ref (q_p4 0)] (ce_X12 kA g o_p0 ++ (ce_X5 kA (g 1) o_p0_panel ++ (ce_X3 kA (g 5) (fun k => g (6 + k)) o_p0_history ++ (ce_X5 kA (g 6) o_p0_history_panels0 ++ (ce_X5 kA (g 7) o_p0_history_panels1 ++ (ce_X5 kA (g 8) o_p0_history_panels2 ++ (ce_X5 kA (g 9) o_p0_history_panels3 ++ (ce_X5 kA (g 10) o_p0_history_panels4 ++ (ce_X5 kA (g 11) o_p0_history_panels5 ++ (ce_X5 kA (g 12) o_p0_history_panels6 ++ (ce_XJ kA q_p4 o_p4))))))))))) (some (.int out.1)) (ce_X12 kA g o_p0 ++ (ce_X5 kA (g 1) out.2.1 ++ (ce_X3 kA (g 5) (fun k => g (6 + k)) out.2.2.1 ++ (ce_X5 kA (g 6) out.2.2.2.1 ++ (ce_X5 kA (g 7) out.2.2.2.2.1 ++ (ce_X5 kA (g 8) out.2.2.2.2.2.1 ++ (ce_X5 kA (g 9) out.2.2.2.2.2.2.1 ++ (ce_X5 kA (g 10) out.2.2.2.2.2.2.2.1 ++ (ce_X5 kA (g 11) out.2.2.2.2.2.2.2.2.1 ++ (ce_X5 kA (g 12) out.2.2.2.2.2.2.2.2.2.1 ++ (ce_XJ kA q_p4 out.2.2.2.2.2.2.2.2.2.2))))))))))) := by
  refine mh_of (hh := [(0, 12, 15, 35), (0, 12, 19, 19)]) (cc := cL_setTone) (maxL := 6) (ret := (some .int)) (by decide) rfl (Nat.le_of_ble_eq_true rfl) ?_
  intro p e s m below meth c A B hex hZ hD hP hS ls hl
  obtain ⟨hx, hb, hr, hlk, hml, hown, hts, hK, hA, hnm⟩ := B
  have hown : s.vm.findClass RL = some m.cls := hown
  have hl : lv_has ls 6 [(0, .ref ((g 0) 0)), (1, .int a1), (2, .int a2), (3, .int a3), (4, .ref (q_p4 0))] := hl
  unfold ff_L_setTone at hf
  refine lv_aload hx hb dL_setTone_0 (lv_at hl 4 rfl) ?_
  refine lv_iconst (v := 0) hx hb dL_setTone_2 (by decide) ?_
  refine lv_aload_n hx hb dL_setTone_3 rfl (lv_at hl 0 rfl) ?_
  refine lv_iload_n hx hb dL_setTone_4 rfl (lv_at hl 1 rfl) ?_
  refine lv_iload_n hx hb dL_setTone_5 rfl (lv_at hl 2 rfl) ?_
  refine lv_iload_n hx hb dL_setTone_6 rfl (lv_at hl 3 rfl) ?_
  obtain ⟨u_1, he_2, hf⟩ := os_bd hf
  refine mx_callV ⟨hx, hb, hml, hown, hts⟩ (mm_X12_setTone l hst zz D kA N g o_p0 o_p0_panel o_p0_history o_p0_history_panels0 o_p0_history_panels1 o_p0_history_panels2 o_p0_history_panels3 o_p0_history_panels4 o_p0_history_panels5 o_p0_history_panels6 a1 a2 a3 u_1 he_2) (cwV 3 hts gL_setTone_X12_setTone rfl rfl rfl (by decide +kernel) ⟨Nat.le_of_ble_eq_true rfl, Nat.le_of_ble_eq_true rfl⟩) (wc := (ce_X12 kA g o_p0 ++ (ce_X5 kA (g 1) o_p0_panel ++ (ce_X3 kA (g 5) (fun k => g (6 + k)) o_p0_history ++ (ce_X5 kA (g 6) o_p0_history_panels0 ++ (ce_X5 kA (g 7) o_p0_history_panels1 ++ (ce_X5 kA (g 8) o_p0_history_panels2 ++ (ce_X5 kA (g 9) o_p0_history_panels3 ++ (ce_X5 kA (g 10) o_p0_history_panels4 ++ (ce_X5 kA (g 11) o_p0_history_panels5 ++ (ce_X5 kA (g 12) o_p0_history_panels6))))))))))) (ci := 8) (q0 := 0) rfl rfl rfl hl.1 (As := [.int a1, .int a2, .int a3]) (rest := [.int (0 : Int32), .ref (q_p4 0)]) rfl (Nat.le_of_ble_eq_true rfl) dL_setTone_7 ⟨Nat.le_of_ble_eq_true rfl, Nat.le_of_ble_eq_true rfl⟩ hK hP hD hS hA hZ [0, 1, 2, 3, 4, 5, 6, 7, 8, 9, 10, 11, 12, 13, 14, 15, 16, 17, 18, 19, 20, 21, 22, 23, 24, 25, 26, 27, 28, 29, 30, 31, 32, 33, 34, 35, 36, 37] [38] [1, 2, 3, 4, 5, 6, 7, 8, 9, 10, 11, 12, 13, 14, 15, 16, 17, 18, 19, 20, 21, 22, 23, 24, 25, 26, 27, 28, 29, 30, 31, 32, 33, 34, 35, 36, 37, 38, 0] rfl (by decide) rfl (by decide) (by decide) rfl (by decide) (wr := (ce_XJ kA q_p4 o_p4)) (w2 := (ce_X12 kA g o_p0 ++ (ce_X5 kA (g 1) u_1.2.2.1 ++ (ce_X3 kA (g 5) (fun k => g (6 + k)) u_1.2.2.2.1 ++ (ce_X5 kA (g 6) u_1.2.2.2.2.1 ++ (ce_X5 kA (g 7) u_1.2.2.2.2.2.1 ++ (ce_X5 kA (g 8) u_1.2.2.2.2.2.2.1 ++ (ce_X5 kA (g 9) u_1.2.2.2.2.2.2.2.1 ++ (ce_X5 kA (g 10) u_1.2.2.2.2.2.2.2.2.1 ++ (ce_X5 kA (g 11) u_1.2.2.2.2.2.2.2.2.2.1 ++ (ce_X5 kA (g 12) u_1.2.2.2.2.2.2.2.2.2.2 ++ (ce_XJ kA q_p4 o_p4)))))))))))) (fun hx9 H locs q9 ce hP hD hS h91 h92 h93 => ?_) (fun hx9 H locs hP hD hS => ?_)
  · rw [if_neg hx9] at hf
    by_cases hy_4 : u_1.1 = 3
    · rw [if_pos hy_4] at hf
      rw [hy_4] at h93
      refine vx_catch (E := mx_n 3) (name := "java/lang/IndexOutOfBoundsException") hown [] (⟨0, 12, 15, 35⟩ : ExceptionTableEntry) [(⟨0, 12, 19, 19⟩ : ExceptionTableEntry)] hex (fun z h => nomatch h) rfl (by decide) (hts (Cond.classLink RL 35 "java/lang/IndexOutOfBoundsException") (List.mem_of_getElem? (i := 1) rfl)) (va_Nw.use rfl (hZ.2.2.1.2.2.2.1 3)) h91 h92 h93 ?_
      have hP : va_P D vwCl (ce_X12 kA g o_p0 ++ (ce_X5 kA (g 1) u_1.2.2.1 ++ (ce_X3 kA (g 5) (fun k => g (6 + k)) u_1.2.2.2.1 ++ (ce_X5 kA (g 6) u_1.2.2.2.2.1 ++ (ce_X5 kA (g 7) u_1.2.2.2.2.2.1 ++ (ce_X5 kA (g 8) u_1.2.2.2.2.2.2.1 ++ (ce_X5 kA (g 9) u_1.2.2.2.2.2.2.2.1 ++ (ce_X5 kA (g 10) u_1.2.2.2.2.2.2.2.2.1 ++ (ce_X5 kA (g 11) u_1.2.2.2.2.2.2.2.2.2.1 ++ (ce_X5 kA (g 12) u_1.2.2.2.2.2.2.2.2.2.2 ++ (ce_XJ kA q_p4 o_p4))))))))))) H := hP
      refine lv_astore (lv' := [(5, .ref q9), (0, .ref ((g 0) 0)), (1, .int a1), (2, .int a2), (3, .int a3), (4, .ref (q_p4 0))]) hx hb dL_setTone_15 hl (by decide) rfl (fun ls hl => ?_)
      refine lv_iconst (v := 1) hx hb dL_setTone_17 (by decide) ?_
      rw [← Option.some.inj hf]
      exact W.widen (k := 2) (n := 12) (Nat.le_of_ble_eq_true rfl) (Nat.le_of_ble_eq_true rfl) (mc_reti hx hb hr hlk hP hK hD hS dL_setTone_18)
    rw [if_neg hy_4] at hf
    by_cases hy_5 : u_1.1 = 2
    · rw [if_pos hy_5] at hf
      rw [hy_5] at h93
      refine vx_catch (E := mx_n 2) (name := "java/lang/IllegalArgumentException") hown [(⟨0, 12, 15, 35⟩ : ExceptionTableEntry)] (⟨0, 12, 19, 19⟩ : ExceptionTableEntry) [] hex (fun z h => by rcases List.mem_singleton.mp h with rfl; exact Or.inr ⟨by decide, "java/lang/IndexOutOfBoundsException", hts (Cond.classLink RL 35 "java/lang/IndexOutOfBoundsException") (List.mem_of_getElem? (i := 1) rfl), hZ.2.2.1.2.2.2.2 2 3 (by decide)⟩) rfl (by decide) (hts (Cond.classLink RL 19 "java/lang/IllegalArgumentException") (List.mem_of_getElem? (i := 2) rfl)) (va_Nw.use rfl (hZ.2.2.1.2.2.2.1 2)) h91 h92 h93 ?_
      have hP : va_P D vwCl (ce_X12 kA g o_p0 ++ (ce_X5 kA (g 1) u_1.2.2.1 ++ (ce_X3 kA (g 5) (fun k => g (6 + k)) u_1.2.2.2.1 ++ (ce_X5 kA (g 6) u_1.2.2.2.2.1 ++ (ce_X5 kA (g 7) u_1.2.2.2.2.2.1 ++ (ce_X5 kA (g 8) u_1.2.2.2.2.2.2.1 ++ (ce_X5 kA (g 9) u_1.2.2.2.2.2.2.2.1 ++ (ce_X5 kA (g 10) u_1.2.2.2.2.2.2.2.2.1 ++ (ce_X5 kA (g 11) u_1.2.2.2.2.2.2.2.2.2.1 ++ (ce_X5 kA (g 12) u_1.2.2.2.2.2.2.2.2.2.2 ++ (ce_XJ kA q_p4 o_p4))))))))))) H := hP
      refine lv_astore (lv' := [(5, .ref q9), (0, .ref ((g 0) 0)), (1, .int a1), (2, .int a2), (3, .int a3), (4, .ref (q_p4 0))]) hx hb dL_setTone_19 hl (by decide) rfl (fun ls hl => ?_)
      refine lv_iconst (v := 2) hx hb dL_setTone_21 (by decide) ?_
      rw [← Option.some.inj hf]
      exact W.widen (k := 2) (n := 12) (Nat.le_of_ble_eq_true rfl) (Nat.le_of_ble_eq_true rfl) (mc_reti hx hb hr hlk hP hK hD hS dL_setTone_22)
    rw [if_neg hy_5] at hf
    cases hf
  · rw [if_pos hx9] at hf
    refine W.widen (k := 2) (n := 12) (Nat.le_of_ble_eq_true rfl) (Nat.le_of_ble_eq_true rfl) ?_
    have hP : va_P D vwCl (ce_X12 kA g o_p0 ++ (ce_X5 kA (g 1) u_1.2.2.1 ++ (ce_X3 kA (g 5) (fun k => g (6 + k)) u_1.2.2.2.1 ++ (ce_X5 kA (g 6) u_1.2.2.2.2.1 ++ (ce_X5 kA (g 7) u_1.2.2.2.2.2.1 ++ (ce_X5 kA (g 8) u_1.2.2.2.2.2.2.1 ++ (ce_X5 kA (g 9) u_1.2.2.2.2.2.2.2.1 ++ (ce_X5 kA (g 10) u_1.2.2.2.2.2.2.2.2.1 ++ (ce_X5 kA (g 11) u_1.2.2.2.2.2.2.2.2.2.1 ++ (ce_X5 kA (g 12) u_1.2.2.2.2.2.2.2.2.2.2 ++ (ce_XJ kA q_p4 o_p4))))))))))) H := hP
    refine lv_i2l hx hb dL_setTone_10 rfl ?_
    obtain ⟨hi_3, hf⟩ := os_if hf
    refine va_last hx hb hK hP hD hS 38 4 rfl rfl hi_3 dL_setTone_11 (fun H locs hP hD hS => ?_)
    have hP : va_P D vwCl (ce_X12 kA g o_p0 ++ (ce_X5 kA (g 1) u_1.2.2.1 ++ (ce_X3 kA (g 5) (fun k => g (6 + k)) u_1.2.2.2.1 ++ (ce_X5 kA (g 6) u_1.2.2.2.2.1 ++ (ce_X5 kA (g 7) u_1.2.2.2.2.2.1 ++ (ce_X5 kA (g 8) u_1.2.2.2.2.2.2.1 ++ (ce_X5 kA (g 9) u_1.2.2.2.2.2.2.2.1 ++ (ce_X5 kA (g 10) u_1.2.2.2.2.2.2.2.2.1 ++ (ce_X5 kA (g 11) u_1.2.2.2.2.2.2.2.2.2.1 ++ (ce_X5 kA (g 12) u_1.2.2.2.2.2.2.2.2.2.2 ++ (ce_XJ kA q_p4 (ss_LF o_p4 (vp_updL (os_L o_p4) (Int32.toNatClampNeg (0 : Int32)) (Int32.toInt64 u_1.2.1)))))))))))))) H := hP
    have hD : va_D A (ce_X12 kA g o_p0 ++ (ce_X5 kA (g 1) u_1.2.2.1 ++ (ce_X3 kA (g 5) (fun k => g (6 + k)) u_1.2.2.2.1 ++ (ce_X5 kA (g 6) u_1.2.2.2.2.1 ++ (ce_X5 kA (g 7) u_1.2.2.2.2.2.1 ++ (ce_X5 kA (g 8) u_1.2.2.2.2.2.2.1 ++ (ce_X5 kA (g 9) u_1.2.2.2.2.2.2.2.1 ++ (ce_X5 kA (g 10) u_1.2.2.2.2.2.2.2.2.1 ++ (ce_X5 kA (g 11) u_1.2.2.2.2.2.2.2.2.2.1 ++ (ce_X5 kA (g 12) u_1.2.2.2.2.2.2.2.2.2.2 ++ (ce_XJ kA q_p4 (ss_LF o_p4 (vp_updL (os_L o_p4) (Int32.toNatClampNeg (0 : Int32)) (Int32.toInt64 u_1.2.1)))))))))))))) := hD
    refine lv_goto (tgt := 23) hx hb dL_setTone_12 (by decide) ?_
    refine lv_iconst (v := 0) hx hb dL_setTone_23 (by decide) ?_
    rw [← Option.some.inj hf]
    exact W.widen (k := 2) (n := 12) (Nat.le_of_ble_eq_true rfl) (Nat.le_of_ble_eq_true rfl) (mc_reti hx hb hr hlk hP hK hD hS dL_setTone_24)
def ff_L_setHeight (N : Nat) (o_p0 : os_T) (o_p0_panel : os_T) (o_p0_history : os_T) (o_p0_history_panels0 : os_T) (o_p0_history_panels1 : os_T) (o_p0_history_panels2 : os_T) (o_p0_history_panels3 : os_T) (o_p0_history_panels4 : os_T) (o_p0_history_panels5 : os_T) (o_p0_history_panels6 : os_T) (o_p4 : os_T) (a1 : Int32) (a2 : Int32) (a3 : Int32) : Option (Int32 × os_T × os_T × os_T × os_T × os_T × os_T × os_T × os_T × os_T × os_T) :=
  ((ff_X12_setHeight N o_p0 o_p0_panel o_p0_history o_p0_history_panels0 o_p0_history_panels1 o_p0_history_panels2 o_p0_history_panels3 o_p0_history_panels4 o_p0_history_panels5 o_p0_history_panels6 a1 a2 a3).bind fun u_1 => (if u_1.1 = 0 then (if os_in (0 : Int32) 1 then some ((0 : Int32), u_1.2.2.1, u_1.2.2.2.1, u_1.2.2.2.2.1, u_1.2.2.2.2.2.1, u_1.2.2.2.2.2.2.1, u_1.2.2.2.2.2.2.2.1, u_1.2.2.2.2.2.2.2.2.1, u_1.2.2.2.2.2.2.2.2.2.1, u_1.2.2.2.2.2.2.2.2.2.2, ss_LF o_p4 (vp_updL (os_L o_p4) (Int32.toNatClampNeg (0 : Int32)) (Int32.toInt64 u_1.2.1))) else none) else (if u_1.1 = 3 then some ((1 : Int32), u_1.2.2.1, u_1.2.2.2.1, u_1.2.2.2.2.1, u_1.2.2.2.2.2.1, u_1.2.2.2.2.2.2.1, u_1.2.2.2.2.2.2.2.1, u_1.2.2.2.2.2.2.2.2.1, u_1.2.2.2.2.2.2.2.2.2.1, u_1.2.2.2.2.2.2.2.2.2.2, o_p4) else (if u_1.1 = 2 then some ((2 : Int32), u_1.2.2.1, u_1.2.2.2.1, u_1.2.2.2.2.1, u_1.2.2.2.2.2.1, u_1.2.2.2.2.2.2.1, u_1.2.2.2.2.2.2.2.1, u_1.2.2.2.2.2.2.2.2.1, u_1.2.2.2.2.2.2.2.2.2.1, u_1.2.2.2.2.2.2.2.2.2.2, o_p4) else none))))
set_option maxHeartbeats 4000000 in
set_option maxRecDepth 100000 in
theorem mm_L_setHeight (l : Launch) (hst : l.stackTraces = false) (zz : Nat → Nat → Nat) (D : va_G) (kA : Nat → ClassId) (N : Nat) (g : Nat → Nat → Nat) (q_p4 : Nat → Nat) (o_p0 : os_T) (o_p0_panel : os_T) (o_p0_history : os_T) (o_p0_history_panels0 : os_T) (o_p0_history_panels1 : os_T) (o_p0_history_panels2 : os_T) (o_p0_history_panels3 : os_T) (o_p0_history_panels4 : os_T) (o_p0_history_panels5 : os_T) (o_p0_history_panels6 : os_T) (o_p4 : os_T) (a1 : Int32) (a2 : Int32) (a3 : Int32) (out : (Int32 × os_T × os_T × os_T × os_T × os_T × os_T × os_T × os_T × os_T × os_T)) (hf : ff_L_setHeight N o_p0 o_p0_panel o_p0_history o_p0_history_panels0 o_p0_history_panels1 o_p0_history_panels2 o_p0_history_panels3 o_p0_history_panels4 o_p0_history_panels5 o_p0_history_panels6 o_p4 a1 a2 a3 = some out) : mh_C l zz D kA yL_setHeight wsL_setHeight ({ frames := 8, cells := 2, slots := 12, locals := 147 } : Room) [.ref ((g 0) 0), .int a1, .int a2, .int a3, .ref (q_p4 0)] (ce_X12 kA g o_p0 ++ (ce_X5 kA (g 1) o_p0_panel ++ (ce_X3 kA (g 5) (fun k => g (6 + k)) o_p0_history ++ (ce_X5 kA (g 6) o_p0_history_panels0 ++ (ce_X5 kA (g 7) o_p0_history_panels1 ++ (ce_X5 kA (g 8) o_p0_history_panels2 ++ (ce_X5 kA (g 9) o_p0_history_panels3 ++ (ce_X5 kA (g 10) o_p0_history_panels4 ++ (ce_X5 kA (g 11) o_p0_history_panels5 ++ (ce_X5 kA (g 12) o_p0_history_panels6 ++ (ce_XJ kA q_p4 o_p4))))))))))) (some (.int out.1)) (ce_X12 kA g o_p0 ++ (ce_X5 kA (g 1) out.2.1 ++ (ce_X3 kA (g 5) (fun k => g (6 + k)) out.2.2.1 ++ (ce_X5 kA (g 6) out.2.2.2.1 ++ (ce_X5 kA (g 7) out.2.2.2.2.1 ++ (ce_X5 kA (g 8) out.2.2.2.2.2.1 ++ (ce_X5 kA (g 9) out.2.2.2.2.2.2.1 ++ (ce_X5 kA (g 10) out.2.2.2.2.2.2.2.1 ++ (ce_X5 kA (g 11) out.2.2.2.2.2.2.2.2.1 ++ (ce_X5 kA (g 12) out.2.2.2.2.2.2.2.2.2.1 ++ (ce_XJ kA q_p4 out.2.2.2.2.2.2.2.2.2.2))))))))))) := by
  refine mh_of (hh := [(0, 12, 15, 35), (0, 12, 19, 19)]) (cc := cL_setHeight) (maxL := 6) (ret := (some .int)) (by decide) rfl (Nat.le_of_ble_eq_true rfl) ?_
  intro p e s m below meth c A B hex hZ hD hP hS ls hl
  obtain ⟨hx, hb, hr, hlk, hml, hown, hts, hK, hA, hnm⟩ := B
  have hown : s.vm.findClass RL = some m.cls := hown
  have hl : lv_has ls 6 [(0, .ref ((g 0) 0)), (1, .int a1), (2, .int a2), (3, .int a3), (4, .ref (q_p4 0))] := hl
  unfold ff_L_setHeight at hf
  refine lv_aload hx hb dL_setHeight_0 (lv_at hl 4 rfl) ?_
  refine lv_iconst (v := 0) hx hb dL_setHeight_2 (by decide) ?_
  refine lv_aload_n hx hb dL_setHeight_3 rfl (lv_at hl 0 rfl) ?_
  refine lv_iload_n hx hb dL_setHeight_4 rfl (lv_at hl 1 rfl) ?_
  refine lv_iload_n hx hb dL_setHeight_5 rfl (lv_at hl 2 rfl) ?_
  refine lv_iload_n hx hb dL_setHeight_6 rfl (lv_at hl 3 rfl) ?_
  obtain ⟨u_1, he_2, hf⟩ := os_bd hf
  refine mx_callV ⟨hx, hb, hml, hown, hts⟩ (mm_X12_setHeight l hst zz D kA N g o_p0 o_p0_panel o_p0_history o_p0_history_panels0 o_p0_history_panels1 o_p0_history_panels2 o_p0_history_panels3 o_p0_history_panels4 o_p0_history_panels5 o_p0_history_panels6 a1 a2 a3 u_1 he_2) (cwV 3 hts gL_setHeight_X12_setHeight rfl rfl rfl (by decide +kernel) ⟨Nat.le_of_ble_eq_true rfl, Nat.le_of_ble_eq_true rfl⟩) (wc := (ce_X12 kA g o_p0 ++ (ce_X5 kA (g 1) o_p0_panel ++ (ce_X3 kA (g 5) (fun k => g (6 + k)) o_p0_history ++ (ce_X5 kA (g 6) o_p0_history_panels0 ++ (ce_X5 kA (g 7) o_p0_history_panels1 ++ (ce_X5 kA (g 8) o_p0_history_panels2 ++ (ce_X5 kA (g 9) o_p0_history_panels3 ++ (ce_X5 kA (g 10) o_p0_history_panels4 ++ (ce_X5 kA (g 11) o_p0_history_panels5 ++ (ce_X5 kA (g 12) o_p0_history_panels6))))))))))) (ci := 8) (q0 := 0) rfl rfl rfl hl.1 (As := [.int a1, .int a2, .int a3]) (rest := [.int (0 : Int32), .ref (q_p4 0)]) rfl (Nat.le_of_ble_eq_true rfl) dL_setHeight_7 ⟨Nat.le_of_ble_eq_true rfl, Nat.le_of_ble_eq_true rfl⟩ hK hP hD hS hA hZ [0, 1, 2, 3, 4, 5, 6, 7, 8, 9, 10, 11, 12, 13, 14, 15, 16, 17, 18, 19, 20, 21, 22, 23, 24, 25, 26, 27, 28, 29, 30, 31, 32, 33, 34, 35, 36, 37] [38] [1, 2, 3, 4, 5, 6, 7, 8, 9, 10, 11, 12, 13, 14, 15, 16, 17, 18, 19, 20, 21, 22, 23, 24, 25, 26, 27, 28, 29, 30, 31, 32, 33, 34, 35, 36, 37, 38, 0] rfl (by decide) rfl (by decide) (by decide) rfl (by decide) (wr := (ce_XJ kA q_p4 o_p4)) (w2 := (ce_X12 kA g o_p0 ++ (ce_X5 kA (g 1) u_1.2.2.1 ++ (ce_X3 kA (g 5) (fun k => g (6 + k)) u_1.2.2.2.1 ++ (ce_X5 kA (g 6) u_1.2.2.2.2.1 ++ (ce_X5 kA (g 7) u_1.2.2.2.2.2.1 ++ (ce_X5 kA (g 8) u_1.2.2.2.2.2.2.1 ++ (ce_X5 kA (g 9) u_1.2.2.2.2.2.2.2.1 ++ (ce_X5 kA (g 10) u_1.2.2.2.2.2.2.2.2.1 ++ (ce_X5 kA (g 11) u_1.2.2.2.2.2.2.2.2.2.1 ++ (ce_X5 kA (g 12) u_1.2.2.2.2.2.2.2.2.2.2 ++ (ce_XJ kA q_p4 o_p4)))))))))))) (fun hx9 H locs q9 ce hP hD hS h91 h92 h93 => ?_) (fun hx9 H locs hP hD hS => ?_)
  · rw [if_neg hx9] at hf
    by_cases hy_4 : u_1.1 = 3
    · rw [if_pos hy_4] at hf
      rw [hy_4] at h93
      refine vx_catch (E := mx_n 3) (name := "java/lang/IndexOutOfBoundsException") hown [] (⟨0, 12, 15, 35⟩ : ExceptionTableEntry) [(⟨0, 12, 19, 19⟩ : ExceptionTableEntry)] hex (fun z h => nomatch h) rfl (by decide) (hts (Cond.classLink RL 35 "java/lang/IndexOutOfBoundsException") (List.mem_of_getElem? (i := 1) rfl)) (va_Nw.use rfl (hZ.2.2.1.2.2.2.1 3)) h91 h92 h93 ?_
      have hP : va_P D vwCl (ce_X12 kA g o_p0 ++ (ce_X5 kA (g 1) u_1.2.2.1 ++ (ce_X3 kA (g 5) (fun k => g (6 + k)) u_1.2.2.2.1 ++ (ce_X5 kA (g 6) u_1.2.2.2.2.1 ++ (ce_X5 kA (g 7) u_1.2.2.2.2.2.1 ++ (ce_X5 kA (g 8) u_1.2.2.2.2.2.2.1 ++ (ce_X5 kA (g 9) u_1.2.2.2.2.2.2.2.1 ++ (ce_X5 kA (g 10) u_1.2.2.2.2.2.2.2.2.1 ++ (ce_X5 kA (g 11) u_1.2.2.2.2.2.2.2.2.2.1 ++ (ce_X5 kA (g 12) u_1.2.2.2.2.2.2.2.2.2.2 ++ (ce_XJ kA q_p4 o_p4))))))))))) H := hP
      refine lv_astore (lv' := [(5, .ref q9), (0, .ref ((g 0) 0)), (1, .int a1), (2, .int a2), (3, .int a3), (4, .ref (q_p4 0))]) hx hb dL_setHeight_15 hl (by decide) rfl (fun ls hl => ?_)
      refine lv_iconst (v := 1) hx hb dL_setHeight_17 (by decide) ?_
      rw [← Option.some.inj hf]
      exact W.widen (k := 2) (n := 12) (Nat.le_of_ble_eq_true rfl) (Nat.le_of_ble_eq_true rfl) (mc_reti hx hb hr hlk hP hK hD hS dL_setHeight_18)
    rw [if_neg hy_4] at hf
    by_cases hy_5 : u_1.1 = 2
    · rw [if_pos hy_5] at hf
      rw [hy_5] at h93
      refine vx_catch (E := mx_n 2) (name := "java/lang/IllegalArgumentException") hown [(⟨0, 12, 15, 35⟩ : ExceptionTableEntry)] (⟨0, 12, 19, 19⟩ : ExceptionTableEntry) [] hex (fun z h => by rcases List.mem_singleton.mp h with rfl; exact Or.inr ⟨by decide, "java/lang/IndexOutOfBoundsException", hts (Cond.classLink RL 35 "java/lang/IndexOutOfBoundsException") (List.mem_of_getElem? (i := 1) rfl), hZ.2.2.1.2.2.2.2 2 3 (by decide)⟩) rfl (by decide) (hts (Cond.classLink RL 19 "java/lang/IllegalArgumentException") (List.mem_of_getElem? (i := 2) rfl)) (va_Nw.use rfl (hZ.2.2.1.2.2.2.1 2)) h91 h92 h93 ?_
      have hP : va_P D vwCl (ce_X12 kA g o_p0 ++ (ce_X5 kA (g 1) u_1.2.2.1 ++ (ce_X3 kA (g 5) (fun k => g (6 + k)) u_1.2.2.2.1 ++ (ce_X5 kA (g 6) u_1.2.2.2.2.1 ++ (ce_X5 kA (g 7) u_1.2.2.2.2.2.1 ++ (ce_X5 kA (g 8) u_1.2.2.2.2.2.2.1 ++ (ce_X5 kA (g 9) u_1.2.2.2.2.2.2.2.1 ++ (ce_X5 kA (g 10) u_1.2.2.2.2.2.2.2.2.1 ++ (ce_X5 kA (g 11) u_1.2.2.2.2.2.2.2.2.2.1 ++ (ce_X5 kA (g 12) u_1.2.2.2.2.2.2.2.2.2.2 ++ (ce_XJ kA q_p4 o_p4))))))))))) H := hP
      refine lv_astore (lv' := [(5, .ref q9), (0, .ref ((g 0) 0)), (1, .int a1), (2, .int a2), (3, .int a3), (4, .ref (q_p4 0))]) hx hb dL_setHeight_19 hl (by decide) rfl (fun ls hl => ?_)
      refine lv_iconst (v := 2) hx hb dL_setHeight_21 (by decide) ?_
      rw [← Option.some.inj hf]
      exact W.widen (k := 2) (n := 12) (Nat.le_of_ble_eq_true rfl) (Nat.le_of_ble_eq_true rfl) (mc_reti hx hb hr hlk hP hK hD hS dL_setHeight_22)
    rw [if_neg hy_5] at hf
    cases hf
  · rw [if_pos hx9] at hf
    refine W.widen (k := 2) (n := 12) (Nat.le_of_ble_eq_true rfl) (Nat.le_of_ble_eq_true rfl) ?_
    have hP : va_P D vwCl (ce_X12 kA g o_p0 ++ (ce_X5 kA (g 1) u_1.2.2.1 ++ (ce_X3 kA (g 5) (fun k => g (6 + k)) u_1.2.2.2.1 ++ (ce_X5 kA (g 6) u_1.2.2.2.2.1 ++ (ce_X5 kA (g 7) u_1.2.2.2.2.2.1 ++ (ce_X5 kA (g 8) u_1.2.2.2.2.2.2.1 ++ (ce_X5 kA (g 9) u_1.2.2.2.2.2.2.2.1 ++ (ce_X5 kA (g 10) u_1.2.2.2.2.2.2.2.2.1 ++ (ce_X5 kA (g 11) u_1.2.2.2.2.2.2.2.2.2.1 ++ (ce_X5 kA (g 12) u_1.2.2.2.2.2.2.2.2.2.2 ++ (ce_XJ kA q_p4 o_p4))))))))))) H := hP
    refine lv_i2l hx hb dL_setHeight_10 rfl ?_
    obtain ⟨hi_3, hf⟩ := os_if hf
    refine va_last hx hb hK hP hD hS 38 4 rfl rfl hi_3 dL_setHeight_11 (fun H locs hP hD hS => ?_)
    have hP : va_P D vwCl (ce_X12 kA g o_p0 ++ (ce_X5 kA (g 1) u_1.2.2.1 ++ (ce_X3 kA (g 5) (fun k => g (6 + k)) u_1.2.2.2.1 ++ (ce_X5 kA (g 6) u_1.2.2.2.2.1 ++ (ce_X5 kA (g 7) u_1.2.2.2.2.2.1 ++ (ce_X5 kA (g 8) u_1.2.2.2.2.2.2.1 ++ (ce_X5 kA (g 9) u_1.2.2.2.2.2.2.2.1 ++ (ce_X5 kA (g 10) u_1.2.2.2.2.2.2.2.2.1 ++ (ce_X5 kA (g 11) u_1.2.2.2.2.2.2.2.2.2.1 ++ (ce_X5 kA (g 12) u_1.2.2.2.2.2.2.2.2.2.2 ++ (ce_XJ kA q_p4 (ss_LF o_p4 (vp_updL (os_L o_p4) (Int32.toNatClampNeg (0 : Int32)) (Int32.toInt64 u_1.2.1)))))))))))))) H := hP
    have hD : va_D A (ce_X12 kA g o_p0 ++ (ce_X5 kA (g 1) u_1.2.2.1 ++ (ce_X3 kA (g 5) (fun k => g (6 + k)) u_1.2.2.2.1 ++ (ce_X5 kA (g 6) u_1.2.2.2.2.1 ++ (ce_X5 kA (g 7) u_1.2.2.2.2.2.1 ++ (ce_X5 kA (g 8) u_1.2.2.2.2.2.2.1 ++ (ce_X5 kA (g 9) u_1.2.2.2.2.2.2.2.1 ++ (ce_X5 kA (g 10) u_1.2.2.2.2.2.2.2.2.1 ++ (ce_X5 kA (g 11) u_1.2.2.2.2.2.2.2.2.2.1 ++ (ce_X5 kA (g 12) u_1.2.2.2.2.2.2.2.2.2.2 ++ (ce_XJ kA q_p4 (ss_LF o_p4 (vp_updL (os_L o_p4) (Int32.toNatClampNeg (0 : Int32)) (Int32.toInt64 u_1.2.1)))))))))))))) := hD
    refine lv_goto (tgt := 23) hx hb dL_setHeight_12 (by decide) ?_
    refine lv_iconst (v := 0) hx hb dL_setHeight_23 (by decide) ?_
    rw [← Option.some.inj hf]
    exact W.widen (k := 2) (n := 12) (Nat.le_of_ble_eq_true rfl) (Nat.le_of_ble_eq_true rfl) (mc_reti hx hb hr hlk hP hK hD hS dL_setHeight_24)
def ff_L_fill (N : Nat) (o_p0 : os_T) (o_p0_panel : os_T) (o_p0_history : os_T) (o_p0_history_panels0 : os_T) (o_p0_history_panels1 : os_T) (o_p0_history_panels2 : os_T) (o_p0_history_panels3 : os_T) (o_p0_history_panels4 : os_T) (o_p0_history_panels5 : os_T) (o_p0_history_panels6 : os_T) (o_p6 : os_T) (a1 : Int32) (a2 : Int32) (a3 : Int32) (a4 : Int32) (a5 : Int32) : Option (Int32 × os_T × os_T × os_T × os_T × os_T × os_T × os_T × os_T × os_T × os_T) :=
  ((ff_X12_fill N o_p0 o_p0_panel o_p0_history o_p0_history_panels0 o_p0_history_panels1 o_p0_history_panels2 o_p0_history_panels3 o_p0_history_panels4 o_p0_history_panels5 o_p0_history_panels6 a1 a2 a3 a4 a5).bind fun u_1 => (if u_1.1 = 0 then (if os_in (0 : Int32) 1 then some ((0 : Int32), u_1.2.2.1, u_1.2.2.2.1, u_1.2.2.2.2.1, u_1.2.2.2.2.2.1, u_1.2.2.2.2.2.2.1, u_1.2.2.2.2.2.2.2.1, u_1.2.2.2.2.2.2.2.2.1, u_1.2.2.2.2.2.2.2.2.2.1, u_1.2.2.2.2.2.2.2.2.2.2, ss_LF o_p6 (vp_updL (os_L o_p6) (Int32.toNatClampNeg (0 : Int32)) (Int32.toInt64 u_1.2.1))) else none) else (if u_1.1 = 3 then some ((1 : Int32), u_1.2.2.1, u_1.2.2.2.1, u_1.2.2.2.2.1, u_1.2.2.2.2.2.1, u_1.2.2.2.2.2.2.1, u_1.2.2.2.2.2.2.2.1, u_1.2.2.2.2.2.2.2.2.1, u_1.2.2.2.2.2.2.2.2.2.1, u_1.2.2.2.2.2.2.2.2.2.2, o_p6) else (if u_1.1 = 2 then some ((2 : Int32), u_1.2.2.1, u_1.2.2.2.1, u_1.2.2.2.2.1, u_1.2.2.2.2.2.1, u_1.2.2.2.2.2.2.1, u_1.2.2.2.2.2.2.2.1, u_1.2.2.2.2.2.2.2.2.1, u_1.2.2.2.2.2.2.2.2.2.1, u_1.2.2.2.2.2.2.2.2.2.2, o_p6) else none))))
set_option maxHeartbeats 4000000 in
set_option maxRecDepth 100000 in
theorem mm_L_fill (l : Launch) (hst : l.stackTraces = false) (zz : Nat → Nat → Nat) (D : va_G) (kA : Nat → ClassId) (N : Nat) (g : Nat → Nat → Nat) (q_p6 : Nat → Nat) (o_p0 : os_T) (o_p0_panel : os_T) (o_p0_history : os_T) (o_p0_history_panels0 : os_T) (o_p0_history_panels1 : os_T) (o_p0_history_panels2 : os_T) (o_p0_history_panels3 : os_T) (o_p0_history_panels4 : os_T) (o_p0_history_panels5 : os_T) (o_p0_history_panels6 : os_T) (o_p6 : os_T) (a1 : Int32) (a2 : Int32) (a3 : Int32) (a4 : Int32) (a5 : Int32) (out : (Int32 × os_T × os_T × os_T × os_T × os_T × os_T × os_T × os_T × os_T × os_T)) (hf : ff_L_fill N o_p0 o_p0_panel o_p0_history o_p0_history_panels0 o_p0_history_panels1 o_p0_history_panels2 o_p0_history_panels3 o_p0_history_panels4 o_p0_history_panels5 o_p0_history_panels6 o_p6 a1 a2 a3 a4 a5 = some out) : mh_C l zz D kA yL_fill wsL_fill ({ frames := 8, cells := 3, slots := 18, locals := 149 } : Room) [.ref ((g 0) 0), .int a1, .int a2, .int a3, .int a4, .int a5, .ref (q_p6 0)] (ce_X12 kA g o_p0 ++ (ce_X5 kA (g 1) o_p0_panel ++ (ce_X3 kA (g 5) (fun k => g (6 + k)) o_p0_history ++ (ce_X5 kA (g 6) o_p0_history_panels0 ++ (ce_X5 kA (g 7) o_p0_history_panels1 ++ (ce_X5 kA (g 8) o_p0_history_panels2 ++ (ce_X5 kA (g 9) o_p0_history_panels3 ++ (ce_X5 kA (g 10) o_p0_history_panels4 ++ (ce_X5 kA (g 11) o_p0_history_panels5 ++ (ce_X5 kA (g 12) o_p0_history_panels6 ++ (ce_XJ kA q_p6 o_p6))))))))))) (some (.int out.1)) (ce_X12 kA g o_p0 ++ (ce_X5 kA (g 1) out.2.1 ++ (ce_X3 kA (g 5) (fun k => g (6 + k)) out.2.2.1 ++ (ce_X5 kA (g 6) out.2.2.2.1 ++ (ce_X5 kA (g 7) out.2.2.2.2.1 ++ (ce_X5 kA (g 8) out.2.2.2.2.2.1 ++ (ce_X5 kA (g 9) out.2.2.2.2.2.2.1 ++ (ce_X5 kA (g 10) out.2.2.2.2.2.2.2.1 ++ (ce_X5 kA (g 11) out.2.2.2.2.2.2.2.2.1 ++ (ce_X5 kA (g 12) out.2.2.2.2.2.2.2.2.2.1 ++ (ce_XJ kA q_p6 out.2.2.2.2.2.2.2.2.2.2))))))))))) := by
  refine mh_of (hh := [(0, 16, 19, 35), (0, 16, 23, 19)]) (cc := cL_fill) (maxL := 8) (ret := (some .int)) (by decide) rfl (Nat.le_of_ble_eq_true rfl) ?_
  intro p e s m below meth c A B hex hZ hD hP hS ls hl
  obtain ⟨hx, hb, hr, hlk, hml, hown, hts, hK, hA, hnm⟩ := B
  have hown : s.vm.findClass RL = some m.cls := hown
  have hl : lv_has ls 8 [(0, .ref ((g 0) 0)), (1, .int a1), (2, .int a2), (3, .int a3), (4, .int a4), (5, .int a5), (6, .ref (q_p6 0))] := hl
  unfold ff_L_fill at hf
  refine lv_aload hx hb dL_fill_0 (lv_at hl 6 rfl) ?_
  refine lv_iconst (v := 0) hx hb dL_fill_2 (by decide) ?_
  refine lv_aload_n hx hb dL_fill_3 rfl (lv_at hl 0 rfl) ?_
  refine lv_iload_n hx hb dL_fill_4 rfl (lv_at hl 1 rfl) ?_
  refine lv_iload_n hx hb dL_fill_5 rfl (lv_at hl 2 rfl) ?_
  refine lv_iload_n hx hb dL_fill_6 rfl (lv_at hl 3 rfl) ?_
  refine lv_iload hx hb dL_fill_7 (lv_at hl 4 rfl) ?_
  refine lv_iload hx hb dL_fill_9 (lv_at hl 5 rfl) ?_
  obtain ⟨u_1, he_2, hf⟩ := os_bd hf
  refine mx_callV ⟨hx, hb, hml, hown, hts⟩ (mm_X12_fill l hst zz D kA N g o_p0 o_p0_panel o_p0_history o_p0_history_panels0 o_p0_history_panels1 o_p0_history_panels2 o_p0_history_panels3 o_p0_history_panels4 o_p0_history_panels5 o_p0_history_panels6 a1 a2 a3 a4 a5 u_1 he_2) (cwV 5 hts gL_fill_X12_fill rfl rfl rfl (by decide +kernel) ⟨Nat.le_of_ble_eq_true rfl, Nat.le_of_ble_eq_true rfl⟩) (wc := (ce_X12 kA g o_p0 ++ (ce_X5 kA (g 1) o_p0_panel ++ (ce_X3 kA (g 5) (fun k => g (6 + k)) o_p0_history ++ (ce_X5 kA (g 6) o_p0_history_panels0 ++ (ce_X5 kA (g 7) o_p0_history_panels1 ++ (ce_X5 kA (g 8) o_p0_history_panels2 ++ (ce_X5 kA (g 9) o_p0_history_panels3 ++ (ce_X5 kA (g 10) o_p0_history_panels4 ++ (ce_X5 kA (g 11) o_p0_history_panels5 ++ (ce_X5 kA (g 12) o_p0_history_panels6))))))))))) (ci := 8) (q0 := 0) rfl rfl rfl hl.1 (As := [.int a1, .int a2, .int a3, .int a4, .int a5]) (rest := [.int (0 : Int32), .ref (q_p6 0)]) rfl (Nat.le_of_ble_eq_true rfl) dL_fill_11 ⟨Nat.le_of_ble_eq_true rfl, Nat.le_of_ble_eq_true rfl⟩ hK hP hD hS hA hZ [0, 1, 2, 3, 4, 5, 6, 7, 8, 9, 10, 11, 12, 13, 14, 15, 16, 17, 18, 19, 20, 21, 22, 23, 24, 25, 26, 27, 28, 29, 30, 31, 32, 33, 34, 35, 36, 37] [38] [1, 2, 3, 4, 5, 6, 7, 8, 9, 10, 11, 12, 13, 14, 15, 16, 17, 18, 19, 20, 21, 22, 23, 24, 25, 26, 27, 28, 29, 30, 31, 32, 33, 34, 35, 36, 37, 38, 0] rfl (by decide) rfl (by decide) (by decide) rfl (by decide) (wr := (ce_XJ kA q_p6 o_p6)) (w2 := (ce_X12 kA g o_p0 ++ (ce_X5 kA (g 1) u_1.2.2.1 ++ (ce_X3 kA (g 5) (fun k => g (6 + k)) u_1.2.2.2.1 ++ (ce_X5 kA (g 6) u_1.2.2.2.2.1 ++ (ce_X5 kA (g 7) u_1.2.2.2.2.2.1 ++ (ce_X5 kA (g 8) u_1.2.2.2.2.2.2.1 ++ (ce_X5 kA (g 9) u_1.2.2.2.2.2.2.2.1 ++ (ce_X5 kA (g 10) u_1.2.2.2.2.2.2.2.2.1 ++ (ce_X5 kA (g 11) u_1.2.2.2.2.2.2.2.2.2.1 ++ (ce_X5 kA (g 12) u_1.2.2.2.2.2.2.2.2.2.2 ++ (ce_XJ kA q_p6 o_p6)))))))))))) (fun hx9 H locs q9 ce hP hD hS h91 h92 h93 => ?_) (fun hx9 H locs hP hD hS => ?_)
  · rw [if_neg hx9] at hf
    by_cases hy_4 : u_1.1 = 3
    · rw [if_pos hy_4] at hf
      rw [hy_4] at h93
      refine vx_catch (E := mx_n 3) (name := "java/lang/IndexOutOfBoundsException") hown [] (⟨0, 16, 19, 35⟩ : ExceptionTableEntry) [(⟨0, 16, 23, 19⟩ : ExceptionTableEntry)] hex (fun z h => nomatch h) rfl (by decide) (hts (Cond.classLink RL 35 "java/lang/IndexOutOfBoundsException") (List.mem_of_getElem? (i := 1) rfl)) (va_Nw.use rfl (hZ.2.2.1.2.2.2.1 3)) h91 h92 h93 ?_
      have hP : va_P D vwCl (ce_X12 kA g o_p0 ++ (ce_X5 kA (g 1) u_1.2.2.1 ++ (ce_X3 kA (g 5) (fun k => g (6 + k)) u_1.2.2.2.1 ++ (ce_X5 kA (g 6) u_1.2.2.2.2.1 ++ (ce_X5 kA (g 7) u_1.2.2.2.2.2.1 ++ (ce_X5 kA (g 8) u_1.2.2.2.2.2.2.1 ++ (ce_X5 kA (g 9) u_1.2.2.2.2.2.2.2.1 ++ (ce_X5 kA (g 10) u_1.2.2.2.2.2.2.2.2.1 ++ (ce_X5 kA (g 11) u_1.2.2.2.2.2.2.2.2.2.1 ++ (ce_X5 kA (g 12) u_1.2.2.2.2.2.2.2.2.2.2 ++ (ce_XJ kA q_p6 o_p6))))))))))) H := hP
      refine lv_astore (lv' := [(7, .ref q9), (0, .ref ((g 0) 0)), (1, .int a1), (2, .int a2), (3, .int a3), (4, .int a4), (5, .int a5), (6, .ref (q_p6 0))]) hx hb dL_fill_19 hl (by decide) rfl (fun ls hl => ?_)
      refine lv_iconst (v := 1) hx hb dL_fill_21 (by decide) ?_
      rw [← Option.some.inj hf]
      exact W.widen (k := 3) (n := 18) (Nat.le_of_ble_eq_true rfl) (Nat.le_of_ble_eq_true rfl) (mc_reti hx hb hr hlk hP hK hD hS dL_fill_22)
    rw [if_neg hy_4] at hf
    by_cases hy_5 : u_1.1 = 2
    · rw [if_pos hy_5] at hf
      rw [hy_5] at h93
      refine vx_catch (E := mx_n 2) (name := "java/lang/IllegalArgumentException") hown [(⟨0, 16, 19, 35⟩ : ExceptionTableEntry)] (⟨0, 16, 23, 19⟩ : ExceptionTableEntry) [] hex (fun z h => by rcases List.mem_singleton.mp h with rfl; exact Or.inr ⟨by decide, "java/lang/IndexOutOfBoundsException", hts (Cond.classLink RL 35 "java/lang/IndexOutOfBoundsException") (List.mem_of_getElem? (i := 1) rfl), hZ.2.2.1.2.2.2.2 2 3 (by decide)⟩) rfl (by decide) (hts (Cond.classLink RL 19 "java/lang/IllegalArgumentException") (List.mem_of_getElem? (i := 2) rfl)) (va_Nw.use rfl (hZ.2.2.1.2.2.2.1 2)) h91 h92 h93 ?_
      have hP : va_P D vwCl (ce_X12 kA g o_p0 ++ (ce_X5 kA (g 1) u_1.2.2.1 ++ (ce_X3 kA (g 5) (fun k => g (6 + k)) u_1.2.2.2.1 ++ (ce_X5 kA (g 6) u_1.2.2.2.2.1 ++ (ce_X5 kA (g 7) u_1.2.2.2.2.2.1 ++ (ce_X5 kA (g 8) u_1.2.2.2.2.2.2.1 ++ (ce_X5 kA (g 9) u_1.2.2.2.2.2.2.2.1 ++ (ce_X5 kA (g 10) u_1.2.2.2.2.2.2.2.2.1 ++ (ce_X5 kA (g 11) u_1.2.2.2.2.2.2.2.2.2.1 ++ (ce_X5 kA (g 12) u_1.2.2.2.2.2.2.2.2.2.2 ++ (ce_XJ kA q_p6 o_p6))))))))))) H := hP
      refine lv_astore (lv' := [(7, .ref q9), (0, .ref ((g 0) 0)), (1, .int a1), (2, .int a2), (3, .int a3), (4, .int a4), (5, .int a5), (6, .ref (q_p6 0))]) hx hb dL_fill_23 hl (by decide) rfl (fun ls hl => ?_)
      refine lv_iconst (v := 2) hx hb dL_fill_25 (by decide) ?_
      rw [← Option.some.inj hf]
      exact W.widen (k := 3) (n := 18) (Nat.le_of_ble_eq_true rfl) (Nat.le_of_ble_eq_true rfl) (mc_reti hx hb hr hlk hP hK hD hS dL_fill_26)
    rw [if_neg hy_5] at hf
    cases hf
  · rw [if_pos hx9] at hf
    refine W.widen (k := 3) (n := 18) (Nat.le_of_ble_eq_true rfl) (Nat.le_of_ble_eq_true rfl) ?_
    have hP : va_P D vwCl (ce_X12 kA g o_p0 ++ (ce_X5 kA (g 1) u_1.2.2.1 ++ (ce_X3 kA (g 5) (fun k => g (6 + k)) u_1.2.2.2.1 ++ (ce_X5 kA (g 6) u_1.2.2.2.2.1 ++ (ce_X5 kA (g 7) u_1.2.2.2.2.2.1 ++ (ce_X5 kA (g 8) u_1.2.2.2.2.2.2.1 ++ (ce_X5 kA (g 9) u_1.2.2.2.2.2.2.2.1 ++ (ce_X5 kA (g 10) u_1.2.2.2.2.2.2.2.2.1 ++ (ce_X5 kA (g 11) u_1.2.2.2.2.2.2.2.2.2.1 ++ (ce_X5 kA (g 12) u_1.2.2.2.2.2.2.2.2.2.2 ++ (ce_XJ kA q_p6 o_p6))))))))))) H := hP
    refine lv_i2l hx hb dL_fill_14 rfl ?_
    obtain ⟨hi_3, hf⟩ := os_if hf
    refine va_last hx hb hK hP hD hS 38 4 rfl rfl hi_3 dL_fill_15 (fun H locs hP hD hS => ?_)
    have hP : va_P D vwCl (ce_X12 kA g o_p0 ++ (ce_X5 kA (g 1) u_1.2.2.1 ++ (ce_X3 kA (g 5) (fun k => g (6 + k)) u_1.2.2.2.1 ++ (ce_X5 kA (g 6) u_1.2.2.2.2.1 ++ (ce_X5 kA (g 7) u_1.2.2.2.2.2.1 ++ (ce_X5 kA (g 8) u_1.2.2.2.2.2.2.1 ++ (ce_X5 kA (g 9) u_1.2.2.2.2.2.2.2.1 ++ (ce_X5 kA (g 10) u_1.2.2.2.2.2.2.2.2.1 ++ (ce_X5 kA (g 11) u_1.2.2.2.2.2.2.2.2.2.1 ++ (ce_X5 kA (g 12) u_1.2.2.2.2.2.2.2.2.2.2 ++ (ce_XJ kA q_p6 (ss_LF o_p6 (vp_updL (os_L o_p6) (Int32.toNatClampNeg (0 : Int32)) (Int32.toInt64 u_1.2.1)))))))))))))) H := hP
    have hD : va_D A (ce_X12 kA g o_p0 ++ (ce_X5 kA (g 1) u_1.2.2.1 ++ (ce_X3 kA (g 5) (fun k => g (6 + k)) u_1.2.2.2.1 ++ (ce_X5 kA (g 6) u_1.2.2.2.2.1 ++ (ce_X5 kA (g 7) u_1.2.2.2.2.2.1 ++ (ce_X5 kA (g 8) u_1.2.2.2.2.2.2.1 ++ (ce_X5 kA (g 9) u_1.2.2.2.2.2.2.2.1 ++ (ce_X5 kA (g 10) u_1.2.2.2.2.2.2.2.2.1 ++ (ce_X5 kA (g 11) u_1.2.2.2.2.2.2.2.2.2.1 ++ (ce_X5 kA (g 12) u_1.2.2.2.2.2.2.2.2.2.2 ++ (ce_XJ kA q_p6 (ss_LF o_p6 (vp_updL (os_L o_p6) (Int32.toNatClampNeg (0 : Int32)) (Int32.toInt64 u_1.2.1)))))))))))))) := hD
    refine lv_goto (tgt := 27) hx hb dL_fill_16 (by decide) ?_
    refine lv_iconst (v := 0) hx hb dL_fill_27 (by decide) ?_
    rw [← Option.some.inj hf]
    exact W.widen (k := 3) (n := 18) (Nat.le_of_ble_eq_true rfl) (Nat.le_of_ble_eq_true rfl) (mc_reti hx hb hr hlk hP hK hD hS dL_fill_28)
def ff_L_lighten (N : Nat) (o_p0 : os_T) (o_p0_panel : os_T) (o_p0_history : os_T) (o_p0_history_panels0 : os_T) (o_p0_history_panels1 : os_T) (o_p0_history_panels2 : os_T) (o_p0_history_panels3 : os_T) (o_p0_history_panels4 : os_T) (o_p0_history_panels5 : os_T) (o_p0_history_panels6 : os_T) (o_p2 : os_T) (a1 : Int32) : Option (Int32 × os_T × os_T × os_T × os_T × os_T × os_T × os_T × os_T × os_T × os_T) :=
  ((ff_X12_lighten N o_p0 o_p0_panel o_p0_history o_p0_history_panels0 o_p0_history_panels1 o_p0_history_panels2 o_p0_history_panels3 o_p0_history_panels4 o_p0_history_panels5 o_p0_history_panels6 a1).bind fun u_1 => (if u_1.1 = 0 then (if os_in (0 : Int32) 1 then some ((0 : Int32), u_1.2.2.1, u_1.2.2.2.1, u_1.2.2.2.2.1, u_1.2.2.2.2.2.1, u_1.2.2.2.2.2.2.1, u_1.2.2.2.2.2.2.2.1, u_1.2.2.2.2.2.2.2.2.1, u_1.2.2.2.2.2.2.2.2.2.1, u_1.2.2.2.2.2.2.2.2.2.2, ss_LF o_p2 (vp_updL (os_L o_p2) (Int32.toNatClampNeg (0 : Int32)) (Int32.toInt64 u_1.2.1))) else none) else (if u_1.1 = 2 then some ((1 : Int32), u_1.2.2.1, u_1.2.2.2.1, u_1.2.2.2.2.1, u_1.2.2.2.2.2.1, u_1.2.2.2.2.2.2.1, u_1.2.2.2.2.2.2.2.1, u_1.2.2.2.2.2.2.2.2.1, u_1.2.2.2.2.2.2.2.2.2.1, u_1.2.2.2.2.2.2.2.2.2.2, o_p2) else none)))
set_option maxHeartbeats 4000000 in
set_option maxRecDepth 100000 in
theorem mm_L_lighten (l : Launch) (hst : l.stackTraces = false) (zz : Nat → Nat → Nat) (D : va_G) (kA : Nat → ClassId) (N : Nat) (g : Nat → Nat → Nat) (q_p2 : Nat → Nat) (o_p0 : os_T) (o_p0_panel : os_T) (o_p0_history : os_T) (o_p0_history_panels0 : os_T) (o_p0_history_panels1 : os_T) (o_p0_history_panels2 : os_T) (o_p0_history_panels3 : os_T) (o_p0_history_panels4 : os_T) (o_p0_history_panels5 : os_T) (o_p0_history_panels6 : os_T) (o_p2 : os_T) (a1 : Int32) (out : (Int32 × os_T × os_T × os_T × os_T × os_T × os_T × os_T × os_T × os_T × os_T)) (hf : ff_L_lighten N o_p0 o_p0_panel o_p0_history o_p0_history_panels0 o_p0_history_panels1 o_p0_history_panels2 o_p0_history_panels3 o_p0_history_panels4 o_p0_history_panels5 o_p0_history_panels6 o_p2 a1 = some out) : mh_C l zz D kA yL_lighten wsL_lighten ({ frames := 7, cells := 1, slots := 6, locals := 145 } : Room) [.ref ((g 0) 0), .int a1, .ref (q_p2 0)] (ce_X12 kA g o_p0 ++ (ce_X5 kA (g 1) o_p0_panel ++ (ce_X3 kA (g 5) (fun k => g (6 + k)) o_p0_history ++ (ce_X5 kA (g 6) o_p0_history_panels0 ++ (ce_X5 kA (g 7) o_p0_history_panels1 ++ (ce_X5 kA (g 8) o_p0_history_panels2 ++ (ce_X5 kA (g 9) o_p0_history_panels3 ++ (ce_X5 kA (g 10) o_p0_history_panels4 ++ (ce_X5 kA (g 11) o_p0_history_panels5 ++ (ce_X5 kA (g 12) o_p0_history_panels6 ++ (ce_XJ kA q_p2 o_p2))))))))))) (some (.int out.1)) (ce_X12 kA g o_p0 ++ (ce_X5 kA (g 1) out.2.1 ++ (ce_X3 kA (g 5) (fun k => g (6 + k)) out.2.2.1 ++ (ce_X5 kA (g 6) out.2.2.2.1 ++ (ce_X5 kA (g 7) out.2.2.2.2.1 ++ (ce_X5 kA (g 8) out.2.2.2.2.2.1 ++ (ce_X5 kA (g 9) out.2.2.2.2.2.2.1 ++ (ce_X5 kA (g 10) out.2.2.2.2.2.2.2.1 ++ (ce_X5 kA (g 11) out.2.2.2.2.2.2.2.2.1 ++ (ce_X5 kA (g 12) out.2.2.2.2.2.2.2.2.2.1 ++ (ce_XJ kA q_p2 out.2.2.2.2.2.2.2.2.2.2))))))))))) := by
  refine mh_of (hh := [(0, 9, 12, 19)]) (cc := cL_lighten) (maxL := 4) (ret := (some .int)) (by decide) rfl (Nat.le_of_ble_eq_true rfl) ?_
  intro p e s m below meth c A B hex hZ hD hP hS ls hl
  obtain ⟨hx, hb, hr, hlk, hml, hown, hts, hK, hA, hnm⟩ := B
  have hown : s.vm.findClass RL = some m.cls := hown
  have hl : lv_has ls 4 [(0, .ref ((g 0) 0)), (1, .int a1), (2, .ref (q_p2 0))] := hl
  unfold ff_L_lighten at hf
  refine lv_aload_n hx hb dL_lighten_0 rfl (lv_at hl 2 rfl) ?_
  refine lv_iconst (v := 0) hx hb dL_lighten_1 (by decide) ?_
  refine lv_aload_n hx hb dL_lighten_2 rfl (lv_at hl 0 rfl) ?_
  refine lv_iload_n hx hb dL_lighten_3 rfl (lv_at hl 1 rfl) ?_
  obtain ⟨u_1, he_2, hf⟩ := os_bd hf
  refine mx_callV ⟨hx, hb, hml, hown, hts⟩ (mm_X12_lighten l hst zz D kA N g o_p0 o_p0_panel o_p0_history o_p0_history_panels0 o_p0_history_panels1 o_p0_history_panels2 o_p0_history_panels3 o_p0_history_panels4 o_p0_history_panels5 o_p0_history_panels6 a1 u_1 he_2) (cwV 1 hts gL_lighten_X12_lighten rfl rfl rfl (by decide +kernel) ⟨Nat.le_of_ble_eq_true rfl, Nat.le_of_ble_eq_true rfl⟩) (wc := (ce_X12 kA g o_p0 ++ (ce_X5 kA (g 1) o_p0_panel ++ (ce_X3 kA (g 5) (fun k => g (6 + k)) o_p0_history ++ (ce_X5 kA (g 6) o_p0_history_panels0 ++ (ce_X5 kA (g 7) o_p0_history_panels1 ++ (ce_X5 kA (g 8) o_p0_history_panels2 ++ (ce_X5 kA (g 9) o_p0_history_panels3 ++ (ce_X5 kA (g 10) o_p0_history_panels4 ++ (ce_X5 kA (g 11) o_p0_history_panels5 ++ (ce_X5 kA (g 12) o_p0_history_panels6))))))))))) (ci := 8) (q0 := 0) rfl rfl rfl hl.1 (As := [.int a1]) (rest := [.int (0 : Int32), .ref (q_p2 0)]) rfl (Nat.le_of_ble_eq_true rfl) dL_lighten_4 ⟨Nat.le_of_ble_eq_true rfl, Nat.le_of_ble_eq_true rfl⟩ hK hP hD hS hA hZ [0, 1, 2, 3, 4, 5, 6, 7, 8, 9, 10, 11, 12, 13, 14, 15, 16, 17, 18, 19, 20, 21, 22, 23, 24, 25, 26, 27, 28, 29, 30, 31, 32, 33, 34, 35, 36, 37] [38] [1, 2, 3, 4, 5, 6, 7, 8, 9, 10, 11, 12, 13, 14, 15, 16, 17, 18, 19, 20, 21, 22, 23, 24, 25, 26, 27, 28, 29, 30, 31, 32, 33, 34, 35, 36, 37, 38, 0] rfl (by decide) rfl (by decide) (by decide) rfl (by decide) (wr := (ce_XJ kA q_p2 o_p2)) (w2 := (ce_X12 kA g o_p0 ++ (ce_X5 kA (g 1) u_1.2.2.1 ++ (ce_X3 kA (g 5) (fun k => g (6 + k)) u_1.2.2.2.1 ++ (ce_X5 kA (g 6) u_1.2.2.2.2.1 ++ (ce_X5 kA (g 7) u_1.2.2.2.2.2.1 ++ (ce_X5 kA (g 8) u_1.2.2.2.2.2.2.1 ++ (ce_X5 kA (g 9) u_1.2.2.2.2.2.2.2.1 ++ (ce_X5 kA (g 10) u_1.2.2.2.2.2.2.2.2.1 ++ (ce_X5 kA (g 11) u_1.2.2.2.2.2.2.2.2.2.1 ++ (ce_X5 kA (g 12) u_1.2.2.2.2.2.2.2.2.2.2 ++ (ce_XJ kA q_p2 o_p2)))))))))))) (fun hx9 H locs q9 ce hP hD hS h91 h92 h93 => ?_) (fun hx9 H locs hP hD hS => ?_)
  · rw [if_neg hx9] at hf
    by_cases hy_4 : u_1.1 = 2
    · rw [if_pos hy_4] at hf
      rw [hy_4] at h93
      refine vx_catch (E := mx_n 2) (name := "java/lang/IllegalArgumentException") hown [] (⟨0, 9, 12, 19⟩ : ExceptionTableEntry) [] hex (fun z h => nomatch h) rfl (by decide) (hts (Cond.classLink RL 19 "java/lang/IllegalArgumentException") (List.mem_of_getElem? (i := 1) rfl)) (va_Nw.use rfl (hZ.2.2.1.2.2.2.1 2)) h91 h92 h93 ?_
      have hP : va_P D vwCl (ce_X12 kA g o_p0 ++ (ce_X5 kA (g 1) u_1.2.2.1 ++ (ce_X3 kA (g 5) (fun k => g (6 + k)) u_1.2.2.2.1 ++ (ce_X5 kA (g 6) u_1.2.2.2.2.1 ++ (ce_X5 kA (g 7) u_1.2.2.2.2.2.1 ++ (ce_X5 kA (g 8) u_1.2.2.2.2.2.2.1 ++ (ce_X5 kA (g 9) u_1.2.2.2.2.2.2.2.1 ++ (ce_X5 kA (g 10) u_1.2.2.2.2.2.2.2.2.1 ++ (ce_X5 kA (g 11) u_1.2.2.2.2.2.2.2.2.2.1 ++ (ce_X5 kA (g 12) u_1.2.2.2.2.2.2.2.2.2.2 ++ (ce_XJ kA q_p2 o_p2))))))))))) H := hP
      refine lv_astore_n (lv' := [(3, .ref q9), (0, .ref ((g 0) 0)), (1, .int a1), (2, .ref (q_p2 0))]) hx hb dL_lighten_12 rfl hl (by decide) rfl (fun ls hl => ?_)
      refine lv_iconst (v := 1) hx hb dL_lighten_13 (by decide) ?_
      rw [← Option.some.inj hf]
      exact W.widen (k := 1) (n := 6) (Nat.le_of_ble_eq_true rfl) (Nat.le_of_ble_eq_true rfl) (mc_reti hx hb hr hlk hP hK hD hS dL_lighten_14)
    rw [if_neg hy_4] at hf
    cases hf
  · rw [if_pos hx9] at hf
    refine W.widen (k := 1) (n := 6) (Nat.le_of_ble_eq_true rfl) (Nat.le_of_ble_eq_true rfl) ?_
    have hP : va_P D vwCl (ce_X12 kA g o_p0 ++ (ce_X5 kA (g 1) u_1.2.2.1 ++ (ce_X3 kA (g 5) (fun k => g (6 + k)) u_1.2.2.2.1 ++ (ce_X5 kA (g 6) u_1.2.2.2.2.1 ++ (ce_X5 kA (g 7) u_1.2.2.2.2.2.1 ++ (ce_X5 kA (g 8) u_1.2.2.2.2.2.2.1 ++ (ce_X5 kA (g 9) u_1.2.2.2.2.2.2.2.1 ++ (ce_X5 kA (g 10) u_1.2.2.2.2.2.2.2.2.1 ++ (ce_X5 kA (g 11) u_1.2.2.2.2.2.2.2.2.2.1 ++ (ce_X5 kA (g 12) u_1.2.2.2.2.2.2.2.2.2.2 ++ (ce_XJ kA q_p2 o_p2))))))))))) H := hP
    refine lv_i2l hx hb dL_lighten_7 rfl ?_
    obtain ⟨hi_3, hf⟩ := os_if hf
    refine va_last hx hb hK hP hD hS 38 4 rfl rfl hi_3 dL_lighten_8 (fun H locs hP hD hS => ?_)
    have hP : va_P D vwCl (ce_X12 kA g o_p0 ++ (ce_X5 kA (g 1) u_1.2.2.1 ++ (ce_X3 kA (g 5) (fun k => g (6 + k)) u_1.2.2.2.1 ++ (ce_X5 kA (g 6) u_1.2.2.2.2.1 ++ (ce_X5 kA (g 7) u_1.2.2.2.2.2.1 ++ (ce_X5 kA (g 8) u_1.2.2.2.2.2.2.1 ++ (ce_X5 kA (g 9) u_1.2.2.2.2.2.2.2.1 ++ (ce_X5 kA (g 10) u_1.2.2.2.2.2.2.2.2.1 ++ (ce_X5 kA (g 11) u_1.2.2.2.2.2.2.2.2.2.1 ++ (ce_X5 kA (g 12) u_1.2.2.2.2.2.2.2.2.2.2 ++ (ce_XJ kA q_p2 (ss_LF o_p2 (vp_updL (os_L o_p2) (Int32.toNatClampNeg (0 : Int32)) (Int32.toInt64 u_1.2.1)))))))))))))) H := hP
    have hD : va_D A (ce_X12 kA g o_p0 ++ (ce_X5 kA (g 1) u_1.2.2.1 ++ (ce_X3 kA (g 5) (fun k => g (6 + k)) u_1.2.2.2.1 ++ (ce_X5 kA (g 6) u_1.2.2.2.2.1 ++ (ce_X5 kA (g 7) u_1.2.2.2.2.2.1 ++ (ce_X5 kA (g 8) u_1.2.2.2.2.2.2.1 ++ (ce_X5 kA (g 9) u_1.2.2.2.2.2.2.2.1 ++ (ce_X5 kA (g 10) u_1.2.2.2.2.2.2.2.2.1 ++ (ce_X5 kA (g 11) u_1.2.2.2.2.2.2.2.2.2.1 ++ (ce_X5 kA (g 12) u_1.2.2.2.2.2.2.2.2.2.2 ++ (ce_XJ kA q_p2 (ss_LF o_p2 (vp_updL (os_L o_p2) (Int32.toNatClampNeg (0 : Int32)) (Int32.toInt64 u_1.2.1)))))))))))))) := hD
    refine lv_goto (tgt := 15) hx hb dL_lighten_9 (by decide) ?_
    refine lv_iconst (v := 0) hx hb dL_lighten_15 (by decide) ?_
    rw [← Option.some.inj hf]
    exact W.widen (k := 1) (n := 6) (Nat.le_of_ble_eq_true rfl) (Nat.le_of_ble_eq_true rfl) (mc_reti hx hb hr hlk hP hK hD hS dL_lighten_16)
def ff_L_putStamp_b22 (N : Nat) (o_p0 : os_T) (o_p0_racks : os_T) (o_p6 : os_T) (t0 : Int64) (t1 : Int32) : Option (Int32 × os_T × os_T) :=
  (if os_in t1 1 then some ((0 : Int32), o_p0_racks, ss_LF o_p6 (vp_updL (os_L o_p6) (Int32.toNatClampNeg t1) t0)) else none)
def ff_L_putStamp (N : Nat) (o_p0 : os_T) (o_p0_racks : os_T) (o_p6 : os_T) (a1 : Int32) (a2 : Int32) (a3 : Int32) (a4 : Int32) (a5 : Int32) : Option (Int32 × os_T × os_T) :=
  ((ff_X12_putStamp N o_p0 o_p0_racks a1 a2 a3 a4 a5).bind fun u_1 => (if u_1.1 = 0 then (if u_1.2.1 = 0 then ff_L_putStamp_b22 N o_p0 u_1.2.2 o_p6 (0 : Int64) (0 : Int32) else ff_L_putStamp_b22 N o_p0 u_1.2.2 o_p6 (1 : Int64) (0 : Int32)) else (if u_1.1 = 3 then some ((1 : Int32), u_1.2.2, o_p6) else (if u_1.1 = 2 then some ((2 : Int32), u_1.2.2, o_p6) else none))))
set_option maxHeartbeats 4000000 in
set_option maxRecDepth 100000 in
theorem mm_L_putStamp (l : Launch) (hst : l.stackTraces = false) (zz : Nat → Nat → Nat) (D : va_G) (kA : Nat → ClassId) (N : Nat) (g : Nat → Nat → Nat) (q_p6 : Nat → Nat) (o_p0 : os_T) (o_p0_racks : os_T) (o_p6 : os_T) (a1 : Int32) (a2 : Int32) (a3 : Int32) (a4 : Int32) (a5 : Int32) (out : (Int32 × os_T × os_T)) (hf : ff_L_putStamp N o_p0 o_p0_racks o_p6 a1 a2 a3 a4 a5 = some out) : mh_C l zz D kA yL_putStamp wsL_putStamp ({ frames := 8, cells := 2, slots := 12, locals := 137 } : Room) [.ref ((g 0) 0), .int a1, .int a2, .int a3, .int a4, .int a5, .ref (q_p6 0)] (ce_X12 kA g o_p0 ++ (ce_X6 kA (g 15) o_p0_racks ++ (ce_XJ kA q_p6 o_p6))) (some (.int out.1)) (ce_X12 kA g o_p0 ++ (ce_X6 kA (g 15) out.2.1 ++ (ce_XJ kA q_p6 out.2.2))) := by
  refine mh_of (hh := [(0, 23, 26, 35), (0, 23, 30, 19)]) (cc := cL_putStamp) (maxL := 8) (ret := (some .int)) (by decide) rfl (Nat.le_of_ble_eq_true rfl) ?_
  intro p e s m below meth c A B hex hZ hD hP hS ls hl
  obtain ⟨hx, hb, hr, hlk, hml, hown, hts, hK, hA, hnm⟩ := B
  have hown : s.vm.findClass RL = some m.cls := hown
  have hl : lv_has ls 8 [(0, .ref ((g 0) 0)), (1, .int a1), (2, .int a2), (3, .int a3), (4, .int a4), (5, .int a5), (6, .ref (q_p6 0))] := hl
  have hB22 : ∀ (o_p0_racks : os_T) (o_p6 : os_T) (t0 : Int64) (t1 : Int32) (H : Heap) (locs : List Loc) (ls : Array Slot), va_P D vwCl (ce_X12 kA g o_p0 ++ (ce_X6 kA (g 15) o_p0_racks ++ (ce_XJ kA q_p6 o_p6))) H → va_D A (ce_X12 kA g o_p0 ++ (ce_X6 kA (g 15) o_p0_racks ++ (ce_XJ kA q_p6 o_p6))) → va_S A s.heap H locs → lv_has ls 8 [] → ff_L_putStamp_b22 N o_p0 o_p0_racks o_p6 t0 t1 = some out → W p l e ({ frames := 8, cells := 2, slots := 12, locals := 137 } : Room) s m [.ref ((g 0) 0), .int a1, .int a2, .int a3, .int a4, .int a5, .ref (q_p6 0)].toArray below meth c H locs 2 12 (MQ below (mc_Q D kA A (some (.int out.1)) (ce_X12 kA g o_p0 ++ (ce_X6 kA (g 15) out.2.1 ++ (ce_XJ kA q_p6 out.2.2)))) [.ref ((g 0) 0), .int a1, .int a2, .int a3, .int a4, .int a5, .ref (q_p6 0)].toArray s 2 12 A) (F0 m 22 ls [.long t0, .int t1, .ref (q_p6 0)]) := by
    intro o_p0_racks o_p6 t0 t1 H locs ls hP hD hS hl hf
    unfold ff_L_putStamp_b22 at hf
    obtain ⟨hi_6, hf⟩ := os_if hf
    refine va_last hx hb hK hP hD hS 6 4 rfl rfl hi_6 dL_putStamp_22 (fun H locs hP hD hS => ?_)
    have hP : va_P D vwCl (ce_X12 kA g o_p0 ++ (ce_X6 kA (g 15) o_p0_racks ++ (ce_XJ kA q_p6 (ss_LF o_p6 (vp_updL (os_L o_p6) (Int32.toNatClampNeg t1) t0))))) H := hP
    have hD : va_D A (ce_X12 kA g o_p0 ++ (ce_X6 kA (g 15) o_p0_racks ++ (ce_XJ kA q_p6 (ss_LF o_p6 (vp_updL (os_L o_p6) (Int32.toNatClampNeg t1) t0))))) := hD
    refine lv_goto (tgt := 34) hx hb dL_putStamp_23 (by decide) ?_
    refine lv_iconst (v := 0) hx hb dL_putStamp_34 (by decide) ?_
    rw [← Option.some.inj hf]
    exact W.widen (k := 2) (n := 12) (Nat.le_of_ble_eq_true rfl) (Nat.le_of_ble_eq_true rfl) (mc_reti hx hb hr hlk hP hK hD hS dL_putStamp_35)
  unfold ff_L_putStamp at hf
  refine lv_aload hx hb dL_putStamp_0 (lv_at hl 6 rfl) ?_
  refine lv_iconst (v := 0) hx hb dL_putStamp_2 (by decide) ?_
  refine lv_aload_n hx hb dL_putStamp_3 rfl (lv_at hl 0 rfl) ?_
  refine lv_iload_n hx hb dL_putStamp_4 rfl (lv_at hl 1 rfl) ?_
  refine lv_iload_n hx hb dL_putStamp_5 rfl (lv_at hl 2 rfl) ?_
  refine lv_iload_n hx hb dL_putStamp_6 rfl (lv_at hl 3 rfl) ?_
  refine lv_iload hx hb dL_putStamp_7 (lv_at hl 4 rfl) ?_
  refine lv_iload hx hb dL_putStamp_9 (lv_at hl 5 rfl) ?_
  obtain ⟨u_1, he_2, hf⟩ := os_bd hf
  refine mx_callV ⟨hx, hb, hml, hown, hts⟩ (mm_X12_putStamp l hst zz D kA N g o_p0 o_p0_racks a1 a2 a3 a4 a5 u_1 he_2) (cwV 5 hts gL_putStamp_X12_putStamp rfl rfl rfl (by decide +kernel) ⟨Nat.le_of_ble_eq_true rfl, Nat.le_of_ble_eq_true rfl⟩) (wc := (ce_X12 kA g o_p0 ++ (ce_X6 kA (g 15) o_p0_racks))) (ci := 8) (q0 := 0) rfl rfl rfl hl.1 (As := [.int a1, .int a2, .int a3, .int a4, .int a5]) (rest := [.int (0 : Int32), .ref (q_p6 0)]) rfl (Nat.le_of_ble_eq_true rfl) dL_putStamp_11 ⟨Nat.le_of_ble_eq_true rfl, Nat.le_of_ble_eq_true rfl⟩ hK hP hD hS hA hZ [0, 1, 2, 3, 4, 5] [6] [1, 2, 3, 4, 5, 6, 0] rfl (by decide) rfl (by decide) (by decide) rfl (by decide) (wr := (ce_XJ kA q_p6 o_p6)) (w2 := (ce_X12 kA g o_p0 ++ (ce_X6 kA (g 15) u_1.2.2 ++ (ce_XJ kA q_p6 o_p6)))) (fun hx9 H locs q9 ce hP hD hS h91 h92 h93 => ?_) (fun hx9 H locs hP hD hS => ?_)
  · rw [if_neg hx9] at hf
    by_cases hy_4 : u_1.1 = 3
    · rw [if_pos hy_4] at hf
      rw [hy_4] at h93
      refine vx_catch (E := mx_n 3) (name := "java/lang/IndexOutOfBoundsException") hown [] (⟨0, 23, 26, 35⟩ : ExceptionTableEntry) [(⟨0, 23, 30, 19⟩ : ExceptionTableEntry)] hex (fun z h => nomatch h) rfl (by decide) (hts (Cond.classLink RL 35 "java/lang/IndexOutOfBoundsException") (List.mem_of_getElem? (i := 1) rfl)) (va_Nw.use rfl (hZ.2.2.1.2.2.2.1 3)) h91 h92 h93 ?_
      have hP : va_P D vwCl (ce_X12 kA g o_p0 ++ (ce_X6 kA (g 15) u_1.2.2 ++ (ce_XJ kA q_p6 o_p6))) H := hP
      refine lv_astore (lv' := [(7, .ref q9), (0, .ref ((g 0) 0)), (1, .int a1), (2, .int a2), (3, .int a3), (4, .int a4), (5, .int a5), (6, .ref (q_p6 0))]) hx hb dL_putStamp_26 hl (by decide) rfl (fun ls hl => ?_)
      refine lv_iconst (v := 1) hx hb dL_putStamp_28 (by decide) ?_
      rw [← Option.some.inj hf]
      exact W.widen (k := 2) (n := 12) (Nat.le_of_ble_eq_true rfl) (Nat.le_of_ble_eq_true rfl) (mc_reti hx hb hr hlk hP hK hD hS dL_putStamp_29)
    rw [if_neg hy_4] at hf
    by_cases hy_5 : u_1.1 = 2
    · rw [if_pos hy_5] at hf
      rw [hy_5] at h93
      refine vx_catch (E := mx_n 2) (name := "java/lang/IllegalArgumentException") hown [(⟨0, 23, 26, 35⟩ : ExceptionTableEntry)] (⟨0, 23, 30, 19⟩ : ExceptionTableEntry) [] hex (fun z h => by rcases List.mem_singleton.mp h with rfl; exact Or.inr ⟨by decide, "java/lang/IndexOutOfBoundsException", hts (Cond.classLink RL 35 "java/lang/IndexOutOfBoundsException") (List.mem_of_getElem? (i := 1) rfl), hZ.2.2.1.2.2.2.2 2 3 (by decide)⟩) rfl (by decide) (hts (Cond.classLink RL 19 "java/lang/IllegalArgumentException") (List.mem_of_getElem? (i := 2) rfl)) (va_Nw.use rfl (hZ.2.2.1.2.2.2.1 2)) h91 h92 h93 ?_
      have hP : va_P D vwCl (ce_X12 kA g o_p0 ++ (ce_X6 kA (g 15) u_1.2.2 ++ (ce_XJ kA q_p6 o_p6))) H := hP
      refine lv_astore (lv' := [(7, .ref q9), (0, .ref ((g 0) 0)), (1, .int a1), (2, .int a2), (3, .int a3), (4, .int a4), (5, .int a5), (6, .ref (q_p6 0))]) hx hb dL_putStamp_30 hl (by decide) rfl (fun ls hl => ?_)
      refine lv_iconst (v := 2) hx hb dL_putStamp_32 (by decide) ?_
      rw [← Option.some.inj hf]
      exact W.widen (k := 2) (n := 12) (Nat.le_of_ble_eq_true rfl) (Nat.le_of_ble_eq_true rfl) (mc_reti hx hb hr hlk hP hK hD hS dL_putStamp_33)
    rw [if_neg hy_5] at hf
    cases hf
  · rw [if_pos hx9] at hf
    refine W.widen (k := 2) (n := 12) (Nat.le_of_ble_eq_true rfl) (Nat.le_of_ble_eq_true rfl) ?_
    have hP : va_P D vwCl (ce_X12 kA g o_p0 ++ (ce_X6 kA (g 15) u_1.2.2 ++ (ce_XJ kA q_p6 o_p6))) H := hP
    refine lv_if_eq (tgt := 21) hx hb dL_putStamp_14 (by decide) (fun hc_3 => ?_) (fun hc_3 => ?_)
    · rw [if_pos hc_3] at hf
      refine lv_lconst (v := 0) hx hb dL_putStamp_21 (by decide) ?_
      exact hB22 u_1.2.2 o_p6 (0 : Int64) (0 : Int32) _ _ _ hP hD hS (lv_sub hl [] rfl) hf
    · rw [if_neg hc_3] at hf
      refine lv_lconst (v := 1) hx hb dL_putStamp_17 (by decide) ?_
      refine lv_goto (tgt := 22) hx hb dL_putStamp_18 (by decide) ?_
      exact hB22 u_1.2.2 o_p6 (1 : Int64) (0 : Int32) _ _ _ hP hD hS (lv_sub hl [] rfl) hf
def ff_L_takeStamp_b16 (N : Nat) (o_p0 : os_T) (o_p0_racks : os_T) (o_p3 : os_T) (t0 : Int64) (t1 : Int32) : Option (Int32 × os_T × os_T) :=
  (if os_in t1 1 then some ((0 : Int32), o_p0_racks, ss_LF o_p3 (vp_updL (os_L o_p3) (Int32.toNatClampNeg t1) t0)) else none)
def ff_L_takeStamp (N : Nat) (o_p0 : os_T) (o_p0_racks : os_T) (o_p3 : os_T) (a1 : Int32) (a2 : Int32) : Option (Int32 × os_T × os_T) :=
  ((ff_X12_takeStamp N o_p0 o_p0_racks a1 a2).bind fun u_1 => (if u_1.1 = 0 then (if u_1.2.1 = 0 then ff_L_takeStamp_b16 N o_p0 u_1.2.2 o_p3 (0 : Int64) (0 : Int32) else ff_L_takeStamp_b16 N o_p0 u_1.2.2 o_p3 (1 : Int64) (0 : Int32)) else (if u_1.1 = 3 then some ((1 : Int32), u_1.2.2, o_p3) else none)))
set_option maxHeartbeats 4000000 in
set_option maxRecDepth 100000 in
theorem mm_L_takeStamp (l : Launch) (hst : l.stackTraces = false) (zz : Nat → Nat → Nat) (D : va_G) (kA : Nat → ClassId) (N : Nat) (g : Nat → Nat → Nat) (q_p3 : Nat → Nat) (o_p0 : os_T) (o_p0_racks : os_T) (o_p3 : os_T) (a1 : Int32) (a2 : Int32) (out : (Int32 × os_T × os_T)) (hf : ff_L_takeStamp N o_p0 o_p0_racks o_p3 a1 a2 = some out) : mh_C l zz D kA yL_takeStamp wsL_takeStamp ({ frames := 8, cells := 1, slots := 6, locals := 135 } : Room) [.ref ((g 0) 0), .int a1, .int a2, .ref (q_p3 0)] (ce_X12 kA g o_p0 ++ (ce_X6 kA (g 15) o_p0_racks ++ (ce_XJ kA q_p3 o_p3))) (some (.int out.1)) (ce_X12 kA g o_p0 ++ (ce_X6 kA (g 15) out.2.1 ++ (ce_XJ kA q_p3 out.2.2))) := by
  refine mh_of (hh := [(0, 17, 20, 35)]) (cc := cL_takeStamp) (maxL := 5) (ret := (some .int)) (by decide) rfl (Nat.le_of_ble_eq_true rfl) ?_
  intro p e s m below meth c A B hex hZ hD hP hS ls hl
  obtain ⟨hx, hb, hr, hlk, hml, hown, hts, hK, hA, hnm⟩ := B
  have hown : s.vm.findClass RL = some m.cls := hown
  have hl : lv_has ls 5 [(0, .ref ((g 0) 0)), (1, .int a1), (2, .int a2), (3, .ref (q_p3 0))] := hl
  have hB16 : ∀ (o_p0_racks : os_T) (o_p3 : os_T) (t0 : Int64) (t1 : Int32) (H : Heap) (locs : List Loc) (ls : Array Slot), va_P D vwCl (ce_X12 kA g o_p0 ++ (ce_X6 kA (g 15) o_p0_racks ++ (ce_XJ kA q_p3 o_p3))) H → va_D A (ce_X12 kA g o_p0 ++ (ce_X6 kA (g 15) o_p0_racks ++ (ce_XJ kA q_p3 o_p3))) → va_S A s.heap H locs → lv_has ls 5 [] → ff_L_takeStamp_b16 N o_p0 o_p0_racks o_p3 t0 t1 = some out → W p l e ({ frames := 8, cells := 1, slots := 6, locals := 135 } : Room) s m [.ref ((g 0) 0), .int a1, .int a2, .ref (q_p3 0)].toArray below meth c H locs 1 6 (MQ below (mc_Q D kA A (some (.int out.1)) (ce_X12 kA g o_p0 ++ (ce_X6 kA (g 15) out.2.1 ++ (ce_XJ kA q_p3 out.2.2)))) [.ref ((g 0) 0), .int a1, .int a2, .ref (q_p3 0)].toArray s 1 6 A) (F0 m 16 ls [.long t0, .int t1, .ref (q_p3 0)]) := by
    intro o_p0_racks o_p3 t0 t1 H locs ls hP hD hS hl hf
    unfold ff_L_takeStamp_b16 at hf
    obtain ⟨hi_5, hf⟩ := os_if hf
    refine va_last hx hb hK hP hD hS 6 4 rfl rfl hi_5 dL_takeStamp_16 (fun H locs hP hD hS => ?_)
    have hP : va_P D vwCl (ce_X12 kA g o_p0 ++ (ce_X6 kA (g 15) o_p0_racks ++ (ce_XJ kA q_p3 (ss_LF o_p3 (vp_updL (os_L o_p3) (Int32.toNatClampNeg t1) t0))))) H := hP
    have hD : va_D A (ce_X12 kA g o_p0 ++ (ce_X6 kA (g 15) o_p0_racks ++ (ce_XJ kA q_p3 (ss_LF o_p3 (vp_updL (os_L o_p3) (Int32.toNatClampNeg t1) t0))))) := hD
    refine lv_goto (tgt := 24) hx hb dL_takeStamp_17 (by decide) ?_
    refine lv_iconst (v := 0) hx hb dL_takeStamp_24 (by decide) ?_
    rw [← Option.some.inj hf]
    exact W.widen (k := 1) (n := 6) (Nat.le_of_ble_eq_true rfl) (Nat.le_of_ble_eq_true rfl) (mc_reti hx hb hr hlk hP hK hD hS dL_takeStamp_25)
  unfold ff_L_takeStamp at hf
  refine lv_aload_n hx hb dL_takeStamp_0 rfl (lv_at hl 3 rfl) ?_
  refine lv_iconst (v := 0) hx hb dL_takeStamp_1 (by decide) ?_
  refine lv_aload_n hx hb dL_takeStamp_2 rfl (lv_at hl 0 rfl) ?_
  refine lv_iload_n hx hb dL_takeStamp_3 rfl (lv_at hl 1 rfl) ?_
  refine lv_iload_n hx hb dL_takeStamp_4 rfl (lv_at hl 2 rfl) ?_
  obtain ⟨u_1, he_2, hf⟩ := os_bd hf
  refine mx_callV ⟨hx, hb, hml, hown, hts⟩ (mm_X12_takeStamp l hst zz D kA N g o_p0 o_p0_racks a1 a2 u_1 he_2) (cwV 2 hts gL_takeStamp_X12_takeStamp rfl rfl rfl (by decide +kernel) ⟨Nat.le_of_ble_eq_true rfl, Nat.le_of_ble_eq_true rfl⟩) (wc := (ce_X12 kA g o_p0 ++ (ce_X6 kA (g 15) o_p0_racks))) (ci := 8) (q0 := 0) rfl rfl rfl hl.1 (As := [.int a1, .int a2]) (rest := [.int (0 : Int32), .ref (q_p3 0)]) rfl (Nat.le_of_ble_eq_true rfl) dL_takeStamp_5 ⟨Nat.le_of_ble_eq_true rfl, Nat.le_of_ble_eq_true rfl⟩ hK hP hD hS hA hZ [0, 1, 2, 3, 4, 5] [6] [1, 2, 3, 4, 5, 6, 0] rfl (by decide) rfl (by decide) (by decide) rfl (by decide) (wr := (ce_XJ kA q_p3 o_p3)) (w2 := (ce_X12 kA g o_p0 ++ (ce_X6 kA (g 15) u_1.2.2 ++ (ce_XJ kA q_p3 o_p3)))) (fun hx9 H locs q9 ce hP hD hS h91 h92 h93 => ?_) (fun hx9 H locs hP hD hS => ?_)
  · rw [if_neg hx9] at hf
    by_cases hy_4 : u_1.1 = 3
    · rw [if_pos hy_4] at hf
      rw [hy_4] at h93
      refine vx_catch (E := mx_n 3) (name := "java/lang/IndexOutOfBoundsException") hown [] (⟨0, 17, 20, 35⟩ : ExceptionTableEntry) [] hex (fun z h => nomatch h) rfl (by decide) (hts (Cond.classLink RL 35 "java/lang/IndexOutOfBoundsException") (List.mem_of_getElem? (i := 1) rfl)) (va_Nw.use rfl (hZ.2.2.1.2.2.2.1 3)) h91 h92 h93 ?_
      have hP : va_P D vwCl (ce_X12 kA g o_p0 ++ (ce_X6 kA (g 15) u_1.2.2 ++ (ce_XJ kA q_p3 o_p3))) H := hP
      refine lv_astore (lv' := [(4, .ref q9), (0, .ref ((g 0) 0)), (1, .int a1), (2, .int a2), (3, .ref (q_p3 0))]) hx hb dL_takeStamp_20 hl (by decide) rfl (fun ls hl => ?_)
      refine lv_iconst (v := 1) hx hb dL_takeStamp_22 (by decide) ?_
      rw [← Option.some.inj hf]
      exact W.widen (k := 1) (n := 6) (Nat.le_of_ble_eq_true rfl) (Nat.le_of_ble_eq_true rfl) (mc_reti hx hb hr hlk hP hK hD hS dL_takeStamp_23)
    rw [if_neg hy_4] at hf
    cases hf
  · rw [if_pos hx9] at hf
    refine W.widen (k := 1) (n := 6) (Nat.le_of_ble_eq_true rfl) (Nat.le_of_ble_eq_true rfl) ?_
    have hP : va_P D vwCl (ce_X12 kA g o_p0 ++ (ce_X6 kA (g 15) u_1.2.2 ++ (ce_XJ kA q_p3 o_p3))) H := hP
    refine lv_if_eq (tgt := 15) hx hb dL_takeStamp_8 (by decide) (fun hc_3 => ?_) (fun hc_3 => ?_)
    · rw [if_pos hc_3] at hf
      refine lv_lconst (v := 0) hx hb dL_takeStamp_15 (by decide) ?_
      exact hB16 u_1.2.2 o_p3 (0 : Int64) (0 : Int32) _ _ _ hP hD hS (lv_sub hl [] rfl) hf
    · rw [if_neg hc_3] at hf
      refine lv_lconst (v := 1) hx hb dL_takeStamp_11 (by decide) ?_
      refine lv_goto (tgt := 16) hx hb dL_takeStamp_12 (by decide) ?_
      exact hB16 u_1.2.2 o_p3 (1 : Int64) (0 : Int32) _ _ _ hP hD hS (lv_sub hl [] rfl) hf
def ff_L_stampAt (N : Nat) (o_p0 : os_T) (o_p0_racks : os_T) (o_p3 : os_T) (a1 : Int32) (a2 : Int32) : Option (Int32 × os_T) :=
  ((ff_X12_stampAt N o_p0 o_p0_racks a1 a2).bind fun u_1 => (if u_1.1 = 0 then (if os_in (0 : Int32) 1 then some ((0 : Int32), ss_LF o_p3 (vp_updL (os_L o_p3) (Int32.toNatClampNeg (0 : Int32)) (Int32.toInt64 u_1.2))) else none) else (if u_1.1 = 3 then some ((1 : Int32), o_p3) else none)))
set_option maxHeartbeats 4000000 in
set_option maxRecDepth 100000 in
theorem mm_L_stampAt (l : Launch) (hst : l.stackTraces = false) (zz : Nat → Nat → Nat) (D : va_G) (kA : Nat → ClassId) (N : Nat) (g : Nat → Nat → Nat) (q_p3 : Nat → Nat) (o_p0 : os_T) (o_p0_racks : os_T) (o_p3 : os_T) (a1 : Int32) (a2 : Int32) (out : (Int32 × os_T)) (hf : ff_L_stampAt N o_p0 o_p0_racks o_p3 a1 a2 = some out) : mh_C l zz D kA yL_stampAt wsL_stampAt ({ frames := 8, cells := 1, slots := 6, locals := 134 } : Room) [.ref ((g 0) 0), .int a1, .int a2, .ref (q_p3 0)] (ce_X12 kA g o_p0 ++ (ce_X6 kA (g 15) o_p0_racks ++ (ce_XJ kA q_p3 o_p3))) (some (.int out.1)) (ce_X12 kA g o_p0 ++ (ce_X6 kA (g 15) o_p0_racks ++ (ce_XJ kA q_p3 out.2))) := by
  refine mh_of (hh := [(0, 10, 13, 35)]) (cc := cL_stampAt) (maxL := 5) (ret := (some .int)) (by decide) rfl (Nat.le_of_ble_eq_true rfl) ?_
  intro p e s m below meth c A B hex hZ hD hP hS ls hl
  obtain ⟨hx, hb, hr, hlk, hml, hown, hts, hK, hA, hnm⟩ := B
  have hown : s.vm.findClass RL = some m.cls := hown
  have hl : lv_has ls 5 [(0, .ref ((g 0) 0)), (1, .int a1), (2, .int a2), (3, .ref (q_p3 0))] := hl
  unfold ff_L_stampAt at hf
  refine lv_aload_n hx hb dL_stampAt_0 rfl (lv_at hl 3 rfl) ?_
  refine lv_iconst (v := 0) hx hb dL_stampAt_1 (by decide) ?_
  refine lv_aload_n hx hb dL_stampAt_2 rfl (lv_at hl 0 rfl) ?_
  refine lv_iload_n hx hb dL_stampAt_3 rfl (lv_at hl 1 rfl) ?_
  refine lv_iload_n hx hb dL_stampAt_4 rfl (lv_at hl 2 rfl) ?_
  obtain ⟨u_1, he_2, hf⟩ := os_bd hf
  refine mx_callV ⟨hx, hb, hml, hown, hts⟩ (mm_X12_stampAt l hst zz D kA N g o_p0 o_p0_racks a1 a2 u_1 he_2) (cwV 2 hts gL_stampAt_X12_stampAt rfl rfl rfl (by decide +kernel) ⟨Nat.le_of_ble_eq_true rfl, Nat.le_of_ble_eq_true rfl⟩) (wc := (ce_X12 kA g o_p0 ++ (ce_X6 kA (g 15) o_p0_racks))) (ci := 8) (q0 := 0) rfl rfl rfl hl.1 (As := [.int a1, .int a2]) (rest := [.int (0 : Int32), .ref (q_p3 0)]) rfl (Nat.le_of_ble_eq_true rfl) dL_stampAt_5 ⟨Nat.le_of_ble_eq_true rfl, Nat.le_of_ble_eq_true rfl⟩ hK hP hD hS hA hZ [0, 1, 2, 3, 4, 5] [6] [1, 2, 3, 4, 5, 6, 0] rfl (by decide) rfl (by decide) (by decide) rfl (by decide) (wr := (ce_XJ kA q_p3 o_p3)) (w2 := (ce_X12 kA g o_p0 ++ (ce_X6 kA (g 15) o_p0_racks ++ (ce_XJ kA q_p3 o_p3)))) (fun hx9 H locs q9 ce hP hD hS h91 h92 h93 => ?_) (fun hx9 H locs hP hD hS => ?_)
  · rw [if_neg hx9] at hf
    by_cases hy_4 : u_1.1 = 3
    · rw [if_pos hy_4] at hf
      rw [hy_4] at h93
      refine vx_catch (E := mx_n 3) (name := "java/lang/IndexOutOfBoundsException") hown [] (⟨0, 10, 13, 35⟩ : ExceptionTableEntry) [] hex (fun z h => nomatch h) rfl (by decide) (hts (Cond.classLink RL 35 "java/lang/IndexOutOfBoundsException") (List.mem_of_getElem? (i := 1) rfl)) (va_Nw.use rfl (hZ.2.2.1.2.2.2.1 3)) h91 h92 h93 ?_
      have hP : va_P D vwCl (ce_X12 kA g o_p0 ++ (ce_X6 kA (g 15) o_p0_racks ++ (ce_XJ kA q_p3 o_p3))) H := hP
      refine lv_astore (lv' := [(4, .ref q9), (0, .ref ((g 0) 0)), (1, .int a1), (2, .int a2), (3, .ref (q_p3 0))]) hx hb dL_stampAt_13 hl (by decide) rfl (fun ls hl => ?_)
      refine lv_iconst (v := 1) hx hb dL_stampAt_15 (by decide) ?_
      rw [← Option.some.inj hf]
      exact W.widen (k := 1) (n := 6) (Nat.le_of_ble_eq_true rfl) (Nat.le_of_ble_eq_true rfl) (mc_reti hx hb hr hlk hP hK hD hS dL_stampAt_16)
    rw [if_neg hy_4] at hf
    cases hf
  · rw [if_pos hx9] at hf
    refine W.widen (k := 1) (n := 6) (Nat.le_of_ble_eq_true rfl) (Nat.le_of_ble_eq_true rfl) ?_
    have hP : va_P D vwCl (ce_X12 kA g o_p0 ++ (ce_X6 kA (g 15) o_p0_racks ++ (ce_XJ kA q_p3 o_p3))) H := hP
    refine lv_i2l hx hb dL_stampAt_8 rfl ?_
    obtain ⟨hi_3, hf⟩ := os_if hf
    refine va_last hx hb hK hP hD hS 6 4 rfl rfl hi_3 dL_stampAt_9 (fun H locs hP hD hS => ?_)
    have hP : va_P D vwCl (ce_X12 kA g o_p0 ++ (ce_X6 kA (g 15) o_p0_racks ++ (ce_XJ kA q_p3 (ss_LF o_p3 (vp_updL (os_L o_p3) (Int32.toNatClampNeg (0 : Int32)) (Int32.toInt64 u_1.2)))))) H := hP
    have hD : va_D A (ce_X12 kA g o_p0 ++ (ce_X6 kA (g 15) o_p0_racks ++ (ce_XJ kA q_p3 (ss_LF o_p3 (vp_updL (os_L o_p3) (Int32.toNatClampNeg (0 : Int32)) (Int32.toInt64 u_1.2)))))) := hD
    refine lv_goto (tgt := 17) hx hb dL_stampAt_10 (by decide) ?_
    refine lv_iconst (v := 0) hx hb dL_stampAt_17 (by decide) ?_
    rw [← Option.some.inj hf]
    exact W.widen (k := 1) (n := 6) (Nat.le_of_ble_eq_true rfl) (Nat.le_of_ble_eq_true rfl) (mc_reti hx hb hr hlk hP hK hD hS dL_stampAt_18)
def ff_L_moveStamp_b20 (N : Nat) (o_p0 : os_T) (o_p0_racks : os_T) (o_p5 : os_T) (t0 : Int64) (t1 : Int32) : Option (Int32 × os_T × os_T) :=
  (if os_in t1 1 then some ((0 : Int32), o_p0_racks, ss_LF o_p5 (vp_updL (os_L o_p5) (Int32.toNatClampNeg t1) t0)) else none)
def ff_L_moveStamp (N : Nat) (o_p0 : os_T) (o_p0_racks : os_T) (o_p5 : os_T) (a1 : Int32) (a2 : Int32) (a3 : Int32) (a4 : Int32) : Option (Int32 × os_T × os_T) :=
  ((ff_X12_moveStamp N o_p0 o_p0_racks a1 a2 a3 a4).bind fun u_1 => (if u_1.1 = 0 then (if u_1.2.1 = 0 then ff_L_moveStamp_b20 N o_p0 u_1.2.2 o_p5 (0 : Int64) (0 : Int32) else ff_L_moveStamp_b20 N o_p0 u_1.2.2 o_p5 (1 : Int64) (0 : Int32)) else (if u_1.1 = 3 then some ((1 : Int32), u_1.2.2, o_p5) else (if u_1.1 = 1 then some ((2 : Int32), u_1.2.2, o_p5) else none))))
set_option maxHeartbeats 4000000 in
set_option maxRecDepth 100000 in
theorem mm_L_moveStamp (l : Launch) (hst : l.stackTraces = false) (zz : Nat → Nat → Nat) (D : va_G) (kA : Nat → ClassId) (N : Nat) (g : Nat → Nat → Nat) (q_p5 : Nat → Nat) (o_p0 : os_T) (o_p0_racks : os_T) (o_p5 : os_T) (a1 : Int32) (a2 : Int32) (a3 : Int32) (a4 : Int32) (out : (Int32 × os_T × os_T)) (hf : ff_L_moveStamp N o_p0 o_p0_racks o_p5 a1 a2 a3 a4 = some out) : mh_C l zz D kA yL_moveStamp wsL_moveStamp ({ frames := 8, cells := 3, slots := 18, locals := 137 } : Room) [.ref ((g 0) 0), .int a1, .int a2, .int a3, .int a4, .ref (q_p5 0)] (ce_X12 kA g o_p0 ++ (ce_X6 kA (g 15) o_p0_racks ++ (ce_XJ kA q_p5 o_p5))) (some (.int out.1)) (ce_X12 kA g o_p0 ++ (ce_X6 kA (g 15) out.2.1 ++ (ce_XJ kA q_p5 out.2.2))) := by
  refine mh_of (hh := [(0, 21, 24, 35), (0, 21, 28, 13)]) (cc := cL_moveStamp) (maxL := 7) (ret := (some .int)) (by decide) rfl (Nat.le_of_ble_eq_true rfl) ?_
  intro p e s m below meth c A B hex hZ hD hP hS ls hl
  obtain ⟨hx, hb, hr, hlk, hml, hown, hts, hK, hA, hnm⟩ := B
  have hown : s.vm.findClass RL = some m.cls := hown
  have hl : lv_has ls 7 [(0, .ref ((g 0) 0)), (1, .int a1), (2, .int a2), (3, .int a3), (4, .int a4), (5, .ref (q_p5 0))] := hl
  have hB20 : ∀ (o_p0_racks : os_T) (o_p5 : os_T) (t0 : Int64) (t1 : Int32) (H : Heap) (locs : List Loc) (ls : Array Slot), va_P D vwCl (ce_X12 kA g o_p0 ++ (ce_X6 kA (g 15) o_p0_racks ++ (ce_XJ kA q_p5 o_p5))) H → va_D A (ce_X12 kA g o_p0 ++ (ce_X6 kA (g 15) o_p0_racks ++ (ce_XJ kA q_p5 o_p5))) → va_S A s.heap H locs → lv_has ls 7 [] → ff_L_moveStamp_b20 N o_p0 o_p0_racks o_p5 t0 t1 = some out → W p l e ({ frames := 8, cells := 3, slots := 18, locals := 137 } : Room) s m [.ref ((g 0) 0), .int a1, .int a2, .int a3, .int a4, .ref (q_p5 0)].toArray below meth c H locs 3 18 (MQ below (mc_Q D kA A (some (.int out.1)) (ce_X12 kA g o_p0 ++ (ce_X6 kA (g 15) out.2.1 ++ (ce_XJ kA q_p5 out.2.2)))) [.ref ((g 0) 0), .int a1, .int a2, .int a3, .int a4, .ref (q_p5 0)].toArray s 3 18 A) (F0 m 20 ls [.long t0, .int t1, .ref (q_p5 0)]) := by
    intro o_p0_racks o_p5 t0 t1 H locs ls hP hD hS hl hf
    unfold ff_L_moveStamp_b20 at hf
    obtain ⟨hi_6, hf⟩ := os_if hf
    refine va_last hx hb hK hP hD hS 6 4 rfl rfl hi_6 dL_moveStamp_20 (fun H locs hP hD hS => ?_)
    have hP : va_P D vwCl (ce_X12 kA g o_p0 ++ (ce_X6 kA (g 15) o_p0_racks ++ (ce_XJ kA q_p5 (ss_LF o_p5 (vp_updL (os_L o_p5) (Int32.toNatClampNeg t1) t0))))) H := hP
    have hD : va_D A (ce_X12 kA g o_p0 ++ (ce_X6 kA (g 15) o_p0_racks ++ (ce_XJ kA q_p5 (ss_LF o_p5 (vp_updL (os_L o_p5) (Int32.toNatClampNeg t1) t0))))) := hD
    refine lv_goto (tgt := 32) hx hb dL_moveStamp_21 (by decide) ?_
    refine lv_iconst (v := 0) hx hb dL_moveStamp_32 (by decide) ?_
    rw [← Option.some.inj hf]
    exact W.widen (k := 3) (n := 18) (Nat.le_of_ble_eq_true rfl) (Nat.le_of_ble_eq_true rfl) (mc_reti hx hb hr hlk hP hK hD hS dL_moveStamp_33)
  unfold ff_L_moveStamp at hf
  refine lv_aload hx hb dL_moveStamp_0 (lv_at hl 5 rfl) ?_
  refine lv_iconst (v := 0) hx hb dL_moveStamp_2 (by decide) ?_
  refine lv_aload_n hx hb dL_moveStamp_3 rfl (lv_at hl 0 rfl) ?_
  refine lv_iload_n hx hb dL_moveStamp_4 rfl (lv_at hl 1 rfl) ?_
  refine lv_iload_n hx hb dL_moveStamp_5 rfl (lv_at hl 2 rfl) ?_
  refine lv_iload_n hx hb dL_moveStamp_6 rfl (lv_at hl 3 rfl) ?_
  refine lv_iload hx hb dL_moveStamp_7 (lv_at hl 4 rfl) ?_
  obtain ⟨u_1, he_2, hf⟩ := os_bd hf
  refine mx_callV ⟨hx, hb, hml, hown, hts⟩ (mm_X12_moveStamp l hst zz D kA N g o_p0 o_p0_racks a1 a2 a3 a4 u_1 he_2) (cwV 4 hts gL_moveStamp_X12_moveStamp rfl rfl rfl (by decide +kernel) ⟨Nat.le_of_ble_eq_true rfl, Nat.le_of_ble_eq_true rfl⟩) (wc := (ce_X12 kA g o_p0 ++ (ce_X6 kA (g 15) o_p0_racks))) (ci := 8) (q0 := 0) rfl rfl rfl hl.1 (As := [.int a1, .int a2, .int a3, .int a4]) (rest := [.int (0 : Int32), .ref (q_p5 0)]) rfl (Nat.le_of_ble_eq_true rfl) dL_moveStamp_9 ⟨Nat.le_of_ble_eq_true rfl, Nat.le_of_ble_eq_true rfl⟩ hK hP hD hS hA hZ [0, 1, 2, 3, 4, 5] [6] [1, 2, 3, 4, 5, 6, 0] rfl (by decide) rfl (by decide) (by decide) rfl (by decide) (wr := (ce_XJ kA q_p5 o_p5)) (w2 := (ce_X12 kA g o_p0 ++ (ce_X6 kA (g 15) u_1.2.2 ++ (ce_XJ kA q_p5 o_p5)))) (fun hx9 H locs q9 ce hP hD hS h91 h92 h93 => ?_) (fun hx9 H locs hP hD hS => ?_)
  · rw [if_neg hx9] at hf
    by_cases hy_4 : u_1.1 = 3
    · rw [if_pos hy_4] at hf
      rw [hy_4] at h93
      refine vx_catch (E := mx_n 3) (name := "java/lang/IndexOutOfBoundsException") hown [] (⟨0, 21, 24, 35⟩ : ExceptionTableEntry) [(⟨0, 21, 28, 13⟩ : ExceptionTableEntry)] hex (fun z h => nomatch h) rfl (by decide) (hts (Cond.classLink RL 35 "java/lang/IndexOutOfBoundsException") (List.mem_of_getElem? (i := 1) rfl)) (va_Nw.use rfl (hZ.2.2.1.2.2.2.1 3)) h91 h92 h93 ?_
      have hP : va_P D vwCl (ce_X12 kA g o_p0 ++ (ce_X6 kA (g 15) u_1.2.2 ++ (ce_XJ kA q_p5 o_p5))) H := hP
      refine lv_astore (lv' := [(6, .ref q9), (0, .ref ((g 0) 0)), (1, .int a1), (2, .int a2), (3, .int a3), (4, .int a4), (5, .ref (q_p5 0))]) hx hb dL_moveStamp_24 hl (by decide) rfl (fun ls hl => ?_)
      refine lv_iconst (v := 1) hx hb dL_moveStamp_26 (by decide) ?_
      rw [← Option.some.inj hf]
      exact W.widen (k := 3) (n := 18) (Nat.le_of_ble_eq_true rfl) (Nat.le_of_ble_eq_true rfl) (mc_reti hx hb hr hlk hP hK hD hS dL_moveStamp_27)
    rw [if_neg hy_4] at hf
    by_cases hy_5 : u_1.1 = 1
    · rw [if_pos hy_5] at hf
      rw [hy_5] at h93
      refine vx_catch (E := mx_n 1) (name := "java/lang/IllegalStateException") hown [(⟨0, 21, 24, 35⟩ : ExceptionTableEntry)] (⟨0, 21, 28, 13⟩ : ExceptionTableEntry) [] hex (fun z h => by rcases List.mem_singleton.mp h with rfl; exact Or.inr ⟨by decide, "java/lang/IndexOutOfBoundsException", hts (Cond.classLink RL 35 "java/lang/IndexOutOfBoundsException") (List.mem_of_getElem? (i := 1) rfl), hZ.2.2.1.2.2.2.2 1 3 (by decide)⟩) rfl (by decide) (hts (Cond.classLink RL 13 "java/lang/IllegalStateException") (List.mem_of_getElem? (i := 2) rfl)) (va_Nw.use rfl (hZ.2.2.1.2.2.2.1 1)) h91 h92 h93 ?_
      have hP : va_P D vwCl (ce_X12 kA g o_p0 ++ (ce_X6 kA (g 15) u_1.2.2 ++ (ce_XJ kA q_p5 o_p5))) H := hP
      refine lv_astore (lv' := [(6, .ref q9), (0, .ref ((g 0) 0)), (1, .int a1), (2, .int a2), (3, .int a3), (4, .int a4), (5, .ref (q_p5 0))]) hx hb dL_moveStamp_28 hl (by decide) rfl (fun ls hl => ?_)
      refine lv_iconst (v := 2) hx hb dL_moveStamp_30 (by decide) ?_
      rw [← Option.some.inj hf]
      exact W.widen (k := 3) (n := 18) (Nat.le_of_ble_eq_true rfl) (Nat.le_of_ble_eq_true rfl) (mc_reti hx hb hr hlk hP hK hD hS dL_moveStamp_31)
    rw [if_neg hy_5] at hf
    cases hf
  · rw [if_pos hx9] at hf
    refine W.widen (k := 3) (n := 18) (Nat.le_of_ble_eq_true rfl) (Nat.le_of_ble_eq_true rfl) ?_
    have hP : va_P D vwCl (ce_X12 kA g o_p0 ++ (ce_X6 kA (g 15) u_1.2.2 ++ (ce_XJ kA q_p5 o_p5))) H := hP
    refine lv_if_eq (tgt := 19) hx hb dL_moveStamp_12 (by decide) (fun hc_3 => ?_) (fun hc_3 => ?_)
    · rw [if_pos hc_3] at hf
      refine lv_lconst (v := 0) hx hb dL_moveStamp_19 (by decide) ?_
      exact hB20 u_1.2.2 o_p5 (0 : Int64) (0 : Int32) _ _ _ hP hD hS (lv_sub hl [] rfl) hf
    · rw [if_neg hc_3] at hf
      refine lv_lconst (v := 1) hx hb dL_moveStamp_15 (by decide) ?_
      refine lv_goto (tgt := 20) hx hb dL_moveStamp_16 (by decide) ?_
      exact hB20 u_1.2.2 o_p5 (1 : Int64) (0 : Int32) _ _ _ hP hD hS (lv_sub hl [] rfl) hf
def ff_L_stamp (N : Nat) (o_p0 : os_T) (o_p0_panel : os_T) (o_p0_history : os_T) (o_p0_history_panels0 : os_T) (o_p0_history_panels1 : os_T) (o_p0_history_panels2 : os_T) (o_p0_history_panels3 : os_T) (o_p0_history_panels4 : os_T) (o_p0_history_panels5 : os_T) (o_p0_history_panels6 : os_T) (o_p0_racks : os_T) (o_p5 : os_T) (a1 : Int32) (a2 : Int32) (a3 : Int32) (a4 : Int32) : Option (Int32 × os_T × os_T × os_T × os_T × os_T × os_T × os_T × os_T × os_T × os_T) :=
  ((ff_X12_stamp N o_p0 o_p0_panel o_p0_history o_p0_history_panels0 o_p0_history_panels1 o_p0_history_panels2 o_p0_history_panels3 o_p0_history_panels4 o_p0_history_panels5 o_p0_history_panels6 o_p0_racks a1 a2 a3 a4).bind fun u_1 => (if u_1.1 = 0 then (if os_in (0 : Int32) 1 then some ((0 : Int32), u_1.2.2.1, u_1.2.2.2.1, u_1.2.2.2.2.1, u_1.2.2.2.2.2.1, u_1.2.2.2.2.2.2.1, u_1.2.2.2.2.2.2.2.1, u_1.2.2.2.2.2.2.2.2.1, u_1.2.2.2.2.2.2.2.2.2.1, u_1.2.2.2.2.2.2.2.2.2.2, ss_LF o_p5 (vp_updL (os_L o_p5) (Int32.toNatClampNeg (0 : Int32)) (Int32.toInt64 u_1.2.1))) else none) else (if u_1.1 = 3 then some ((1 : Int32), u_1.2.2.1, u_1.2.2.2.1, u_1.2.2.2.2.1, u_1.2.2.2.2.2.1, u_1.2.2.2.2.2.2.1, u_1.2.2.2.2.2.2.2.1, u_1.2.2.2.2.2.2.2.2.1, u_1.2.2.2.2.2.2.2.2.2.1, u_1.2.2.2.2.2.2.2.2.2.2, o_p5) else (if u_1.1 = 1 then some ((2 : Int32), u_1.2.2.1, u_1.2.2.2.1, u_1.2.2.2.2.1, u_1.2.2.2.2.2.1, u_1.2.2.2.2.2.2.1, u_1.2.2.2.2.2.2.2.1, u_1.2.2.2.2.2.2.2.2.1, u_1.2.2.2.2.2.2.2.2.2.1, u_1.2.2.2.2.2.2.2.2.2.2, o_p5) else none))))
set_option maxHeartbeats 4000000 in
set_option maxRecDepth 100000 in
theorem mm_L_stamp (l : Launch) (hst : l.stackTraces = false) (zz : Nat → Nat → Nat) (D : va_G) (kA : Nat → ClassId) (N : Nat) (g : Nat → Nat → Nat) (q_p5 : Nat → Nat) (o_p0 : os_T) (o_p0_panel : os_T) (o_p0_history : os_T) (o_p0_history_panels0 : os_T) (o_p0_history_panels1 : os_T) (o_p0_history_panels2 : os_T) (o_p0_history_panels3 : os_T) (o_p0_history_panels4 : os_T) (o_p0_history_panels5 : os_T) (o_p0_history_panels6 : os_T) (o_p0_racks : os_T) (o_p5 : os_T) (a1 : Int32) (a2 : Int32) (a3 : Int32) (a4 : Int32) (out : (Int32 × os_T × os_T × os_T × os_T × os_T × os_T × os_T × os_T × os_T × os_T)) (hf : ff_L_stamp N o_p0 o_p0_panel o_p0_history o_p0_history_panels0 o_p0_history_panels1 o_p0_history_panels2 o_p0_history_panels3 o_p0_history_panels4 o_p0_history_panels5 o_p0_history_panels6 o_p0_racks o_p5 a1 a2 a3 a4 = some out) : mh_C l zz D kA yL_stamp wsL_stamp ({ frames := 8, cells := 3, slots := 18, locals := 148 } : Room) [.ref ((g 0) 0), .int a1, .int a2, .int a3, .int a4, .ref (q_p5 0)] (ce_X12 kA g o_p0 ++ (ce_X5 kA (g 1) o_p0_panel ++ (ce_X3 kA (g 5) (fun k => g (6 + k)) o_p0_history ++ (ce_X5 kA (g 6) o_p0_history_panels0 ++ (ce_X5 kA (g 7) o_p0_history_panels1 ++ (ce_X5 kA (g 8) o_p0_history_panels2 ++ (ce_X5 kA (g 9) o_p0_history_panels3 ++ (ce_X5 kA (g 10) o_p0_history_panels4 ++ (ce_X5 kA (g 11) o_p0_history_panels5 ++ (ce_X5 kA (g 12) o_p0_history_panels6 ++ (ce_X6 kA (g 15) o_p0_racks ++ (ce_XJ kA q_p5 o_p5)))))))))))) (some (.int out.1)) (ce_X12 kA g o_p0 ++ (ce_X5 kA (g 1) out.2.1 ++ (ce_X3 kA (g 5) (fun k => g (6 + k)) out.2.2.1 ++ (ce_X5 kA (g 6) out.2.2.2.1 ++ (ce_X5 kA (g 7) out.2.2.2.2.1 ++ (ce_X5 kA (g 8) out.2.2.2.2.2.1 ++ (ce_X5 kA (g 9) out.2.2.2.2.2.2.1 ++ (ce_X5 kA (g 10) out.2.2.2.2.2.2.2.1 ++ (ce_X5 kA (g 11) out.2.2.2.2.2.2.2.2.1 ++ (ce_X5 kA (g 12) out.2.2.2.2.2.2.2.2.2.1 ++ (ce_X6 kA (g 15) o_p0_racks ++ (ce_XJ kA q_p5 out.2.2.2.2.2.2.2.2.2.2)))))))))))) := by
  refine mh_of (hh := [(0, 14, 17, 35), (0, 14, 21, 13)]) (cc := cL_stamp) (maxL := 7) (ret := (some .int)) (by decide) rfl (Nat.le_of_ble_eq_true rfl) ?_
  intro p e s m below meth c A B hex hZ hD hP hS ls hl
  obtain ⟨hx, hb, hr, hlk, hml, hown, hts, hK, hA, hnm⟩ := B
  have hown : s.vm.findClass RL = some m.cls := hown
  have hl : lv_has ls 7 [(0, .ref ((g 0) 0)), (1, .int a1), (2, .int a2), (3, .int a3), (4, .int a4), (5, .ref (q_p5 0))] := hl
  unfold ff_L_stamp at hf
  refine lv_aload hx hb dL_stamp_0 (lv_at hl 5 rfl) ?_
  refine lv_iconst (v := 0) hx hb dL_stamp_2 (by decide) ?_
  refine lv_aload_n hx hb dL_stamp_3 rfl (lv_at hl 0 rfl) ?_
  refine lv_iload_n hx hb dL_stamp_4 rfl (lv_at hl 1 rfl) ?_
  refine lv_iload_n hx hb dL_stamp_5 rfl (lv_at hl 2 rfl) ?_
  refine lv_iload_n hx hb dL_stamp_6 rfl (lv_at hl 3 rfl) ?_
  refine lv_iload hx hb dL_stamp_7 (lv_at hl 4 rfl) ?_
  obtain ⟨u_1, he_2, hf⟩ := os_bd hf
  refine mx_callV ⟨hx, hb, hml, hown, hts⟩ (mm_X12_stamp l hst zz D kA N g o_p0 o_p0_panel o_p0_history o_p0_history_panels0 o_p0_history_panels1 o_p0_history_panels2 o_p0_history_panels3 o_p0_history_panels4 o_p0_history_panels5 o_p0_history_panels6 o_p0_racks a1 a2 a3 a4 u_1 he_2) (cwV 4 hts gL_stamp_X12_stamp rfl rfl rfl (by decide +kernel) ⟨Nat.le_of_ble_eq_true rfl, Nat.le_of_ble_eq_true rfl⟩) (wc := (ce_X12 kA g o_p0 ++ (ce_X5 kA (g 1) o_p0_panel ++ (ce_X3 kA (g 5) (fun k => g (6 + k)) o_p0_history ++ (ce_X5 kA (g 6) o_p0_history_panels0 ++ (ce_X5 kA (g 7) o_p0_history_panels1 ++ (ce_X5 kA (g 8) o_p0_history_panels2 ++ (ce_X5 kA (g 9) o_p0_history_panels3 ++ (ce_X5 kA (g 10) o_p0_history_panels4 ++ (ce_X5 kA (g 11) o_p0_history_panels5 ++ (ce_X5 kA (g 12) o_p0_history_panels6 ++ (ce_X6 kA (g 15) o_p0_racks)))))))))))) (ci := 8) (q0 := 0) rfl rfl rfl hl.1 (As := [.int a1, .int a2, .int a3, .int a4]) (rest := [.int (0 : Int32), .ref (q_p5 0)]) rfl (Nat.le_of_ble_eq_true rfl) dL_stamp_9 ⟨Nat.le_of_ble_eq_true rfl, Nat.le_of_ble_eq_true rfl⟩ hK hP hD hS hA hZ [0, 1, 2, 3, 4, 5, 6, 7, 8, 9, 10, 11, 12, 13, 14, 15, 16, 17, 18, 19, 20, 21, 22, 23, 24, 25, 26, 27, 28, 29, 30, 31, 32, 33, 34, 35, 36, 37, 38, 39] [40] [1, 2, 3, 4, 5, 6, 7, 8, 9, 10, 11, 12, 13, 14, 15, 16, 17, 18, 19, 20, 21, 22, 23, 24, 25, 26, 27, 28, 29, 30, 31, 32, 33, 34, 35, 36, 37, 38, 39, 40, 0] rfl (by decide) rfl (by decide) (by decide) rfl (by decide) (wr := (ce_XJ kA q_p5 o_p5)) (w2 := (ce_X12 kA g o_p0 ++ (ce_X5 kA (g 1) u_1.2.2.1 ++ (ce_X3 kA (g 5) (fun k => g (6 + k)) u_1.2.2.2.1 ++ (ce_X5 kA (g 6) u_1.2.2.2.2.1 ++ (ce_X5 kA (g 7) u_1.2.2.2.2.2.1 ++ (ce_X5 kA (g 8) u_1.2.2.2.2.2.2.1 ++ (ce_X5 kA (g 9) u_1.2.2.2.2.2.2.2.1 ++ (ce_X5 kA (g 10) u_1.2.2.2.2.2.2.2.2.1 ++ (ce_X5 kA (g 11) u_1.2.2.2.2.2.2.2.2.2.1 ++ (ce_X5 kA (g 12) u_1.2.2.2.2.2.2.2.2.2.2 ++ (ce_X6 kA (g 15) o_p0_racks ++ (ce_XJ kA q_p5 o_p5))))))))))))) (fun hx9 H locs q9 ce hP hD hS h91 h92 h93 => ?_) (fun hx9 H locs hP hD hS => ?_)
  · rw [if_neg hx9] at hf
    by_cases hy_4 : u_1.1 = 3
    · rw [if_pos hy_4] at hf
      rw [hy_4] at h93
      refine vx_catch (E := mx_n 3) (name := "java/lang/IndexOutOfBoundsException") hown [] (⟨0, 14, 17, 35⟩ : ExceptionTableEntry) [(⟨0, 14, 21, 13⟩ : ExceptionTableEntry)] hex (fun z h => nomatch h) rfl (by decide) (hts (Cond.classLink RL 35 "java/lang/IndexOutOfBoundsException") (List.mem_of_getElem? (i := 1) rfl)) (va_Nw.use rfl (hZ.2.2.1.2.2.2.1 3)) h91 h92 h93 ?_
      have hP : va_P D vwCl (ce_X12 kA g o_p0 ++ (ce_X5 kA (g 1) u_1.2.2.1 ++ (ce_X3 kA (g 5) (fun k => g (6 + k)) u_1.2.2.2.1 ++ (ce_X5 kA (g 6) u_1.2.2.2.2.1 ++ (ce_X5 kA (g 7) u_1.2.2.2.2.2.1 ++ (ce_X5 kA (g 8) u_1.2.2.2.2.2.2.1 ++ (ce_X5 kA (g 9) u_1.2.2.2.2.2.2.2.1 ++ (ce_X5 kA (g 10) u_1.2.2.2.2.2.2.2.2.1 ++ (ce_X5 kA (g 11) u_1.2.2.2.2.2.2.2.2.2.1 ++ (ce_X5 kA (g 12) u_1.2.2.2.2.2.2.2.2.2.2 ++ (ce_X6 kA (g 15) o_p0_racks ++ (ce_XJ kA q_p5 o_p5)))))))))))) H := hP
      refine lv_astore (lv' := [(6, .ref q9), (0, .ref ((g 0) 0)), (1, .int a1), (2, .int a2), (3, .int a3), (4, .int a4), (5, .ref (q_p5 0))]) hx hb dL_stamp_17 hl (by decide) rfl (fun ls hl => ?_)
      refine lv_iconst (v := 1) hx hb dL_stamp_19 (by decide) ?_
      rw [← Option.some.inj hf]
      exact W.widen (k := 3) (n := 18) (Nat.le_of_ble_eq_true rfl) (Nat.le_of_ble_eq_true rfl) (mc_reti hx hb hr hlk hP hK hD hS dL_stamp_20)
    rw [if_neg hy_4] at hf
    by_cases hy_5 : u_1.1 = 1
    · rw [if_pos hy_5] at hf
      rw [hy_5] at h93
      refine vx_catch (E := mx_n 1) (name := "java/lang/IllegalStateException") hown [(⟨0, 14, 17, 35⟩ : ExceptionTableEntry)] (⟨0, 14, 21, 13⟩ : ExceptionTableEntry) [] hex (fun z h => by rcases List.mem_singleton.mp h with rfl; exact Or.inr ⟨by decide, "java/lang/IndexOutOfBoundsException", hts (Cond.classLink RL 35 "java/lang/IndexOutOfBoundsException") (List.mem_of_getElem? (i := 1) rfl), hZ.2.2.1.2.2.2.2 1 3 (by decide)⟩) rfl (by decide) (hts (Cond.classLink RL 13 "java/lang/IllegalStateException") (List.mem_of_getElem? (i := 2) rfl)) (va_Nw.use rfl (hZ.2.2.1.2.2.2.1 1)) h91 h92 h93 ?_
      have hP : va_P D vwCl (ce_X12 kA g o_p0 ++ (ce_X5 kA (g 1) u_1.2.2.1 ++ (ce_X3 kA (g 5) (fun k => g (6 + k)) u_1.2.2.2.1 ++ (ce_X5 kA (g 6) u_1.2.2.2.2.1 ++ (ce_X5 kA (g 7) u_1.2.2.2.2.2.1 ++ (ce_X5 kA (g 8) u_1.2.2.2.2.2.2.1 ++ (ce_X5 kA (g 9) u_1.2.2.2.2.2.2.2.1 ++ (ce_X5 kA (g 10) u_1.2.2.2.2.2.2.2.2.1 ++ (ce_X5 kA (g 11) u_1.2.2.2.2.2.2.2.2.2.1 ++ (ce_X5 kA (g 12) u_1.2.2.2.2.2.2.2.2.2.2 ++ (ce_X6 kA (g 15) o_p0_racks ++ (ce_XJ kA q_p5 o_p5)))))))))))) H := hP
      refine lv_astore (lv' := [(6, .ref q9), (0, .ref ((g 0) 0)), (1, .int a1), (2, .int a2), (3, .int a3), (4, .int a4), (5, .ref (q_p5 0))]) hx hb dL_stamp_21 hl (by decide) rfl (fun ls hl => ?_)
      refine lv_iconst (v := 2) hx hb dL_stamp_23 (by decide) ?_
      rw [← Option.some.inj hf]
      exact W.widen (k := 3) (n := 18) (Nat.le_of_ble_eq_true rfl) (Nat.le_of_ble_eq_true rfl) (mc_reti hx hb hr hlk hP hK hD hS dL_stamp_24)
    rw [if_neg hy_5] at hf
    cases hf
  · rw [if_pos hx9] at hf
    refine W.widen (k := 3) (n := 18) (Nat.le_of_ble_eq_true rfl) (Nat.le_of_ble_eq_true rfl) ?_
    have hP : va_P D vwCl (ce_X12 kA g o_p0 ++ (ce_X5 kA (g 1) u_1.2.2.1 ++ (ce_X3 kA (g 5) (fun k => g (6 + k)) u_1.2.2.2.1 ++ (ce_X5 kA (g 6) u_1.2.2.2.2.1 ++ (ce_X5 kA (g 7) u_1.2.2.2.2.2.1 ++ (ce_X5 kA (g 8) u_1.2.2.2.2.2.2.1 ++ (ce_X5 kA (g 9) u_1.2.2.2.2.2.2.2.1 ++ (ce_X5 kA (g 10) u_1.2.2.2.2.2.2.2.2.1 ++ (ce_X5 kA (g 11) u_1.2.2.2.2.2.2.2.2.2.1 ++ (ce_X5 kA (g 12) u_1.2.2.2.2.2.2.2.2.2.2 ++ (ce_X6 kA (g 15) o_p0_racks ++ (ce_XJ kA q_p5 o_p5)))))))))))) H := hP
    refine lv_i2l hx hb dL_stamp_12 rfl ?_
    obtain ⟨hi_3, hf⟩ := os_if hf
    refine va_last hx hb hK hP hD hS 40 4 rfl rfl hi_3 dL_stamp_13 (fun H locs hP hD hS => ?_)
    have hP : va_P D vwCl (ce_X12 kA g o_p0 ++ (ce_X5 kA (g 1) u_1.2.2.1 ++ (ce_X3 kA (g 5) (fun k => g (6 + k)) u_1.2.2.2.1 ++ (ce_X5 kA (g 6) u_1.2.2.2.2.1 ++ (ce_X5 kA (g 7) u_1.2.2.2.2.2.1 ++ (ce_X5 kA (g 8) u_1.2.2.2.2.2.2.1 ++ (ce_X5 kA (g 9) u_1.2.2.2.2.2.2.2.1 ++ (ce_X5 kA (g 10) u_1.2.2.2.2.2.2.2.2.1 ++ (ce_X5 kA (g 11) u_1.2.2.2.2.2.2.2.2.2.1 ++ (ce_X5 kA (g 12) u_1.2.2.2.2.2.2.2.2.2.2 ++ (ce_X6 kA (g 15) o_p0_racks ++ (ce_XJ kA q_p5 (ss_LF o_p5 (vp_updL (os_L o_p5) (Int32.toNatClampNeg (0 : Int32)) (Int32.toInt64 u_1.2.1))))))))))))))) H := hP
    have hD : va_D A (ce_X12 kA g o_p0 ++ (ce_X5 kA (g 1) u_1.2.2.1 ++ (ce_X3 kA (g 5) (fun k => g (6 + k)) u_1.2.2.2.1 ++ (ce_X5 kA (g 6) u_1.2.2.2.2.1 ++ (ce_X5 kA (g 7) u_1.2.2.2.2.2.1 ++ (ce_X5 kA (g 8) u_1.2.2.2.2.2.2.1 ++ (ce_X5 kA (g 9) u_1.2.2.2.2.2.2.2.1 ++ (ce_X5 kA (g 10) u_1.2.2.2.2.2.2.2.2.1 ++ (ce_X5 kA (g 11) u_1.2.2.2.2.2.2.2.2.2.1 ++ (ce_X5 kA (g 12) u_1.2.2.2.2.2.2.2.2.2.2 ++ (ce_X6 kA (g 15) o_p0_racks ++ (ce_XJ kA q_p5 (ss_LF o_p5 (vp_updL (os_L o_p5) (Int32.toNatClampNeg (0 : Int32)) (Int32.toInt64 u_1.2.1))))))))))))))) := hD
    refine lv_goto (tgt := 25) hx hb dL_stamp_14 (by decide) ?_
    refine lv_iconst (v := 0) hx hb dL_stamp_25 (by decide) ?_
    rw [← Option.some.inj hf]
    exact W.widen (k := 3) (n := 18) (Nat.le_of_ble_eq_true rfl) (Nat.le_of_ble_eq_true rfl) (mc_reti hx hb hr hlk hP hK hD hS dL_stamp_26)
def ff_L_stampGain (N : Nat) (o_p0 : os_T) (o_p0_panel : os_T) (o_p0_spare : os_T) (o_p0_racks : os_T) (o_p5 : os_T) (a1 : Int32) (a2 : Int32) (a3 : Int32) (a4 : Int32) : Option (Int32 × os_T × os_T) :=
  ((ff_X12_stampGain N o_p0 o_p0_panel o_p0_spare o_p0_racks a1 a2 a3 a4).bind fun u_1 => (if u_1.1 = 0 then (if os_in (0 : Int32) 1 then some ((0 : Int32), u_1.2.2, ss_LF o_p5 (vp_updL (os_L o_p5) (Int32.toNatClampNeg (0 : Int32)) (Int32.toInt64 u_1.2.1))) else none) else (if u_1.1 = 3 then some ((1 : Int32), u_1.2.2, o_p5) else (if u_1.1 = 1 then some ((2 : Int32), u_1.2.2, o_p5) else none))))
set_option maxHeartbeats 4000000 in
set_option maxRecDepth 100000 in
theorem mm_L_stampGain (l : Launch) (hst : l.stackTraces = false) (zz : Nat → Nat → Nat) (D : va_G) (kA : Nat → ClassId) (N : Nat) (g : Nat → Nat → Nat) (q_p5 : Nat → Nat) (o_p0 : os_T) (o_p0_panel : os_T) (o_p0_spare : os_T) (o_p0_racks : os_T) (o_p5 : os_T) (a1 : Int32) (a2 : Int32) (a3 : Int32) (a4 : Int32) (out : (Int32 × os_T × os_T)) (hf : ff_L_stampGain N o_p0 o_p0_panel o_p0_spare o_p0_racks o_p5 a1 a2 a3 a4 = some out) : mh_C l zz D kA yL_stampGain wsL_stampGain ({ frames := 8, cells := 3, slots := 18, locals := 136 } : Room) [.ref ((g 0) 0), .int a1, .int a2, .int a3, .int a4, .ref (q_p5 0)] (ce_X12 kA g o_p0 ++ (ce_X5 kA (g 1) o_p0_panel ++ (ce_X5 kA (g 2) o_p0_spare ++ (ce_X6 kA (g 15) o_p0_racks ++ (ce_XJ kA q_p5 o_p5))))) (some (.int out.1)) (ce_X12 kA g o_p0 ++ (ce_X5 kA (g 1) o_p0_panel ++ (ce_X5 kA (g 2) out.2.1 ++ (ce_X6 kA (g 15) o_p0_racks ++ (ce_XJ kA q_p5 out.2.2))))) := by
  refine mh_of (hh := [(0, 14, 17, 35), (0, 14, 21, 13)]) (cc := cL_stampGain) (maxL := 7) (ret := (some .int)) (by decide) rfl (Nat.le_of_ble_eq_true rfl) ?_
  intro p e s m below meth c A B hex hZ hD hP hS ls hl
  obtain ⟨hx, hb, hr, hlk, hml, hown, hts, hK, hA, hnm⟩ := B
  have hown : s.vm.findClass RL = some m.cls := hown
  have hl : lv_has ls 7 [(0, .ref ((g 0) 0)), (1, .int a1), (2, .int a2), (3, .int a3), (4, .int a4), (5, .ref (q_p5 0))] := hl
  unfold ff_L_stampGain at hf
  refine lv_aload hx hb dL_stampGain_0 (lv_at hl 5 rfl) ?_
  refine lv_iconst (v := 0) hx hb dL_stampGain_2 (by decide) ?_
  refine lv_aload_n hx hb dL_stampGain_3 rfl (lv_at hl 0 rfl) ?_
  refine lv_iload_n hx hb dL_stampGain_4 rfl (lv_at hl 1 rfl) ?_
  refine lv_iload_n hx hb dL_stampGain_5 rfl (lv_at hl 2 rfl) ?_
  refine lv_iload_n hx hb dL_stampGain_6 rfl (lv_at hl 3 rfl) ?_
  refine lv_iload hx hb dL_stampGain_7 (lv_at hl 4 rfl) ?_
  obtain ⟨u_1, he_2, hf⟩ := os_bd hf
  refine mx_callV ⟨hx, hb, hml, hown, hts⟩ (mm_X12_stampGain l hst zz D kA N g o_p0 o_p0_panel o_p0_spare o_p0_racks a1 a2 a3 a4 u_1 he_2) (cwV 4 hts gL_stampGain_X12_stampGain rfl rfl rfl (by decide +kernel) ⟨Nat.le_of_ble_eq_true rfl, Nat.le_of_ble_eq_true rfl⟩) (wc := (ce_X12 kA g o_p0 ++ (ce_X5 kA (g 1) o_p0_panel ++ (ce_X5 kA (g 2) o_p0_spare ++ (ce_X6 kA (g 15) o_p0_racks))))) (ci := 8) (q0 := 0) rfl rfl rfl hl.1 (As := [.int a1, .int a2, .int a3, .int a4]) (rest := [.int (0 : Int32), .ref (q_p5 0)]) rfl (Nat.le_of_ble_eq_true rfl) dL_stampGain_9 ⟨Nat.le_of_ble_eq_true rfl, Nat.le_of_ble_eq_true rfl⟩ hK hP hD hS hA hZ [0, 1, 2, 3, 4, 5, 6, 7, 8, 9, 10, 11, 12, 13] [14] [1, 2, 3, 4, 5, 6, 7, 8, 9, 10, 11, 12, 13, 14, 0] rfl (by decide) rfl (by decide) (by decide) rfl (by decide) (wr := (ce_XJ kA q_p5 o_p5)) (w2 := (ce_X12 kA g o_p0 ++ (ce_X5 kA (g 1) o_p0_panel ++ (ce_X5 kA (g 2) u_1.2.2 ++ (ce_X6 kA (g 15) o_p0_racks ++ (ce_XJ kA q_p5 o_p5)))))) (fun hx9 H locs q9 ce hP hD hS h91 h92 h93 => ?_) (fun hx9 H locs hP hD hS => ?_)
  · rw [if_neg hx9] at hf
    by_cases hy_4 : u_1.1 = 3
    · rw [if_pos hy_4] at hf
      rw [hy_4] at h93
      refine vx_catch (E := mx_n 3) (name := "java/lang/IndexOutOfBoundsException") hown [] (⟨0, 14, 17, 35⟩ : ExceptionTableEntry) [(⟨0, 14, 21, 13⟩ : ExceptionTableEntry)] hex (fun z h => nomatch h) rfl (by decide) (hts (Cond.classLink RL 35 "java/lang/IndexOutOfBoundsException") (List.mem_of_getElem? (i := 1) rfl)) (va_Nw.use rfl (hZ.2.2.1.2.2.2.1 3)) h91 h92 h93 ?_
      have hP : va_P D vwCl (ce_X12 kA g o_p0 ++ (ce_X5 kA (g 1) o_p0_panel ++ (ce_X5 kA (g 2) u_1.2.2 ++ (ce_X6 kA (g 15) o_p0_racks ++ (ce_XJ kA q_p5 o_p5))))) H := hP
      refine lv_astore (lv' := [(6, .ref q9), (0, .ref ((g 0) 0)), (1, .int a1), (2, .int a2), (3, .int a3), (4, .int a4), (5, .ref (q_p5 0))]) hx hb dL_stampGain_17 hl (by decide) rfl (fun ls hl => ?_)
      refine lv_iconst (v := 1) hx hb dL_stampGain_19 (by decide) ?_
      rw [← Option.some.inj hf]
      exact W.widen (k := 3) (n := 18) (Nat.le_of_ble_eq_true rfl) (Nat.le_of_ble_eq_true rfl) (mc_reti hx hb hr hlk hP hK hD hS dL_stampGain_20)
    rw [if_neg hy_4] at hf
    by_cases hy_5 : u_1.1 = 1
    · rw [if_pos hy_5] at hf
      rw [hy_5] at h93
      refine vx_catch (E := mx_n 1) (name := "java/lang/IllegalStateException") hown [(⟨0, 14, 17, 35⟩ : ExceptionTableEntry)] (⟨0, 14, 21, 13⟩ : ExceptionTableEntry) [] hex (fun z h => by rcases List.mem_singleton.mp h with rfl; exact Or.inr ⟨by decide, "java/lang/IndexOutOfBoundsException", hts (Cond.classLink RL 35 "java/lang/IndexOutOfBoundsException") (List.mem_of_getElem? (i := 1) rfl), hZ.2.2.1.2.2.2.2 1 3 (by decide)⟩) rfl (by decide) (hts (Cond.classLink RL 13 "java/lang/IllegalStateException") (List.mem_of_getElem? (i := 2) rfl)) (va_Nw.use rfl (hZ.2.2.1.2.2.2.1 1)) h91 h92 h93 ?_
      have hP : va_P D vwCl (ce_X12 kA g o_p0 ++ (ce_X5 kA (g 1) o_p0_panel ++ (ce_X5 kA (g 2) u_1.2.2 ++ (ce_X6 kA (g 15) o_p0_racks ++ (ce_XJ kA q_p5 o_p5))))) H := hP
      refine lv_astore (lv' := [(6, .ref q9), (0, .ref ((g 0) 0)), (1, .int a1), (2, .int a2), (3, .int a3), (4, .int a4), (5, .ref (q_p5 0))]) hx hb dL_stampGain_21 hl (by decide) rfl (fun ls hl => ?_)
      refine lv_iconst (v := 2) hx hb dL_stampGain_23 (by decide) ?_
      rw [← Option.some.inj hf]
      exact W.widen (k := 3) (n := 18) (Nat.le_of_ble_eq_true rfl) (Nat.le_of_ble_eq_true rfl) (mc_reti hx hb hr hlk hP hK hD hS dL_stampGain_24)
    rw [if_neg hy_5] at hf
    cases hf
  · rw [if_pos hx9] at hf
    refine W.widen (k := 3) (n := 18) (Nat.le_of_ble_eq_true rfl) (Nat.le_of_ble_eq_true rfl) ?_
    have hP : va_P D vwCl (ce_X12 kA g o_p0 ++ (ce_X5 kA (g 1) o_p0_panel ++ (ce_X5 kA (g 2) u_1.2.2 ++ (ce_X6 kA (g 15) o_p0_racks ++ (ce_XJ kA q_p5 o_p5))))) H := hP
    refine lv_i2l hx hb dL_stampGain_12 rfl ?_
    obtain ⟨hi_3, hf⟩ := os_if hf
    refine va_last hx hb hK hP hD hS 14 4 rfl rfl hi_3 dL_stampGain_13 (fun H locs hP hD hS => ?_)
    have hP : va_P D vwCl (ce_X12 kA g o_p0 ++ (ce_X5 kA (g 1) o_p0_panel ++ (ce_X5 kA (g 2) u_1.2.2 ++ (ce_X6 kA (g 15) o_p0_racks ++ (ce_XJ kA q_p5 (ss_LF o_p5 (vp_updL (os_L o_p5) (Int32.toNatClampNeg (0 : Int32)) (Int32.toInt64 u_1.2.1)))))))) H := hP
    have hD : va_D A (ce_X12 kA g o_p0 ++ (ce_X5 kA (g 1) o_p0_panel ++ (ce_X5 kA (g 2) u_1.2.2 ++ (ce_X6 kA (g 15) o_p0_racks ++ (ce_XJ kA q_p5 (ss_LF o_p5 (vp_updL (os_L o_p5) (Int32.toNatClampNeg (0 : Int32)) (Int32.toInt64 u_1.2.1)))))))) := hD
    refine lv_goto (tgt := 25) hx hb dL_stampGain_14 (by decide) ?_
    refine lv_iconst (v := 0) hx hb dL_stampGain_25 (by decide) ?_
    rw [← Option.some.inj hf]
    exact W.widen (k := 3) (n := 18) (Nat.le_of_ble_eq_true rfl) (Nat.le_of_ble_eq_true rfl) (mc_reti hx hb hr hlk hP hK hD hS dL_stampGain_26)
def ff_L_reportByte (N : Nat) (o_p0 : os_T) (o_p2 : os_T) (a1 : Int32) : Option (Int32 × os_T) :=
  ((ff_X12_reportByte N o_p0 a1).bind fun u_1 => (if u_1.1 = 0 then (if os_in (0 : Int32) 1 then some ((0 : Int32), ss_LF o_p2 (vp_updL (os_L o_p2) (Int32.toNatClampNeg (0 : Int32)) (Int32.toInt64 u_1.2))) else none) else (if u_1.1 = 3 then some ((1 : Int32), o_p2) else none)))
set_option maxHeartbeats 4000000 in
set_option maxRecDepth 100000 in
theorem mm_L_reportByte (l : Launch) (hst : l.stackTraces = false) (zz : Nat → Nat → Nat) (D : va_G) (kA : Nat → ClassId) (N : Nat) (g : Nat → Nat → Nat) (q_p2 : Nat → Nat) (o_p0 : os_T) (o_p2 : os_T) (a1 : Int32) (out : (Int32 × os_T)) (hf : ff_L_reportByte N o_p0 o_p2 a1 = some out) : mh_C l zz D kA yL_reportByte wsL_reportByte ({ frames := 7, cells := 1, slots := 6, locals := 111 } : Room) [.ref ((g 0) 0), .int a1, .ref (q_p2 0)] (ce_X12 kA g o_p0 ++ (ce_XJ kA q_p2 o_p2)) (some (.int out.1)) (ce_X12 kA g o_p0 ++ (ce_XJ kA q_p2 out.2)) := by
  refine mh_of (hh := [(0, 9, 12, 35)]) (cc := cL_reportByte) (maxL := 4) (ret := (some .int)) (by decide) rfl (Nat.le_of_ble_eq_true rfl) ?_
  intro p e s m below meth c A B hex hZ hD hP hS ls hl
  obtain ⟨hx, hb, hr, hlk, hml, hown, hts, hK, hA, hnm⟩ := B
  have hown : s.vm.findClass RL = some m.cls := hown
  have hl : lv_has ls 4 [(0, .ref ((g 0) 0)), (1, .int a1), (2, .ref (q_p2 0))] := hl
  unfold ff_L_reportByte at hf
  refine lv_aload_n hx hb dL_reportByte_0 rfl (lv_at hl 2 rfl) ?_
  refine lv_iconst (v := 0) hx hb dL_reportByte_1 (by decide) ?_
  refine lv_aload_n hx hb dL_reportByte_2 rfl (lv_at hl 0 rfl) ?_
  refine lv_iload_n hx hb dL_reportByte_3 rfl (lv_at hl 1 rfl) ?_
  obtain ⟨u_1, he_2, hf⟩ := os_bd hf
  refine mx_callV ⟨hx, hb, hml, hown, hts⟩ (mm_X12_reportByte l hst zz D kA N g o_p0 a1 u_1 he_2) (cwV 1 hts gL_reportByte_X12_reportByte rfl rfl rfl (by decide +kernel) ⟨Nat.le_of_ble_eq_true rfl, Nat.le_of_ble_eq_true rfl⟩) (wc := (ce_X12 kA g o_p0)) (ci := 8) (q0 := 0) rfl rfl rfl hl.1 (As := [.int a1]) (rest := [.int (0 : Int32), .ref (q_p2 0)]) rfl (Nat.le_of_ble_eq_true rfl) dL_reportByte_4 ⟨Nat.le_of_ble_eq_true rfl, Nat.le_of_ble_eq_true rfl⟩ hK hP hD hS hA hZ [0, 1, 2, 3] [4] [1, 2, 3, 4, 0] rfl (by decide) rfl (by decide) (by decide) rfl (by decide) (wr := (ce_XJ kA q_p2 o_p2)) (w2 := (ce_X12 kA g o_p0 ++ (ce_XJ kA q_p2 o_p2))) (fun hx9 H locs q9 ce hP hD hS h91 h92 h93 => ?_) (fun hx9 H locs hP hD hS => ?_)
  · rw [if_neg hx9] at hf
    by_cases hy_4 : u_1.1 = 3
    · rw [if_pos hy_4] at hf
      rw [hy_4] at h93
      refine vx_catch (E := mx_n 3) (name := "java/lang/IndexOutOfBoundsException") hown [] (⟨0, 9, 12, 35⟩ : ExceptionTableEntry) [] hex (fun z h => nomatch h) rfl (by decide) (hts (Cond.classLink RL 35 "java/lang/IndexOutOfBoundsException") (List.mem_of_getElem? (i := 1) rfl)) (va_Nw.use rfl (hZ.2.2.1.2.2.2.1 3)) h91 h92 h93 ?_
      have hP : va_P D vwCl (ce_X12 kA g o_p0 ++ (ce_XJ kA q_p2 o_p2)) H := hP
      refine lv_astore_n (lv' := [(3, .ref q9), (0, .ref ((g 0) 0)), (1, .int a1), (2, .ref (q_p2 0))]) hx hb dL_reportByte_12 rfl hl (by decide) rfl (fun ls hl => ?_)
      refine lv_iconst (v := 1) hx hb dL_reportByte_13 (by decide) ?_
      rw [← Option.some.inj hf]
      exact W.widen (k := 1) (n := 6) (Nat.le_of_ble_eq_true rfl) (Nat.le_of_ble_eq_true rfl) (mc_reti hx hb hr hlk hP hK hD hS dL_reportByte_14)
    rw [if_neg hy_4] at hf
    cases hf
  · rw [if_pos hx9] at hf
    refine W.widen (k := 1) (n := 6) (Nat.le_of_ble_eq_true rfl) (Nat.le_of_ble_eq_true rfl) ?_
    have hP : va_P D vwCl (ce_X12 kA g o_p0 ++ (ce_XJ kA q_p2 o_p2)) H := hP
    refine lv_i2l hx hb dL_reportByte_7 rfl ?_
    obtain ⟨hi_3, hf⟩ := os_if hf
    refine va_last hx hb hK hP hD hS 4 4 rfl rfl hi_3 dL_reportByte_8 (fun H locs hP hD hS => ?_)
    have hP : va_P D vwCl (ce_X12 kA g o_p0 ++ (ce_XJ kA q_p2 (ss_LF o_p2 (vp_updL (os_L o_p2) (Int32.toNatClampNeg (0 : Int32)) (Int32.toInt64 u_1.2))))) H := hP
    have hD : va_D A (ce_X12 kA g o_p0 ++ (ce_XJ kA q_p2 (ss_LF o_p2 (vp_updL (os_L o_p2) (Int32.toNatClampNeg (0 : Int32)) (Int32.toInt64 u_1.2))))) := hD
    refine lv_goto (tgt := 15) hx hb dL_reportByte_9 (by decide) ?_
    refine lv_iconst (v := 0) hx hb dL_reportByte_15 (by decide) ?_
    rw [← Option.some.inj hf]
    exact W.widen (k := 1) (n := 6) (Nat.le_of_ble_eq_true rfl) (Nat.le_of_ble_eq_true rfl) (mc_reti hx hb hr hlk hP hK hD hS dL_reportByte_16)
def ff_L_save (N : Nat) (o_p0 : os_T) (o_p0_panel : os_T) (o_p0_saved0 : os_T) (o_p0_saved1 : os_T) (o_p2 : os_T) (a1 : Int32) : Option (Int32 × os_T × os_T × os_T × os_T) :=
  ((ff_X12_save N o_p0 o_p0_panel o_p0_saved0 o_p0_saved1 a1).bind fun u_1 => (if u_1.1 = 0 then (if os_in (0 : Int32) 1 then some ((0 : Int32), u_1.2.2.1, u_1.2.2.2.1, u_1.2.2.2.2, ss_LF o_p2 (vp_updL (os_L o_p2) (Int32.toNatClampNeg (0 : Int32)) (Int32.toInt64 u_1.2.1))) else none) else (if u_1.1 = 2 then some ((1 : Int32), u_1.2.2.1, u_1.2.2.2.1, u_1.2.2.2.2, o_p2) else none)))
set_option maxHeartbeats 4000000 in
set_option maxRecDepth 100000 in
theorem mm_L_save (l : Launch) (hst : l.stackTraces = false) (zz : Nat → Nat → Nat) (D : va_G) (kA : Nat → ClassId) (N : Nat) (g : Nat → Nat → Nat) (q_p2 : Nat → Nat) (o_p0 : os_T) (o_p0_panel : os_T) (o_p0_saved0 : os_T) (o_p0_saved1 : os_T) (o_p2 : os_T) (a1 : Int32) (out : (Int32 × os_T × os_T × os_T × os_T)) (hf : ff_L_save N o_p0 o_p0_panel o_p0_saved0 o_p0_saved1 o_p2 a1 = some out) : mh_C l zz D kA yL_save wsL_save ({ frames := 8, cells := 1, slots := 6, locals := 132 } : Room) [.ref ((g 0) 0), .int a1, .ref (q_p2 0)] (ce_X12 kA g o_p0 ++ (ce_X5 kA (g 1) o_p0_panel ++ (ce_X5 kA (g 3) o_p0_saved0 ++ (ce_X5 kA (g 4) o_p0_saved1 ++ (ce_XJ kA q_p2 o_p2))))) (some (.int out.1)) (ce_X12 kA g out.2.1 ++ (ce_X5 kA (g 1) o_p0_panel ++ (ce_X5 kA (g 3) out.2.2.1 ++ (ce_X5 kA (g 4) out.2.2.2.1 ++ (ce_XJ kA q_p2 out.2.2.2.2))))) := by
  refine mh_of (hh := [(0, 9, 12, 19)]) (cc := cL_save) (maxL := 4) (ret := (some .int)) (by decide) rfl (Nat.le_of_ble_eq_true rfl) ?_
  intro p e s m below meth c A B hex hZ hD hP hS ls hl
  obtain ⟨hx, hb, hr, hlk, hml, hown, hts, hK, hA, hnm⟩ := B
  have hown : s.vm.findClass RL = some m.cls := hown
  have hl : lv_has ls 4 [(0, .ref ((g 0) 0)), (1, .int a1), (2, .ref (q_p2 0))] := hl
  unfold ff_L_save at hf
  refine lv_aload_n hx hb dL_save_0 rfl (lv_at hl 2 rfl) ?_
  refine lv_iconst (v := 0) hx hb dL_save_1 (by decide) ?_
  refine lv_aload_n hx hb dL_save_2 rfl (lv_at hl 0 rfl) ?_
  refine lv_iload_n hx hb dL_save_3 rfl (lv_at hl 1 rfl) ?_
  obtain ⟨u_1, he_2, hf⟩ := os_bd hf
  refine mx_callV ⟨hx, hb, hml, hown, hts⟩ (mm_X12_save l hst zz D kA N g o_p0 o_p0_panel o_p0_saved0 o_p0_saved1 a1 u_1 he_2) (cwV 1 hts gL_save_X12_save rfl rfl rfl (by decide +kernel) ⟨Nat.le_of_ble_eq_true rfl, Nat.le_of_ble_eq_true rfl⟩) (wc := (ce_X12 kA g o_p0 ++ (ce_X5 kA (g 1) o_p0_panel ++ (ce_X5 kA (g 3) o_p0_saved0 ++ (ce_X5 kA (g 4) o_p0_saved1))))) (ci := 8) (q0 := 0) rfl rfl rfl hl.1 (As := [.int a1]) (rest := [.int (0 : Int32), .ref (q_p2 0)]) rfl (Nat.le_of_ble_eq_true rfl) dL_save_4 ⟨Nat.le_of_ble_eq_true rfl, Nat.le_of_ble_eq_true rfl⟩ hK hP hD hS hA hZ [0, 1, 2, 3, 4, 5, 6, 7, 8, 9, 10, 11, 12, 13, 14, 15] [16] [1, 2, 3, 4, 5, 6, 7, 8, 9, 10, 11, 12, 13, 14, 15, 16, 0] rfl (by decide) rfl (by decide) (by decide) rfl (by decide) (wr := (ce_XJ kA q_p2 o_p2)) (w2 := (ce_X12 kA g u_1.2.2.1 ++ (ce_X5 kA (g 1) o_p0_panel ++ (ce_X5 kA (g 3) u_1.2.2.2.1 ++ (ce_X5 kA (g 4) u_1.2.2.2.2 ++ (ce_XJ kA q_p2 o_p2)))))) (fun hx9 H locs q9 ce hP hD hS h91 h92 h93 => ?_) (fun hx9 H locs hP hD hS => ?_)
  · rw [if_neg hx9] at hf
    by_cases hy_4 : u_1.1 = 2
    · rw [if_pos hy_4] at hf
      rw [hy_4] at h93
      refine vx_catch (E := mx_n 2) (name := "java/lang/IllegalArgumentException") hown [] (⟨0, 9, 12, 19⟩ : ExceptionTableEntry) [] hex (fun z h => nomatch h) rfl (by decide) (hts (Cond.classLink RL 19 "java/lang/IllegalArgumentException") (List.mem_of_getElem? (i := 1) rfl)) (va_Nw.use rfl (hZ.2.2.1.2.2.2.1 2)) h91 h92 h93 ?_
      have hP : va_P D vwCl (ce_X12 kA g u_1.2.2.1 ++ (ce_X5 kA (g 1) o_p0_panel ++ (ce_X5 kA (g 3) u_1.2.2.2.1 ++ (ce_X5 kA (g 4) u_1.2.2.2.2 ++ (ce_XJ kA q_p2 o_p2))))) H := hP
      refine lv_astore_n (lv' := [(3, .ref q9), (0, .ref ((g 0) 0)), (1, .int a1), (2, .ref (q_p2 0))]) hx hb dL_save_12 rfl hl (by decide) rfl (fun ls hl => ?_)
      refine lv_iconst (v := 1) hx hb dL_save_13 (by decide) ?_
      rw [← Option.some.inj hf]
      exact W.widen (k := 1) (n := 6) (Nat.le_of_ble_eq_true rfl) (Nat.le_of_ble_eq_true rfl) (mc_reti hx hb hr hlk hP hK hD hS dL_save_14)
    rw [if_neg hy_4] at hf
    cases hf
  · rw [if_pos hx9] at hf
    refine W.widen (k := 1) (n := 6) (Nat.le_of_ble_eq_true rfl) (Nat.le_of_ble_eq_true rfl) ?_
    have hP : va_P D vwCl (ce_X12 kA g u_1.2.2.1 ++ (ce_X5 kA (g 1) o_p0_panel ++ (ce_X5 kA (g 3) u_1.2.2.2.1 ++ (ce_X5 kA (g 4) u_1.2.2.2.2 ++ (ce_XJ kA q_p2 o_p2))))) H := hP
    refine lv_i2l hx hb dL_save_7 rfl ?_
    obtain ⟨hi_3, hf⟩ := os_if hf
    refine va_last hx hb hK hP hD hS 16 4 rfl rfl hi_3 dL_save_8 (fun H locs hP hD hS => ?_)
    have hP : va_P D vwCl (ce_X12 kA g u_1.2.2.1 ++ (ce_X5 kA (g 1) o_p0_panel ++ (ce_X5 kA (g 3) u_1.2.2.2.1 ++ (ce_X5 kA (g 4) u_1.2.2.2.2 ++ (ce_XJ kA q_p2 (ss_LF o_p2 (vp_updL (os_L o_p2) (Int32.toNatClampNeg (0 : Int32)) (Int32.toInt64 u_1.2.1)))))))) H := hP
    have hD : va_D A (ce_X12 kA g u_1.2.2.1 ++ (ce_X5 kA (g 1) o_p0_panel ++ (ce_X5 kA (g 3) u_1.2.2.2.1 ++ (ce_X5 kA (g 4) u_1.2.2.2.2 ++ (ce_XJ kA q_p2 (ss_LF o_p2 (vp_updL (os_L o_p2) (Int32.toNatClampNeg (0 : Int32)) (Int32.toInt64 u_1.2.1)))))))) := hD
    refine lv_goto (tgt := 15) hx hb dL_save_9 (by decide) ?_
    refine lv_iconst (v := 0) hx hb dL_save_15 (by decide) ?_
    rw [← Option.some.inj hf]
    exact W.widen (k := 1) (n := 6) (Nat.le_of_ble_eq_true rfl) (Nat.le_of_ble_eq_true rfl) (mc_reti hx hb hr hlk hP hK hD hS dL_save_16)
def ff_L_restore (N : Nat) (o_p0 : os_T) (o_p0_panel : os_T) (o_p0_saved0 : os_T) (o_p0_saved1 : os_T) (o_p0_history : os_T) (o_p2 : os_T) (a1 : Int32) : Option (Int32 × os_T × os_T × os_T) :=
  ((ff_X12_restore N o_p0 o_p0_panel o_p0_saved0 o_p0_saved1 o_p0_history a1).bind fun u_1 => (if u_1.1 = 0 then (if os_in (0 : Int32) 1 then some ((0 : Int32), u_1.2.2.1, u_1.2.2.2, ss_LF o_p2 (vp_updL (os_L o_p2) (Int32.toNatClampNeg (0 : Int32)) (Int32.toInt64 u_1.2.1))) else none) else (if u_1.1 = 2 then some ((1 : Int32), u_1.2.2.1, u_1.2.2.2, o_p2) else (if u_1.1 = 1 then some ((2 : Int32), u_1.2.2.1, u_1.2.2.2, o_p2) else none))))
set_option maxHeartbeats 4000000 in
set_option maxRecDepth 100000 in
theorem mm_L_restore (l : Launch) (hst : l.stackTraces = false) (zz : Nat → Nat → Nat) (D : va_G) (kA : Nat → ClassId) (N : Nat) (g : Nat → Nat → Nat) (q_p2 : Nat → Nat) (o_p0 : os_T) (o_p0_panel : os_T) (o_p0_saved0 : os_T) (o_p0_saved1 : os_T) (o_p0_history : os_T) (o_p2 : os_T) (a1 : Int32) (out : (Int32 × os_T × os_T × os_T)) (hf : ff_L_restore N o_p0 o_p0_panel o_p0_saved0 o_p0_saved1 o_p0_history o_p2 a1 = some out) : mh_C l zz D kA yL_restore wsL_restore ({ frames := 8, cells := 2, slots := 12, locals := 133 } : Room) [.ref ((g 0) 0), .int a1, .ref (q_p2 0)] (ce_X12 kA g o_p0 ++ (ce_X5 kA (g 1) o_p0_panel ++ (ce_X5 kA (g 3) o_p0_saved0 ++ (ce_X5 kA (g 4) o_p0_saved1 ++ (ce_X3 kA (g 5) (fun k => g (6 + k)) o_p0_history ++ (ce_XJ kA q_p2 o_p2)))))) (some (.int out.1)) (ce_X12 kA g o_p0 ++ (ce_X5 kA (g 1) out.2.1 ++ (ce_X5 kA (g 3) o_p0_saved0 ++ (ce_X5 kA (g 4) o_p0_saved1 ++ (ce_X3 kA (g 5) (fun k => g (6 + k)) out.2.2.1 ++ (ce_XJ kA q_p2 out.2.2.2)))))) := by
  refine mh_of (hh := [(0, 9, 12, 19), (0, 9, 15, 13)]) (cc := cL_restore) (maxL := 4) (ret := (some .int)) (by decide) rfl (Nat.le_of_ble_eq_true rfl) ?_
  intro p e s m below meth c A B hex hZ hD hP hS ls hl
  obtain ⟨hx, hb, hr, hlk, hml, hown, hts, hK, hA, hnm⟩ := B
  have hown : s.vm.findClass RL = some m.cls := hown
  have hl : lv_has ls 4 [(0, .ref ((g 0) 0)), (1, .int a1), (2, .ref (q_p2 0))] := hl
  unfold ff_L_restore at hf
  refine lv_aload_n hx hb dL_restore_0 rfl (lv_at hl 2 rfl) ?_
  refine lv_iconst (v := 0) hx hb dL_restore_1 (by decide) ?_
  refine lv_aload_n hx hb dL_restore_2 rfl (lv_at hl 0 rfl) ?_
  refine lv_iload_n hx hb dL_restore_3 rfl (lv_at hl 1 rfl) ?_
  obtain ⟨u_1, he_2, hf⟩ := os_bd hf
  refine mx_callV ⟨hx, hb, hml, hown, hts⟩ (mm_X12_restore l hst zz D kA N g o_p0 o_p0_panel o_p0_saved0 o_p0_saved1 o_p0_history a1 u_1 he_2) (cwV 1 hts gL_restore_X12_restore rfl rfl rfl (by decide +kernel) ⟨Nat.le_of_ble_eq_true rfl, Nat.le_of_ble_eq_true rfl⟩) (wc := (ce_X12 kA g o_p0 ++ (ce_X5 kA (g 1) o_p0_panel ++ (ce_X5 kA (g 3) o_p0_saved0 ++ (ce_X5 kA (g 4) o_p0_saved1 ++ (ce_X3 kA (g 5) (fun k => g (6 + k)) o_p0_history)))))) (ci := 8) (q0 := 0) rfl rfl rfl hl.1 (As := [.int a1]) (rest := [.int (0 : Int32), .ref (q_p2 0)]) rfl (Nat.le_of_ble_eq_true rfl) dL_restore_4 ⟨Nat.le_of_ble_eq_true rfl, Nat.le_of_ble_eq_true rfl⟩ hK hP hD hS hA hZ [0, 1, 2, 3, 4, 5, 6, 7, 8, 9, 10, 11, 12, 13, 14, 15, 16, 17] [18] [1, 2, 3, 4, 5, 6, 7, 8, 9, 10, 11, 12, 13, 14, 15, 16, 17, 18, 0] rfl (by decide) rfl (by decide) (by decide) rfl (by decide) (wr := (ce_XJ kA q_p2 o_p2)) (w2 := (ce_X12 kA g o_p0 ++ (ce_X5 kA (g 1) u_1.2.2.1 ++ (ce_X5 kA (g 3) o_p0_saved0 ++ (ce_X5 kA (g 4) o_p0_saved1 ++ (ce_X3 kA (g 5) (fun k => g (6 + k)) u_1.2.2.2 ++ (ce_XJ kA q_p2 o_p2))))))) (fun hx9 H locs q9 ce hP hD hS h91 h92 h93 => ?_) (fun hx9 H locs hP hD hS => ?_)
  · rw [if_neg hx9] at hf
    by_cases hy_4 : u_1.1 = 2
    · rw [if_pos hy_4] at hf
      rw [hy_4] at h93
      refine vx_catch (E := mx_n 2) (name := "java/lang/IllegalArgumentException") hown [] (⟨0, 9, 12, 19⟩ : ExceptionTableEntry) [(⟨0, 9, 15, 13⟩ : ExceptionTableEntry)] hex (fun z h => nomatch h) rfl (by decide) (hts (Cond.classLink RL 19 "java/lang/IllegalArgumentException") (List.mem_of_getElem? (i := 1) rfl)) (va_Nw.use rfl (hZ.2.2.1.2.2.2.1 2)) h91 h92 h93 ?_
      have hP : va_P D vwCl (ce_X12 kA g o_p0 ++ (ce_X5 kA (g 1) u_1.2.2.1 ++ (ce_X5 kA (g 3) o_p0_saved0 ++ (ce_X5 kA (g 4) o_p0_saved1 ++ (ce_X3 kA (g 5) (fun k => g (6 + k)) u_1.2.2.2 ++ (ce_XJ kA q_p2 o_p2)))))) H := hP
      refine lv_astore_n (lv' := [(3, .ref q9), (0, .ref ((g 0) 0)), (1, .int a1), (2, .ref (q_p2 0))]) hx hb dL_restore_12 rfl hl (by decide) rfl (fun ls hl => ?_)
      refine lv_iconst (v := 1) hx hb dL_restore_13 (by decide) ?_
      rw [← Option.some.inj hf]
      exact W.widen (k := 2) (n := 12) (Nat.le_of_ble_eq_true rfl) (Nat.le_of_ble_eq_true rfl) (mc_reti hx hb hr hlk hP hK hD hS dL_restore_14)
    rw [if_neg hy_4] at hf
    by_cases hy_5 : u_1.1 = 1
    · rw [if_pos hy_5] at hf
      rw [hy_5] at h93
      refine vx_catch (E := mx_n 1) (name := "java/lang/IllegalStateException") hown [(⟨0, 9, 12, 19⟩ : ExceptionTableEntry)] (⟨0, 9, 15, 13⟩ : ExceptionTableEntry) [] hex (fun z h => by rcases List.mem_singleton.mp h with rfl; exact Or.inr ⟨by decide, "java/lang/IllegalArgumentException", hts (Cond.classLink RL 19 "java/lang/IllegalArgumentException") (List.mem_of_getElem? (i := 1) rfl), hZ.2.2.1.2.2.2.2 1 2 (by decide)⟩) rfl (by decide) (hts (Cond.classLink RL 13 "java/lang/IllegalStateException") (List.mem_of_getElem? (i := 2) rfl)) (va_Nw.use rfl (hZ.2.2.1.2.2.2.1 1)) h91 h92 h93 ?_
      have hP : va_P D vwCl (ce_X12 kA g o_p0 ++ (ce_X5 kA (g 1) u_1.2.2.1 ++ (ce_X5 kA (g 3) o_p0_saved0 ++ (ce_X5 kA (g 4) o_p0_saved1 ++ (ce_X3 kA (g 5) (fun k => g (6 + k)) u_1.2.2.2 ++ (ce_XJ kA q_p2 o_p2)))))) H := hP
      refine lv_astore_n (lv' := [(3, .ref q9), (0, .ref ((g 0) 0)), (1, .int a1), (2, .ref (q_p2 0))]) hx hb dL_restore_15 rfl hl (by decide) rfl (fun ls hl => ?_)
      refine lv_iconst (v := 2) hx hb dL_restore_16 (by decide) ?_
      rw [← Option.some.inj hf]
      exact W.widen (k := 2) (n := 12) (Nat.le_of_ble_eq_true rfl) (Nat.le_of_ble_eq_true rfl) (mc_reti hx hb hr hlk hP hK hD hS dL_restore_17)
    rw [if_neg hy_5] at hf
    cases hf
  · rw [if_pos hx9] at hf
    refine W.widen (k := 2) (n := 12) (Nat.le_of_ble_eq_true rfl) (Nat.le_of_ble_eq_true rfl) ?_
    have hP : va_P D vwCl (ce_X12 kA g o_p0 ++ (ce_X5 kA (g 1) u_1.2.2.1 ++ (ce_X5 kA (g 3) o_p0_saved0 ++ (ce_X5 kA (g 4) o_p0_saved1 ++ (ce_X3 kA (g 5) (fun k => g (6 + k)) u_1.2.2.2 ++ (ce_XJ kA q_p2 o_p2)))))) H := hP
    refine lv_i2l hx hb dL_restore_7 rfl ?_
    obtain ⟨hi_3, hf⟩ := os_if hf
    refine va_last hx hb hK hP hD hS 18 4 rfl rfl hi_3 dL_restore_8 (fun H locs hP hD hS => ?_)
    have hP : va_P D vwCl (ce_X12 kA g o_p0 ++ (ce_X5 kA (g 1) u_1.2.2.1 ++ (ce_X5 kA (g 3) o_p0_saved0 ++ (ce_X5 kA (g 4) o_p0_saved1 ++ (ce_X3 kA (g 5) (fun k => g (6 + k)) u_1.2.2.2 ++ (ce_XJ kA q_p2 (ss_LF o_p2 (vp_updL (os_L o_p2) (Int32.toNatClampNeg (0 : Int32)) (Int32.toInt64 u_1.2.1))))))))) H := hP
    have hD : va_D A (ce_X12 kA g o_p0 ++ (ce_X5 kA (g 1) u_1.2.2.1 ++ (ce_X5 kA (g 3) o_p0_saved0 ++ (ce_X5 kA (g 4) o_p0_saved1 ++ (ce_X3 kA (g 5) (fun k => g (6 + k)) u_1.2.2.2 ++ (ce_XJ kA q_p2 (ss_LF o_p2 (vp_updL (os_L o_p2) (Int32.toNatClampNeg (0 : Int32)) (Int32.toInt64 u_1.2.1))))))))) := hD
    refine lv_goto (tgt := 18) hx hb dL_restore_9 (by decide) ?_
    refine lv_iconst (v := 0) hx hb dL_restore_18 (by decide) ?_
    rw [← Option.some.inj hf]
    exact W.widen (k := 2) (n := 12) (Nat.le_of_ble_eq_true rfl) (Nat.le_of_ble_eq_true rfl) (mc_reti hx hb hr hlk hP hK hD hS dL_restore_19)
