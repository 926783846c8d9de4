def ff_X3_open (N : Nat) (o_this : os_T) (o_this_panels0 : os_T) (o_this_panels1 : os_T) (o_this_panels2 : os_T) (o_this_panels3 : os_T) (o_this_panels4 : os_T) (o_this_panels5 : os_T) (o_this_panels6 : os_T) (o_p1 : os_T) : Option (os_T × os_T × os_T × os_T × os_T × os_T × os_T) :=
  (if (os_I o_this 1) < 0 then some (o_this_panels0, o_this_panels1, o_this_panels2, o_this_panels3, o_this_panels4, o_this_panels5, o_this_panels6) else (if (7 : Int32) ≤ (os_I o_this 1) then some (o_this_panels0, o_this_panels1, o_this_panels2, o_this_panels3, o_this_panels4, o_this_panels5, o_this_panels6) else (if os_in (os_I o_this 1) 7 then (if (os_I o_this 1) = 0 then ((ff_X5_copyFrom N o_this_panels0 o_p1).bind fun u_5 => some (u_5, o_this_panels1, o_this_panels2, o_this_panels3, o_this_panels4, o_this_panels5, o_this_panels6)) else (if (os_I o_this 1) = 1 then ((ff_X5_copyFrom N o_this_panels1 o_p1).bind fun u_8 => some (o_this_panels0, u_8, o_this_panels2, o_this_panels3, o_this_panels4, o_this_panels5, o_this_panels6)) else (if (os_I o_this 1) = 2 then ((ff_X5_copyFrom N o_this_panels2 o_p1).bind fun u_11 => some (o_this_panels0, o_this_panels1, u_11, o_this_panels3, o_this_panels4, o_this_panels5, o_this_panels6)) else (if (os_I o_this 1) = 3 then ((ff_X5_copyFrom N o_this_panels3 o_p1).bind fun u_14 => some (o_this_panels0, o_this_panels1, o_this_panels2, u_14, o_this_panels4, o_this_panels5, o_this_panels6)) else (if (os_I o_this 1) = 4 then ((ff_X5_copyFrom N o_this_panels4 o_p1).bind fun u_17 => some (o_this_panels0, o_this_panels1, o_this_panels2, o_this_panels3, u_17, o_this_panels5, o_this_panels6)) else (if (os_I o_this 1) = 5 then ((ff_X5_copyFrom N o_this_panels5 o_p1).bind fun u_20 => some (o_this_panels0, o_this_panels1, o_this_panels2, o_this_panels3, o_this_panels4, u_20, o_this_panels6)) else (if (os_I o_this 1) = 6 then ((ff_X5_copyFrom N o_this_panels6 o_p1).bind fun u_23 => some (o_this_panels0, o_this_panels1, o_this_panels2, o_this_panels3, o_this_panels4, o_this_panels5, u_23)) else none))))))) else none)))
set_option maxHeartbeats 4000000 in
set_option maxRecDepth 100000 in
theorem mm_X3_open (l : Launch) (D : va_G) (kA : Nat → ClassId) (N : Nat) (q_this : Nat → Nat) (qh : Nat → Nat → Nat) (q_p1 : Nat → Nat) (o_this : os_T) (o_this_panels0 : os_T) (o_this_panels1 : os_T) (o_this_panels2 : os_T) (o_this_panels3 : os_T) (o_this_panels4 : os_T) (o_this_panels5 : os_T) (o_this_panels6 : os_T) (o_p1 : os_T) (out : (os_T × os_T × os_T × os_T × os_T × os_T × os_T)) (hf : ff_X3_open N o_this o_this_panels0 o_this_panels1 o_this_panels2 o_this_panels3 o_this_panels4 o_this_panels5 o_this_panels6 o_p1 = some out) : mc_C l D kA yX3_open wsX3_open ({ frames := 3, cells := 0, slots := 0, locals := 102 } : Room) [.ref (q_this 0), .ref (q_p1 0)] (ce_X3 kA q_this qh o_this ++ (ce_X5 kA (qh 0) o_this_panels0 ++ (ce_X5 kA (qh 1) o_this_panels1 ++ (ce_X5 kA (qh 2) o_this_panels2 ++ (ce_X5 kA (qh 3) o_this_panels3 ++ (ce_X5 kA (qh 4) o_this_panels4 ++ (ce_X5 kA (qh 5) o_this_panels5 ++ (ce_X5 kA (qh 6) o_this_panels6 ++ (ce_X5 kA q_p1 o_p1))))))))) none (ce_X3 kA q_this qh o_this ++ (ce_X5 kA (qh 0) out.1 ++ (ce_X5 kA (qh 1) out.2.1 ++ (ce_X5 kA (qh 2) out.2.2.1 ++ (ce_X5 kA (qh 3) out.2.2.2.1 ++ (ce_X5 kA (qh 4) out.2.2.2.2.1 ++ (ce_X5 kA (qh 5) out.2.2.2.2.2.1 ++ (ce_X5 kA (qh 6) out.2.2.2.2.2.2 ++ (ce_X5 kA q_p1 o_p1))))))))) := by
  refine mc_of (cc := cX3_open) (maxL := 2) (ret := none) (by decide) rfl (Nat.le_of_ble_eq_true rfl) ?_
  intro p e s m below meth c A B hD hP hS ls hl
  obtain ⟨hx, hb, hr, hlk, hml, hown, hts, hK, hA, hnm⟩ := B
  have hown : s.vm.findClass RX3 = some m.cls := hown
  have hl : lv_has ls 2 [(0, .ref (q_this 0)), (1, .ref (q_p1 0))] := hl
  have hUX3 : ∀ w ∈ u_ws RX3 TX3 3, w.before [.ref (q_this 0), .ref (q_p1 0)].toArray s = true := fun w h => hts w (List.mem_cons_of_mem _ (List.mem_append_left _ (List.mem_append_right _ h)))
  unfold ff_X3_open at hf
  refine lv_aload_n hx hb dX3_open_0 rfl (lv_at hl 0 rfl) ?_
  refine va_get (D := D) (ci := 2) (v := .int (os_I o_this 1)) (C := RX3) (T := TX3) (N := 3) hx hb hUX3 (fun _ h9 => h9) hown hK hP 0 rfl rfl 1 (by decide) (hts (Cond.fieldLink RX3 16 "ReliefBuilder$History" "next" "I") (List.mem_of_getElem? (i := 1) rfl)) (fun _ h9 => h9) rfl dX3_open_1 ?_
  refine lv_if_lt (tgt := 29) hx hb dX3_open_4 (by decide) (fun hc_1 => ?_) (fun hc_1 => ?_)
  · rw [if_pos hc_1] at hf
    rw [← Option.some.inj hf]
    exact mc_retv hx hb hr hlk hP hK hD hS dX3_open_29
  · rw [if_neg hc_1] at hf
    refine lv_aload_n hx hb dX3_open_7 rfl (lv_at hl 0 rfl) ?_
    refine va_get (D := D) (ci := 2) (v := .int (os_I o_this 1)) (C := RX3) (T := TX3) (N := 3) hx hb hUX3 (fun _ h9 => h9) hown hK hP 0 rfl rfl 1 (by decide) (hts (Cond.fieldLink RX3 16 "ReliefBuilder$History" "next" "I") (List.mem_of_getElem? (i := 1) rfl)) (fun _ h9 => h9) rfl dX3_open_8 ?_
    refine lv_bipush (v := 7) hx hb dX3_open_11 (by decide) ?_
    refine lv_icmp_ge (tgt := 29) hx hb dX3_open_13 (by decide) (fun hc_2 => ?_) (fun hc_2 => ?_)
    · rw [if_pos hc_2] at hf
      rw [← Option.some.inj hf]
      exact mc_retv hx hb hr hlk hP hK hD hS dX3_open_29
    · rw [if_neg hc_2] at hf
      refine lv_aload_n hx hb dX3_open_16 rfl (lv_at hl 0 rfl) ?_
      refine va_get (D := D) (ci := 2) (v := .ref (q_this 1)) (C := RX3) (T := TX3) (N := 3) hx hb hUX3 (fun _ h9 => h9) hown hK hP 0 rfl rfl 0 (by decide) (hts (Cond.fieldLink RX3 11 "ReliefBuilder$History" "panels" "[LReliefBuilder$Panel;") (List.mem_of_getElem? (i := 2) rfl)) (fun _ h9 => h9) rfl dX3_open_17 ?_
      refine lv_aload_n hx hb dX3_open_20 rfl (lv_at hl 0 rfl) ?_
      refine va_get (D := D) (ci := 2) (v := .int (os_I o_this 1)) (C := RX3) (T := TX3) (N := 3) hx hb hUX3 (fun _ h9 => h9) hown hK hP 0 rfl rfl 1 (by decide) (hts (Cond.fieldLink RX3 16 "ReliefBuilder$History" "next" "I") (List.mem_of_getElem? (i := 1) rfl)) (fun _ h9 => h9) rfl dX3_open_21 ?_
      obtain ⟨hi_3, hf⟩ := os_if hf
      refine va_aldq hx hb hK hP 1 6 rfl rfl hi_3 dX3_open_24 ?_
      by_cases hc_4 : (os_I o_this 1) = 0
      · rw [if_pos hc_4] at hf
        refine W.eq (g2 := F0 m 25 ls [.ref ((qh 0) 0)]) (by rw [hc_4] <;> rfl) ?_
        refine lv_aload_n hx hb dX3_open_25 rfl (lv_at hl 1 rfl) ?_
        obtain ⟨u_5, he_6, hf⟩ := os_bd hf
        refine mc_callV ⟨hx, hb, hml, hown, hts⟩ (mm_X5_copyFrom l D kA N (qh 0) q_p1 o_this_panels0 o_p1 u_5 he_6) (cwV 1 hts gX3_open_X5_copyFrom rfl rfl rfl (by decide +kernel) ⟨Nat.le_of_ble_eq_true rfl, Nat.le_of_ble_eq_true rfl⟩) (wc := (ce_X5 kA (qh 0) o_this_panels0 ++ (ce_X5 kA q_p1 o_p1))) (ci := 4) (q0 := 0) rfl rfl rfl hl.1 (As := [.ref (q_p1 0)]) (rest := []) rfl (Nat.le_of_ble_eq_true rfl) dX3_open_26 ⟨Nat.le_of_ble_eq_true rfl, Nat.le_of_ble_eq_true rfl⟩ hK hP hD hS hA [2, 3, 4, 5, 30, 31, 32, 33] [0, 1, 6, 7, 8, 9, 10, 11, 12, 13, 14, 15, 16, 17, 18, 19, 20, 21, 22, 23, 24, 25, 26, 27, 28, 29] [0, 1, 26, 27, 28, 29, 2, 3, 4, 5, 6, 7, 8, 9, 10, 11, 12, 13, 14, 15, 16, 17, 18, 19, 20, 21, 22, 23, 24, 25, 30, 31, 32, 33] rfl (by decide) rfl (by decide) (by decide) rfl (by decide) (wr := (ce_X3 kA q_this qh o_this ++ (ce_X5 kA (qh 1) o_this_panels1 ++ (ce_X5 kA (qh 2) o_this_panels2 ++ (ce_X5 kA (qh 3) o_this_panels3 ++ (ce_X5 kA (qh 4) o_this_panels4 ++ (ce_X5 kA (qh 5) o_this_panels5 ++ (ce_X5 kA (qh 6) o_this_panels6)))))))) (w2 := (ce_X3 kA q_this qh o_this ++ (ce_X5 kA (qh 0) u_5 ++ (ce_X5 kA (qh 1) o_this_panels1 ++ (ce_X5 kA (qh 2) o_this_panels2 ++ (ce_X5 kA (qh 3) o_this_panels3 ++ (ce_X5 kA (qh 4) o_this_panels4 ++ (ce_X5 kA (qh 5) o_this_panels5 ++ (ce_X5 kA (qh 6) o_this_panels6 ++ (ce_X5 kA q_p1 o_p1)))))))))) (fun H locs hP hD hS => ?_)
        have hP : va_P D vwCl (ce_X3 kA q_this qh o_this ++ (ce_X5 kA (qh 0) u_5 ++ (ce_X5 kA (qh 1) o_this_panels1 ++ (ce_X5 kA (qh 2) o_this_panels2 ++ (ce_X5 kA (qh 3) o_this_panels3 ++ (ce_X5 kA (qh 4) o_this_panels4 ++ (ce_X5 kA (qh 5) o_this_panels5 ++ (ce_X5 kA (qh 6) o_this_panels6 ++ (ce_X5 kA q_p1 o_p1))))))))) H := hP
        rw [← Option.some.inj hf]
        exact mc_retv hx hb hr hlk hP hK hD hS dX3_open_29
      rw [if_neg hc_4] at hf
      by_cases hc_7 : (os_I o_this 1) = 1
      · rw [if_pos hc_7] at hf
        refine W.eq (g2 := F0 m 25 ls [.ref ((qh 1) 0)]) (by rw [hc_7] <;> rfl) ?_
        refine lv_aload_n hx hb dX3_open_25 rfl (lv_at hl 1 rfl) ?_
        obtain ⟨u_8, he_9, hf⟩ := os_bd hf
        refine mc_callV ⟨hx, hb, hml, hown, hts⟩ (mm_X5_copyFrom l D kA N (qh 1) q_p1 o_this_panels1 o_p1 u_8 he_9) (cwV 1 hts gX3_open_X5_copyFrom rfl rfl rfl (by decide +kernel) ⟨Nat.le_of_ble_eq_true rfl, Nat.le_of_ble_eq_true rfl⟩) (wc := (ce_X5 kA (qh 1) o_this_panels1 ++ (ce_X5 kA q_p1 o_p1))) (ci := 4) (q0 := 0) rfl rfl rfl hl.1 (As := [.ref (q_p1 0)]) (rest := []) rfl (Nat.le_of_ble_eq_true rfl) dX3_open_26 ⟨Nat.le_of_ble_eq_true rfl, Nat.le_of_ble_eq_true rfl⟩ hK hP hD hS hA [6, 7, 8, 9, 30, 31, 32, 33] [0, 1, 2, 3, 4, 5, 10, 11, 12, 13, 14, 15, 16, 17, 18, 19, 20, 21, 22, 23, 24, 25, 26, 27, 28, 29] [0, 1, 2, 3, 4, 5, 26, 27, 28, 29, 6, 7, 8, 9, 10, 11, 12, 13, 14, 15, 16, 17, 18, 19, 20, 21, 22, 23, 24, 25, 30, 31, 32, 33] rfl (by decide) rfl (by decide) (by decide) rfl (by decide) (wr := (ce_X3 kA q_this qh o_this ++ (ce_X5 kA (qh 0) o_this_panels0 ++ (ce_X5 kA (qh 2) o_this_panels2 ++ (ce_X5 kA (qh 3) o_this_panels3 ++ (ce_X5 kA (qh 4) o_this_panels4 ++ (ce_X5 kA (qh 5) o_this_panels5 ++ (ce_X5 kA (qh 6) o_this_panels6)))))))) (w2 := (ce_X3 kA q_this qh o_this ++ (ce_X5 kA (qh 0) o_this_panels0 ++ (ce_X5 kA (qh 1) u_8 ++ (ce_X5 kA (qh 2) o_this_panels2 ++ (ce_X5 kA (qh 3) o_this_panels3 ++ (ce_X5 kA (qh 4) o_this_panels4 ++ (ce_X5 kA (qh 5) o_this_panels5 ++ (ce_X5 kA (qh 6) o_this_panels6 ++ (ce_X5 kA q_p1 o_p1)))))))))) (fun H locs hP hD hS => ?_)
        have hP : va_P D vwCl (ce_X3 kA q_this qh o_this ++ (ce_X5 kA (qh 0) o_this_panels0 ++ (ce_X5 kA (qh 1) u_8 ++ (ce_X5 kA (qh 2) o_this_panels2 ++ (ce_X5 kA (qh 3) o_this_panels3 ++ (ce_X5 kA (qh 4) o_this_panels4 ++ (ce_X5 kA (qh 5) o_this_panels5 ++ (ce_X5 kA (qh 6) o_this_panels6 ++ (ce_X5 kA q_p1 o_p1))))))))) H := hP
        rw [← Option.some.inj hf]
        exact mc_retv hx hb hr hlk hP hK hD hS dX3_open_29
      rw [if_neg hc_7] at hf
      by_cases hc_10 : (os_I o_this 1) = 2
      · rw [if_pos hc_10] at hf
        refine W.eq (g2 := F0 m 25 ls [.ref ((qh 2) 0)]) (by rw [hc_10] <;> rfl) ?_
        refine lv_aload_n hx hb dX3_open_25 rfl (lv_at hl 1 rfl) ?_
        obtain ⟨u_11, he_12, hf⟩ := os_bd hf
        refine mc_callV ⟨hx, hb, hml, hown, hts⟩ (mm_X5_copyFrom l D kA N (qh 2) q_p1 o_this_panels2 o_p1 u_11 he_12) (cwV 1 hts gX3_open_X5_copyFrom rfl rfl rfl (by decide +kernel) ⟨Nat.le_of_ble_eq_true rfl, Nat.le_of_ble_eq_true rfl⟩) (wc := (ce_X5 kA (qh 2) o_this_panels2 ++ (ce_X5 kA q_p1 o_p1))) (ci := 4) (q0 := 0) rfl rfl rfl hl.1 (As := [.ref (q_p1 0)]) (rest := []) rfl (Nat.le_of_ble_eq_true rfl) dX3_open_26 ⟨Nat.le_of_ble_eq_true rfl, Nat.le_of_ble_eq_true rfl⟩ hK hP hD hS hA [10, 11, 12, 13, 30, 31, 32, 33] [0, 1, 2, 3, 4, 5, 6, 7, 8, 9, 14, 15, 16, 17, 18, 19, 20, 21, 22, 23, 24, 25, 26, 27, 28, 29] [0, 1, 2, 3, 4, 5, 6, 7, 8, 9, 26, 27, 28, 29, 10, 11, 12, 13, 14, 15, 16, 17, 18, 19, 20, 21, 22, 23, 24, 25, 30, 31, 32, 33] rfl (by decide) rfl (by decide) (by decide) rfl (by decide) (wr := (ce_X3 kA q_this qh o_this ++ (ce_X5 kA (qh 0) o_this_panels0 ++ (ce_X5 kA (qh 1) o_this_panels1 ++ (ce_X5 kA (qh 3) o_this_panels3 ++ (ce_X5 kA (qh 4) o_this_panels4 ++ (ce_X5 kA (qh 5) o_this_panels5 ++ (ce_X5 kA (qh 6) o_this_panels6)))))))) (w2 := (ce_X3 kA q_this qh o_this ++ (ce_X5 kA (qh 0) o_this_panels0 ++ (ce_X5 kA (qh 1) o_this_panels1 ++ (ce_X5 kA (qh 2) u_11 ++ (ce_X5 kA (qh 3) o_this_panels3 ++ (ce_X5 kA (qh 4) o_this_panels4 ++ (ce_X5 kA (qh 5) o_this_panels5 ++ (ce_X5 kA (qh 6) o_this_panels6 ++ (ce_X5 kA q_p1 o_p1)))))))))) (fun H locs hP hD hS => ?_)
        have hP : va_P D vwCl (ce_X3 kA q_this qh o_this ++ (ce_X5 kA (qh 0) o_this_panels0 ++ (ce_X5 kA (qh 1) o_this_panels1 ++ (ce_X5 kA (qh 2) u_11 ++ (ce_X5 kA (qh 3) o_this_panels3 ++ (ce_X5 kA (qh 4) o_this_panels4 ++ (ce_X5 kA (qh 5) o_this_panels5 ++ (ce_X5 kA (qh 6) o_this_panels6 ++ (ce_X5 kA q_p1 o_p1))))))))) H := hP
        rw [← Option.some.inj hf]
        exact mc_retv hx hb hr hlk hP hK hD hS dX3_open_29
      rw [if_neg hc_10] at hf
      by_cases hc_13 : (os_I o_this 1) = 3
      · rw [if_pos hc_13] at hf
        refine W.eq (g2 := F0 m 25 ls [.ref ((qh 3) 0)]) (by rw [hc_13] <;> rfl) ?_
        refine lv_aload_n hx hb dX3_open_25 rfl (lv_at hl 1 rfl) ?_
        obtain ⟨u_14, he_15, hf⟩ := os_bd hf
        refine mc_callV ⟨hx, hb, hml, hown, hts⟩ (mm_X5_copyFrom l D kA N (qh 3) q_p1 o_this_panels3 o_p1 u_14 he_15) (cwV 1 hts gX3_open_X5_copyFrom rfl rfl rfl (by decide +kernel) ⟨Nat.le_of_ble_eq_true rfl, Nat.le_of_ble_eq_true rfl⟩) (wc := (ce_X5 kA (qh 3) o_this_panels3 ++ (ce_X5 kA q_p1 o_p1))) (ci := 4) (q0 := 0) rfl rfl rfl hl.1 (As := [.ref (q_p1 0)]) (rest := []) rfl (Nat.le_of_ble_eq_true rfl) dX3_open_26 ⟨Nat.le_of_ble_eq_true rfl, Nat.le_of_ble_eq_true rfl⟩ hK hP hD hS hA [14, 15, 16, 17, 30, 31, 32, 33] [0, 1, 2, 3, 4, 5, 6, 7, 8, 9, 10, 11, 12, 13, 18, 19, 20, 21, 22, 23, 24, 25, 26, 27, 28, 29] [0, 1, 2, 3, 4, 5, 6, 7, 8, 9, 10, 11, 12, 13, 26, 27, 28, 29, 14, 15, 16, 17, 18, 19, 20, 21, 22, 23, 24, 25, 30, 31, 32, 33] rfl (by decide) rfl (by decide) (by decide) rfl (by decide) (wr := (ce_X3 kA q_this qh o_this ++ (ce_X5 kA (qh 0) o_this_panels0 ++ (ce_X5 kA (qh 1) o_this_panels1 ++ (ce_X5 kA (qh 2) o_this_panels2 ++ (ce_X5 kA (qh 4) o_this_panels4 ++ (ce_X5 kA (qh 5) o_this_panels5 ++ (ce_X5 kA (qh 6) o_this_panels6)))))))) (w2 := (ce_X3 kA q_this qh o_this ++ (ce_X5 kA (qh 0) o_this_panels0 ++ (ce_X5 kA (qh 1) o_this_panels1 ++ (ce_X5 kA (qh 2) o_this_panels2 ++ (ce_X5 kA (qh 3) u_14 ++ (ce_X5 kA (qh 4) o_this_panels4 ++ (ce_X5 kA (qh 5) o_this_panels5 ++ (ce_X5 kA (qh 6) o_this_panels6 ++ (ce_X5 kA q_p1 o_p1)))))))))) (fun H locs hP hD hS => ?_)
        have hP : va_P D vwCl (ce_X3 kA q_this qh o_this ++ (ce_X5 kA (qh 0) o_this_panels0 ++ (ce_X5 kA (qh 1) o_this_panels1 ++ (ce_X5 kA (qh 2) o_this_panels2 ++ (ce_X5 kA (qh 3) u_14 ++ (ce_X5 kA (qh 4) o_this_panels4 ++ (ce_X5 kA (qh 5) o_this_panels5 ++ (ce_X5 kA (qh 6) o_this_panels6 ++ (ce_X5 kA q_p1 o_p1))))))))) H := hP
        rw [← Option.some.inj hf]
        exact mc_retv hx hb hr hlk hP hK hD hS dX3_open_29
      rw [if_neg hc_13] at hf
      by_cases hc_16 : (os_I o_this 1) = 4
      · rw [if_pos hc_16] at hf
        refine W.eq (g2 := F0 m 25 ls [.ref ((qh 4) 0)]) (by rw [hc_16] <;> rfl) ?_
        refine lv_aload_n hx hb dX3_open_25 rfl (lv_at hl 1 rfl) ?_
        obtain ⟨u_17, he_18, hf⟩ := os_bd hf
        refine mc_callV ⟨hx, hb, hml, hown, hts⟩ (mm_X5_copyFrom l D kA N (qh 4) q_p1 o_this_panels4 o_p1 u_17 he_18) (cwV 1 hts gX3_open_X5_copyFrom rfl rfl rfl (by decide +kernel) ⟨Nat.le_of_ble_eq_true rfl, Nat.le_of_ble_eq_true rfl⟩) (wc := (ce_X5 kA (qh 4) o_this_panels4 ++ (ce_X5 kA q_p1 o_p1))) (ci := 4) (q0 := 0) rfl rfl rfl hl.1 (As := [.ref (q_p1 0)]) (rest := []) rfl (Nat.le_of_ble_eq_true rfl) dX3_open_26 ⟨Nat.le_of_ble_eq_true rfl, Nat.le_of_ble_eq_true rfl⟩ hK hP hD hS hA [18, 19, 20, 21, 30, 31, 32, 33] [0, 1, 2, 3, 4, 5, 6, 7, 8, 9, 10, 11, 12, 13, 14, 15, 16, 17, 22, 23, 24, 25, 26, 27, 28, 29] [0, 1, 2, 3, 4, 5, 6, 7, 8, 9, 10, 11, 12, 13, 14, 15, 16, 17, 26, 27, 28, 29, 18, 19, 20, 21, 22, 23, 24, 25, 30, 31, 32, 33] rfl (by decide) rfl (by decide) (by decide) rfl (by decide) (wr := (ce_X3 kA q_this qh o_this ++ (ce_X5 kA (qh 0) o_this_panels0 ++ (ce_X5 kA (qh 1) o_this_panels1 ++ (ce_X5 kA (qh 2) o_this_panels2 ++ (ce_X5 kA (qh 3) o_this_panels3 ++ (ce_X5 kA (qh 5) o_this_panels5 ++ (ce_X5 kA (qh 6) o_this_panels6)))))))) (w2 := (ce_X3 kA q_this qh o_this ++ (ce_X5 kA (qh 0) o_this_panels0 ++ (ce_X5 kA (qh 1) o_this_panels1 ++ (ce_X5 kA (qh 2) o_this_panels2 ++ (ce_X5 kA (qh 3) o_this_panels3 ++ (ce_X5 kA (qh 4) u_17 ++ (ce_X5 kA (qh 5) o_this_panels5 ++ (ce_X5 kA (qh 6) o_this_panels6 ++ (ce_X5 kA q_p1 o_p1)))))))))) (fun H locs hP hD hS => ?_)
        have hP : va_P D vwCl (ce_X3 kA q_this qh o_this ++ (ce_X5 kA (qh 0) o_this_panels0 ++ (ce_X5 kA (qh 1) o_this_panels1 ++ (ce_X5 kA (qh 2) o_this_panels2 ++ (ce_X5 kA (qh 3) o_this_panels3 ++ (ce_X5 kA (qh 4) u_17 ++ (ce_X5 kA (qh 5) o_this_panels5 ++ (ce_X5 kA (qh 6) o_this_panels6 ++ (ce_X5 kA q_p1 o_p1))))))))) H := hP
        rw [← Option.some.inj hf]
        exact mc_retv hx hb hr hlk hP hK hD hS dX3_open_29
      rw [if_neg hc_16] at hf
      by_cases hc_19 : (os_I o_this 1) = 5
      · rw [if_pos hc_19] at hf
        refine W.eq (g2 := F0 m 25 ls [.ref ((qh 5) 0)]) (by rw [hc_19] <;> rfl) ?_
        refine lv_aload_n hx hb dX3_open_25 rfl (lv_at hl 1 rfl) ?_
        obtain ⟨u_20, he_21, hf⟩ := os_bd hf
        refine mc_callV ⟨hx, hb, hml, hown, hts⟩ (mm_X5_copyFrom l D kA N (qh 5) q_p1 o_this_panels5 o_p1 u_20 he_21) (cwV 1 hts gX3_open_X5_copyFrom rfl rfl rfl (by decide +kernel) ⟨Nat.le_of_ble_eq_true rfl, Nat.le_of_ble_eq_true rfl⟩) (wc := (ce_X5 kA (qh 5) o_this_panels5 ++ (ce_X5 kA q_p1 o_p1))) (ci := 4) (q0 := 0) rfl rfl rfl hl.1 (As := [.ref (q_p1 0)]) (rest := []) rfl (Nat.le_of_ble_eq_true rfl) dX3_open_26 ⟨Nat.le_of_ble_eq_true rfl, Nat.le_of_ble_eq_true rfl⟩ hK hP hD hS hA [22, 23, 24, 25, 30, 31, 32, 33] [0, 1, 2, 3, 4, 5, 6, 7, 8, 9, 10, 11, 12, 13, 14, 15, 16, 17, 18, 19, 20, 21, 26, 27, 28, 29] [0, 1, 2, 3, 4, 5, 6, 7, 8, 9, 10, 11, 12, 13, 14, 15, 16, 17, 18, 19, 20, 21, 26, 27, 28, 29, 22, 23, 24, 25, 30, 31, 32, 33] rfl (by decide) rfl (by decide) (by decide) rfl (by decide) (wr := (ce_X3 kA q_this qh o_this ++ (ce_X5 kA (qh 0) o_this_panels0 ++ (ce_X5 kA (qh 1) o_this_panels1 ++ (ce_X5 kA (qh 2) o_this_panels2 ++ (ce_X5 kA (qh 3) o_this_panels3 ++ (ce_X5 kA (qh 4) o_this_panels4 ++ (ce_X5 kA (qh 6) o_this_panels6)))))))) (w2 := (ce_X3 kA q_this qh o_this ++ (ce_X5 kA (qh 0) o_this_panels0 ++ (ce_X5 kA (qh 1) o_this_panels1 ++ (ce_X5 kA (qh 2) o_this_panels2 ++ (ce_X5 kA (qh 3) o_this_panels3 ++ (ce_X5 kA (qh 4) o_this_panels4 ++ (ce_X5 kA (qh 5) u_20 ++ (ce_X5 kA (qh 6) o_this_panels6 ++ (ce_X5 kA q_p1 o_p1)))))))))) (fun H locs hP hD hS => ?_)
        have hP : va_P D vwCl (ce_X3 kA q_this qh o_this ++ (ce_X5 kA (qh 0) o_this_panels0 ++ (ce_X5 kA (qh 1) o_this_panels1 ++ (ce_X5 kA (qh 2) o_this_panels2 ++ (ce_X5 kA (qh 3) o_this_panels3 ++ (ce_X5 kA (qh 4) o_this_panels4 ++ (ce_X5 kA (qh 5) u_20 ++ (ce_X5 kA (qh 6) o_this_panels6 ++ (ce_X5 kA q_p1 o_p1))))))))) H := hP
        rw [← Option.some.inj hf]
        exact mc_retv hx hb hr hlk hP hK hD hS dX3_open_29
      rw [if_neg hc_19] at hf
      by_cases hc_22 : (os_I o_this 1) = 6
      · rw [if_pos hc_22] at hf
        refine W.eq (g2 := F0 m 25 ls [.ref ((qh 6) 0)]) (by rw [hc_22] <;> rfl) ?_
        refine lv_aload_n hx hb dX3_open_25 rfl (lv_at hl 1 rfl) ?_
        obtain ⟨u_23, he_24, hf⟩ := os_bd hf
        refine mc_callV ⟨hx, hb, hml, hown, hts⟩ (mm_X5_copyFrom l D kA N (qh 6) q_p1 o_this_panels6 o_p1 u_23 he_24) (cwV 1 hts gX3_open_X5_copyFrom rfl rfl rfl (by decide +kernel) ⟨Nat.le_of_ble_eq_true rfl, Nat.le_of_ble_eq_true rfl⟩) (wc := (ce_X5 kA (qh 6) o_this_panels6 ++ (ce_X5 kA q_p1 o_p1))) (ci := 4) (q0 := 0) rfl rfl rfl hl.1 (As := [.ref (q_p1 0)]) (rest := []) rfl (Nat.le_of_ble_eq_true rfl) dX3_open_26 ⟨Nat.le_of_ble_eq_true rfl, Nat.le_of_ble_eq_true rfl⟩ hK hP hD hS hA [26, 27, 28, 29, 30, 31, 32, 33] [0, 1, 2, 3, 4, 5, 6, 7, 8, 9, 10, 11, 12, 13, 14, 15, 16, 17, 18, 19, 20, 21, 22, 23, 24, 25] [0, 1, 2, 3, 4, 5, 6, 7, 8, 9, 10, 11, 12, 13, 14, 15, 16, 17, 18, 19, 20, 21, 22, 23, 24, 25, 26, 27, 28, 29, 30, 31, 32, 33] rfl (by decide) rfl (by decide) (by decide) rfl (by decide) (wr := (ce_X3 kA q_this qh o_this ++ (ce_X5 kA (qh 0) o_this_panels0 ++ (ce_X5 kA (qh 1) o_this_panels1 ++ (ce_X5 kA (qh 2) o_this_panels2 ++ (ce_X5 kA (qh 3) o_this_panels3 ++ (ce_X5 kA (qh 4) o_this_panels4 ++ (ce_X5 kA (qh 5) o_this_panels5)))))))) (w2 := (ce_X3 kA q_this qh o_this ++ (ce_X5 kA (qh 0) o_this_panels0 ++ (ce_X5 kA (qh 1) o_this_panels1 ++ (ce_X5 kA (qh 2) o_this_panels2 ++ (ce_X5 kA (qh 3) o_this_panels3 ++ (ce_X5 kA (qh 4) o_this_panels4 ++ (ce_X5 kA (qh 5) o_this_panels5 ++ (ce_X5 kA (qh 6) u_23 ++ (ce_X5 kA q_p1 o_p1)))))))))) (fun H locs hP hD hS => ?_)
        have hP : va_P D vwCl (ce_X3 kA q_this qh o_this ++ (ce_X5 kA (qh 0) o_this_panels0 ++ (ce_X5 kA (qh 1) o_this_panels1 ++ (ce_X5 kA (qh 2) o_this_panels2 ++ (ce_X5 kA (qh 3) o_this_panels3 ++ (ce_X5 kA (qh 4) o_this_panels4 ++ (ce_X5 kA (qh 5) o_this_panels5 ++ (ce_X5 kA (qh 6) u_23 ++ (ce_X5 kA q_p1 o_p1))))))))) H := hP
        rw [← Option.some.inj hf]
        exact mc_retv hx hb hr hlk hP hK hD hS dX3_open_29
      rw [if_neg hc_22] at hf
      cases hf
def ff_X3_close (N : Nat) (o_this : os_T) (o_this_panels0 : os_T) (o_this_panels1 : os_T) (o_this_panels2 : os_T) (o_this_panels3 : os_T) (o_this_panels4 : os_T) (o_this_panels5 : os_T) (o_this_panels6 : os_T) (o_p1 : os_T) : Option os_T :=
  (if (os_I o_this 1) < 0 then some o_this else (if (7 : Int32) ≤ (os_I o_this 1) then some o_this else (if os_in (os_I o_this 1) 7 then (if (os_I o_this 1) = 0 then ((ff_X5_looksLike N o_p1 o_this_panels0).bind fun u_5 => (if u_5 = 0 then some (ss_I (ss_I o_this 1 (((os_I o_this 1) + (1 : Int32)) - ((os_I o_this 1) + (1 : Int32)) / (7 : Int32) * (7 : Int32))) 2 (if (6 : Int32) < ((os_I o_this 2) + (1 : Int32)) then (6 : Int32) else ((os_I o_this 2) + (1 : Int32)))) else some o_this)) else (if (os_I o_this 1) = 1 then ((ff_X5_looksLike N o_p1 o_this_panels1).bind fun u_9 => (if u_9 = 0 then some (ss_I (ss_I o_this 1 (((os_I o_this 1) + (1 : Int32)) - ((os_I o_this 1) + (1 : Int32)) / (7 : Int32) * (7 : Int32))) 2 (if (6 : Int32) < ((os_I o_this 2) + (1 : Int32)) then (6 : Int32) else ((os_I o_this 2) + (1 : Int32)))) else some o_this)) else (if (os_I o_this 1) = 2 then ((ff_X5_looksLike N o_p1 o_this_panels2).bind fun u_13 => (if u_13 = 0 then some (ss_I (ss_I o_this 1 (((os_I o_this 1) + (1 : Int32)) - ((os_I o_this 1) + (1 : Int32)) / (7 : Int32) * (7 : Int32))) 2 (if (6 : Int32) < ((os_I o_this 2) + (1 : Int32)) then (6 : Int32) else ((os_I o_this 2) + (1 : Int32)))) else some o_this)) else (if (os_I o_this 1) = 3 then ((ff_X5_looksLike N o_p1 o_this_panels3).bind fun u_17 => (if u_17 = 0 then some (ss_I (ss_I o_this 1 (((os_I o_this 1) + (1 : Int32)) - ((os_I o_this 1) + (1 : Int32)) / (7 : Int32) * (7 : Int32))) 2 (if (6 : Int32) < ((os_I o_this 2) + (1 : Int32)) then (6 : Int32) else ((os_I o_this 2) + (1 : Int32)))) else some o_this)) else (if (os_I o_this 1) = 4 then ((ff_X5_looksLike N o_p1 o_this_panels4).bind fun u_21 => (if u_21 = 0 then some (ss_I (ss_I o_this 1 (((os_I o_this 1) + (1 : Int32)) - ((os_I o_this 1) + (1 : Int32)) / (7 : Int32) * (7 : Int32))) 2 (if (6 : Int32) < ((os_I o_this 2) + (1 : Int32)) then (6 : Int32) else ((os_I o_this 2) + (1 : Int32)))) else some o_this)) else (if (os_I o_this 1) = 5 then ((ff_X5_looksLike N o_p1 o_this_panels5).bind fun u_25 => (if u_25 = 0 then some (ss_I (ss_I o_this 1 (((os_I o_this 1) + (1 : Int32)) - ((os_I o_this 1) + (1 : Int32)) / (7 : Int32) * (7 : Int32))) 2 (if (6 : Int32) < ((os_I o_this 2) + (1 : Int32)) then (6 : Int32) else ((os_I o_this 2) + (1 : Int32)))) else some o_this)) else (if (os_I o_this 1) = 6 then ((ff_X5_looksLike N o_p1 o_this_panels6).bind fun u_29 => (if u_29 = 0 then some (ss_I (ss_I o_this 1 (((os_I o_this 1) + (1 : Int32)) - ((os_I o_this 1) + (1 : Int32)) / (7 : Int32) * (7 : Int32))) 2 (if (6 : Int32) < ((os_I o_this 2) + (1 : Int32)) then (6 : Int32) else ((os_I o_this 2) + (1 : Int32)))) else some o_this)) else none))))))) else none)))
set_option maxHeartbeats 4000000 in
set_option maxRecDepth 100000 in
theorem mm_X3_close (l : Launch) (D : va_G) (kA : Nat → ClassId) (N : Nat) (q_this : Nat → Nat) (qh : Nat → Nat → Nat) (q_p1 : Nat → Nat) (o_this : os_T) (o_this_panels0 : os_T) (o_this_panels1 : os_T) (o_this_panels2 : os_T) (o_this_panels3 : os_T) (o_this_panels4 : os_T) (o_this_panels5 : os_T) (o_this_panels6 : os_T) (o_p1 : os_T) (out : os_T) (hf : ff_X3_close N o_this o_this_panels0 o_this_panels1 o_this_panels2 o_this_panels3 o_this_panels4 o_this_panels5 o_this_panels6 o_p1 = some out) : mc_C l D kA yX3_close wsX3_close ({ frames := 2, cells := 0, slots := 0, locals := 45 } : Room) [.ref (q_this 0), .ref (q_p1 0)] (ce_X3 kA q_this qh o_this ++ (ce_X5 kA (qh 0) o_this_panels0 ++ (ce_X5 kA (qh 1) o_this_panels1 ++ (ce_X5 kA (qh 2) o_this_panels2 ++ (ce_X5 kA (qh 3) o_this_panels3 ++ (ce_X5 kA (qh 4) o_this_panels4 ++ (ce_X5 kA (qh 5) o_this_panels5 ++ (ce_X5 kA (qh 6) o_this_panels6 ++ (ce_X5 kA q_p1 o_p1))))))))) none (ce_X3 kA q_this qh out ++ (ce_X5 kA (qh 0) o_this_panels0 ++ (ce_X5 kA (qh 1) o_this_panels1 ++ (ce_X5 kA (qh 2) o_this_panels2 ++ (ce_X5 kA (qh 3) o_this_panels3 ++ (ce_X5 kA (qh 4) o_this_panels4 ++ (ce_X5 kA (qh 5) o_this_panels5 ++ (ce_X5 kA (qh 6) o_this_panels6 ++ (ce_X5 kA q_p1 o_p1))))))))) := by
  refine mc_of (cc := cX3_close) (maxL := 2) (ret := none) (by decide) rfl (Nat.le_of_ble_eq_true rfl) ?_
  intro p e s m below meth c A B hD hP hS ls hl
  obtain ⟨hx, hb, hr, hlk, hml, hown, hts, hK, hA, hnm⟩ := B
  have hown : s.vm.findClass RX3 = some m.cls := hown
  have hl : lv_has ls 2 [(0, .ref (q_this 0)), (1, .ref (q_p1 0))] := hl
  have hUX3 : ∀ w ∈ u_ws RX3 TX3 3, w.before [.ref (q_this 0), .ref (q_p1 0)].toArray s = true := fun w h => hts w (List.mem_cons_of_mem _ (List.mem_append_left _ (List.mem_append_right _ h)))
  unfold ff_X3_close at hf
  refine lv_aload_n hx hb dX3_close_0 rfl (lv_at hl 0 rfl) ?_
  refine va_get (D := D) (ci := 2) (v := .int (os_I o_this 1)) (C := RX3) (T := TX3) (N := 3) hx hb hUX3 (fun _ h9 => h9) hown hK hP 0 rfl rfl 1 (by decide) (hts (Cond.fieldLink RX3 16 "ReliefBuilder$History" "next" "I") (List.mem_of_getElem? (i := 1) rfl)) (fun _ h9 => h9) rfl dX3_close_1 ?_
  refine lv_if_lt (tgt := 60) hx hb dX3_close_4 (by decide) (fun hc_1 => ?_) (fun hc_1 => ?_)
  · rw [if_pos hc_1] at hf
    rw [← Option.some.inj hf]
    exact mc_retv hx hb hr hlk hP hK hD hS dX3_close_60
  · rw [if_neg hc_1] at hf
    refine lv_aload_n hx hb dX3_close_7 rfl (lv_at hl 0 rfl) ?_
    refine va_get (D := D) (ci := 2) (v := .int (os_I o_this 1)) (C := RX3) (T := TX3) (N := 3) hx hb hUX3 (fun _ h9 => h9) hown hK hP 0 rfl rfl 1 (by decide) (hts (Cond.fieldLink RX3 16 "ReliefBuilder$History" "next" "I") (List.mem_of_getElem? (i := 1) rfl)) (fun _ h9 => h9) rfl dX3_close_8 ?_
    refine lv_bipush (v := 7) hx hb dX3_close_11 (by decide) ?_
    refine lv_icmp_ge (tgt := 60) hx hb dX3_close_13 (by decide) (fun hc_2 => ?_) (fun hc_2 => ?_)
    · rw [if_pos hc_2] at hf
      rw [← Option.some.inj hf]
      exact mc_retv hx hb hr hlk hP hK hD hS dX3_close_60
    · rw [if_neg hc_2] at hf
      refine lv_aload_n hx hb dX3_close_16 rfl (lv_at hl 1 rfl) ?_
      refine lv_aload_n hx hb dX3_close_17 rfl (lv_at hl 0 rfl) ?_
      refine va_get (D := D) (ci := 2) (v := .ref (q_this 1)) (C := RX3) (T := TX3) (N := 3) hx hb hUX3 (fun _ h9 => h9) hown hK hP 0 rfl rfl 0 (by decide) (hts (Cond.fieldLink RX3 11 "ReliefBuilder$History" "panels" "[LReliefBuilder$Panel;") (List.mem_of_getElem? (i := 2) rfl)) (fun _ h9 => h9) rfl dX3_close_18 ?_
      refine lv_aload_n hx hb dX3_close_21 rfl (lv_at hl 0 rfl) ?_
      refine va_get (D := D) (ci := 2) (v := .int (os_I o_this 1)) (C := RX3) (T := TX3) (N := 3) hx hb hUX3 (fun _ h9 => h9) hown hK hP 0 rfl rfl 1 (by decide) (hts (Cond.fieldLink RX3 16 "ReliefBuilder$History" "next" "I") (List.mem_of_getElem? (i := 1) rfl)) (fun _ h9 => h9) rfl dX3_close_22 ?_
      obtain ⟨hi_3, hf⟩ := os_if hf
      refine va_aldq hx hb hK hP 1 6 rfl rfl hi_3 dX3_close_25 ?_
      by_cases hc_4 : (os_I o_this 1) = 0
      · rw [if_pos hc_4] at hf
        refine W.eq (g2 := F0 m 26 ls [.ref ((qh 0) 0), .ref (q_p1 0)]) (by rw [hc_4] <;> rfl) ?_
        obtain ⟨u_5, he_6, hf⟩ := os_bd hf
        refine mc_callV ⟨hx, hb, hml, hown, hts⟩ (mm_X5_looksLike l D kA N q_p1 (qh 0) o_p1 o_this_panels0 u_5 he_6) (cwV 1 hts gX3_close_X5_looksLike rfl rfl rfl (by decide +kernel) ⟨Nat.le_of_ble_eq_true rfl, Nat.le_of_ble_eq_true rfl⟩) (wc := (ce_X5 kA q_p1 o_p1 ++ (ce_X5 kA (qh 0) o_this_panels0))) (ci := 4) (q0 := 0) rfl rfl rfl hl.1 (As := [.ref ((qh 0) 0)]) (rest := []) rfl (Nat.le_of_ble_eq_true rfl) dX3_close_26 ⟨Nat.le_of_ble_eq_true rfl, Nat.le_of_ble_eq_true rfl⟩ hK hP hD hS hA [30, 31, 32, 33, 2, 3, 4, 5] [0, 1, 6, 7, 8, 9, 10, 11, 12, 13, 14, 15, 16, 17, 18, 19, 20, 21, 22, 23, 24, 25, 26, 27, 28, 29] [0, 1, 30, 31, 32, 33, 2, 3, 4, 5, 6, 7, 8, 9, 10, 11, 12, 13, 14, 15, 16, 17, 18, 19, 20, 21, 22, 23, 24, 25, 26, 27, 28, 29] rfl (by decide) rfl (by decide) (by decide) rfl (by decide) (wr := (ce_X3 kA q_this qh o_this ++ (ce_X5 kA (qh 1) o_this_panels1 ++ (ce_X5 kA (qh 2) o_this_panels2 ++ (ce_X5 kA (qh 3) o_this_panels3 ++ (ce_X5 kA (qh 4) o_this_panels4 ++ (ce_X5 kA (qh 5) o_this_panels5 ++ (ce_X5 kA (qh 6) o_this_panels6)))))))) (w2 := (ce_X3 kA q_this qh o_this ++ (ce_X5 kA (qh 0) o_this_panels0 ++ (ce_X5 kA (qh 1) o_this_panels1 ++ (ce_X5 kA (qh 2) o_this_panels2 ++ (ce_X5 kA (qh 3) o_this_panels3 ++ (ce_X5 kA (qh 4) o_this_panels4 ++ (ce_X5 kA (qh 5) o_this_panels5 ++ (ce_X5 kA (qh 6) o_this_panels6 ++ (ce_X5 kA q_p1 o_p1)))))))))) (fun H locs hP hD hS => ?_)
        have hP : va_P D vwCl (ce_X3 kA q_this qh o_this ++ (ce_X5 kA (qh 0) o_this_panels0 ++ (ce_X5 kA (qh 1) o_this_panels1 ++ (ce_X5 kA (qh 2) o_this_panels2 ++ (ce_X5 kA (qh 3) o_this_panels3 ++ (ce_X5 kA (qh 4) o_this_panels4 ++ (ce_X5 kA (qh 5) o_this_panels5 ++ (ce_X5 kA (qh 6) o_this_panels6 ++ (ce_X5 kA q_p1 o_p1))))))))) H := hP
        refine lv_if_ne (tgt := 60) hx hb dX3_close_29 (by decide) (fun hc_7 => ?_) (fun hc_7 => ?_)
        · rw [if_neg hc_7] at hf
          rw [← Option.some.inj hf]
          exact mc_retv hx hb hr hlk hP hK hD hS dX3_close_60
        · rw [if_pos hc_7] at hf
          refine lv_aload_n hx hb dX3_close_32 rfl (lv_at hl 0 rfl) ?_
          refine lv_aload_n hx hb dX3_close_33 rfl (lv_at hl 0 rfl) ?_
          refine va_get (D := D) (ci := 2) (v := .int (os_I o_this 1)) (C := RX3) (T := TX3) (N := 3) hx hb hUX3 (fun _ h9 => h9) hown hK hP 0 rfl rfl 1 (by decide) (hts (Cond.fieldLink RX3 16 "ReliefBuilder$History" "next" "I") (List.mem_of_getElem? (i := 1) rfl)) (fun _ h9 => h9) rfl dX3_close_34 ?_
          refine lv_iconst (v := 1) hx hb dX3_close_37 (by decide) ?_
          refine lv_iadd hx hb dX3_close_38 ?_
          refine lv_bipush (v := 7) hx hb dX3_close_39 (by decide) ?_
          refine lv_irem hx hb dX3_close_41 (by decide) ?_
          refine va_put (D := D) (ci := 2) (v := .int (((os_I o_this 1) + (1 : Int32)) - ((os_I o_this 1) + (1 : Int32)) / (7 : Int32) * (7 : Int32))) (ty := .int) (C := RX3) (T := TX3) (N := 3) hx hb hUX3 (fun _ h9 => h9) tyX3 tyX3_ok nmX3 hown hK hP hD hS 0 rfl rfl 1 (by decide) (hts (Cond.fieldLink RX3 16 "ReliefBuilder$History" "next" "I") (List.mem_of_getElem? (i := 1) rfl)) (fun _ h9 => h9) rfl (tyX3_ok 1 (by decide)) rfl rfl (Nat.le_of_ble_eq_true rfl) dX3_close_42 (fun H locs hP hD hS => ?_)
          have hP : va_P D vwCl (ce_X3 kA q_this qh (ss_I o_this 1 (((os_I o_this 1) + (1 : Int32)) - ((os_I o_this 1) + (1 : Int32)) / (7 : Int32) * (7 : Int32))) ++ (ce_X5 kA (qh 0) o_this_panels0 ++ (ce_X5 kA (qh 1) o_this_panels1 ++ (ce_X5 kA (qh 2) o_this_panels2 ++ (ce_X5 kA (qh 3) o_this_panels3 ++ (ce_X5 kA (qh 4) o_this_panels4 ++ (ce_X5 kA (qh 5) o_this_panels5 ++ (ce_X5 kA (qh 6) o_this_panels6 ++ (ce_X5 kA q_p1 o_p1))))))))) H := hP
          have hD : va_D A (ce_X3 kA q_this qh (ss_I o_this 1 (((os_I o_this 1) + (1 : Int32)) - ((os_I o_this 1) + (1 : Int32)) / (7 : Int32) * (7 : Int32))) ++ (ce_X5 kA (qh 0) o_this_panels0 ++ (ce_X5 kA (qh 1) o_this_panels1 ++ (ce_X5 kA (qh 2) o_this_panels2 ++ (ce_X5 kA (qh 3) o_this_panels3 ++ (ce_X5 kA (qh 4) o_this_panels4 ++ (ce_X5 kA (qh 5) o_this_panels5 ++ (ce_X5 kA (qh 6) o_this_panels6 ++ (ce_X5 kA q_p1 o_p1))))))))) := hD
          refine lv_aload_n hx hb dX3_close_45 rfl (lv_at hl 0 rfl) ?_
          refine lv_aload_n hx hb dX3_close_46 rfl (lv_at hl 0 rfl) ?_
          refine va_get (D := D) (ci := 2) (v := .int (os_I o_this 2)) (C := RX3) (T := TX3) (N := 3) hx hb hUX3 (fun _ h9 => h9) hown hK hP 0 rfl rfl 2 (by decide) (hts (Cond.fieldLink RX3 28 "ReliefBuilder$History" "count" "I") (List.mem_of_getElem? (i := 3) rfl)) (fun _ h9 => h9) rfl dX3_close_47 ?_
          refine lv_iconst (v := 1) hx hb dX3_close_50 (by decide) ?_
          refine lv_iadd hx hb dX3_close_51 ?_
          refine lv_bipush (v := 6) hx hb dX3_close_52 (by decide) ?_
          refine va_mmin hx hb (hml.trans hl.1.symm) hown (hts (Cond.methodLink RX3 31 Lib.Math.min.name) (List.mem_of_getElem? (i := 4) rfl)) (hts (Cond.static Lib.Math.min.name) (List.mem_of_getElem? (i := 5) rfl)) (hts (Cond.initialized "java/lang/Math") (List.mem_of_getElem? (i := 6) rfl)) (hts (Cond.code Lib.Math.min.name Lib.Math.min.code 2 (some .int)) (List.mem_of_getElem? (i := 7) rfl)) (Nat.le_of_ble_eq_true rfl) (Nat.le_of_ble_eq_true rfl) (Nat.le_of_ble_eq_true rfl) (Nat.le_of_ble_eq_true rfl) dX3_close_54 ?_
          refine va_put (D := D) (ci := 2) (v := .int (if (6 : Int32) < ((os_I o_this 2) + (1 : Int32)) then (6 : Int32) else ((os_I o_this 2) + (1 : Int32)))) (ty := .int) (C := RX3) (T := TX3) (N := 3) hx hb hUX3 (fun _ h9 => h9) tyX3 tyX3_ok nmX3 hown hK hP hD hS 0 rfl rfl 2 (by decide) (hts (Cond.fieldLink RX3 28 "ReliefBuilder$History" "count" "I") (List.mem_of_getElem? (i := 3) rfl)) (fun _ h9 => h9) rfl (tyX3_ok 2 (by decide)) rfl rfl (Nat.le_of_ble_eq_true rfl) dX3_close_57 (fun H locs hP hD hS => ?_)
          have hP : va_P D vwCl (ce_X3 kA q_this qh (ss_I (ss_I o_this 1 (((os_I o_this 1) + (1 : Int32)) - ((os_I o_this 1) + (1 : Int32)) / (7 : Int32) * (7 : Int32))) 2 (if (6 : Int32) < ((os_I o_this 2) + (1 : Int32)) then (6 : Int32) else ((os_I o_this 2) + (1 : Int32)))) ++ (ce_X5 kA (qh 0) o_this_panels0 ++ (ce_X5 kA (qh 1) o_this_panels1 ++ (ce_X5 kA (qh 2) o_this_panels2 ++ (ce_X5 kA (qh 3) o_this_panels3 ++ (ce_X5 kA (qh 4) o_this_panels4 ++ (ce_X5 kA (qh 5) o_this_panels5 ++ (ce_X5 kA (qh 6) o_this_panels6 ++ (ce_X5 kA q_p1 o_p1))))))))) H := hP
          have hD : va_D A (ce_X3 kA q_this qh (ss_I (ss_I o_this 1 (((os_I o_this 1) + (1 : Int32)) - ((os_I o_this 1) + (1 : Int32)) / (7 : Int32) * (7 : Int32))) 2 (if (6 : Int32) < ((os_I o_this 2) + (1 : Int32)) then (6 : Int32) else ((os_I o_this 2) + (1 : Int32)))) ++ (ce_X5 kA (qh 0) o_this_panels0 ++ (ce_X5 kA (qh 1) o_this_panels1 ++ (ce_X5 kA (qh 2) o_this_panels2 ++ (ce_X5 kA (qh 3) o_this_panels3 ++ (ce_X5 kA (qh 4) o_this_panels4 ++ (ce_X5 kA (qh 5) o_this_panels5 ++ (ce_X5 kA (qh 6) o_this_panels6 ++ (ce_X5 kA q_p1 o_p1))))))))) := hD
          rw [← Option.some.inj hf]
          exact mc_retv hx hb hr hlk hP hK hD hS dX3_close_60
      rw [if_neg hc_4] at hf
      by_cases hc_8 : (os_I o_this 1) = 1
      · rw [if_pos hc_8] at hf
        refine W.eq (g2 := F0 m 26 ls [.ref ((qh 1) 0), .ref (q_p1 0)]) (by rw [hc_8] <;> rfl) ?_
        obtain ⟨u_9, he_10, hf⟩ := os_bd hf
        refine mc_callV ⟨hx, hb, hml, hown, hts⟩ (mm_X5_looksLike l D kA N q_p1 (qh 1) o_p1 o_this_panels1 u_9 he_10) (cwV 1 hts gX3_close_X5_looksLike rfl rfl rfl (by decide +kernel) ⟨Nat.le_of_ble_eq_true rfl, Nat.le_of_ble_eq_true rfl⟩) (wc := (ce_X5 kA q_p1 o_p1 ++ (ce_X5 kA (qh 1) o_this_panels1))) (ci := 4) (q0 := 0) rfl rfl rfl hl.1 (As := [.ref ((qh 1) 0)]) (rest := []) rfl (Nat.le_of_ble_eq_true rfl) dX3_close_26 ⟨Nat.le_of_ble_eq_true rfl, Nat.le_of_ble_eq_true rfl⟩ hK hP hD hS hA [30, 31, 32, 33, 6, 7, 8, 9] [0, 1, 2, 3, 4, 5, 10, 11, 12, 13, 14, 15, 16, 17, 18, 19, 20, 21, 22, 23, 24, 25, 26, 27, 28, 29] [0, 1, 2, 3, 4, 5, 30, 31, 32, 33, 6, 7, 8, 9, 10, 11, 12, 13, 14, 15, 16, 17, 18, 19, 20, 21, 22, 23, 24, 25, 26, 27, 28, 29] rfl (by decide) rfl (by decide) (by decide) rfl (by decide) (wr := (ce_X3 kA q_this qh o_this ++ (ce_X5 kA (qh 0) o_this_panels0 ++ (ce_X5 kA (qh 2) o_this_panels2 ++ (ce_X5 kA (qh 3) o_this_panels3 ++ (ce_X5 kA (qh 4) o_this_panels4 ++ (ce_X5 kA (qh 5) o_this_panels5 ++ (ce_X5 kA (qh 6) o_this_panels6)))))))) (w2 := (ce_X3 kA q_this qh o_this ++ (ce_X5 kA (qh 0) o_this_panels0 ++ (ce_X5 kA (qh 1) o_this_panels1 ++ (ce_X5 kA (qh 2) o_this_panels2 ++ (ce_X5 kA (qh 3) o_this_panels3 ++ (ce_X5 kA (qh 4) o_this_panels4 ++ (ce_X5 kA (qh 5) o_this_panels5 ++ (ce_X5 kA (qh 6) o_this_panels6 ++ (ce_X5 kA q_p1 o_p1)))))))))) (fun H locs hP hD hS => ?_)
        have hP : va_P D vwCl (ce_X3 kA q_this qh o_this ++ (ce_X5 kA (qh 0) o_this_panels0 ++ (ce_X5 kA (qh 1) o_this_panels1 ++ (ce_X5 kA (qh 2) o_this_panels2 ++ (ce_X5 kA (qh 3) o_this_panels3 ++ (ce_X5 kA (qh 4) o_this_panels4 ++ (ce_X5 kA (qh 5) o_this_panels5 ++ (ce_X5 kA (qh 6) o_this_panels6 ++ (ce_X5 kA q_p1 o_p1))))))))) H := hP
        refine lv_if_ne (tgt := 60) hx hb dX3_close_29 (by decide) (fun hc_11 => ?_) (fun hc_11 => ?_)
        · rw [if_neg hc_11] at hf
          rw [← Option.some.inj hf]
          exact mc_retv hx hb hr hlk hP hK hD hS dX3_close_60
        · rw [if_pos hc_11] at hf
          refine lv_aload_n hx hb dX3_close_32 rfl (lv_at hl 0 rfl) ?_
          refine lv_aload_n hx hb dX3_close_33 rfl (lv_at hl 0 rfl) ?_
          refine va_get (D := D) (ci := 2) (v := .int (os_I o_this 1)) (C := RX3) (T := TX3) (N := 3) hx hb hUX3 (fun _ h9 => h9) hown hK hP 0 rfl rfl 1 (by decide) (hts (Cond.fieldLink RX3 16 "ReliefBuilder$History" "next" "I") (List.mem_of_getElem? (i := 1) rfl)) (fun _ h9 => h9) rfl dX3_close_34 ?_
          refine lv_iconst (v := 1) hx hb dX3_close_37 (by decide) ?_
          refine lv_iadd hx hb dX3_close_38 ?_
          refine lv_bipush (v := 7) hx hb dX3_close_39 (by decide) ?_
          refine lv_irem hx hb dX3_close_41 (by decide) ?_
          refine va_put (D := D) (ci := 2) (v := .int (((os_I o_this 1) + (1 : Int32)) - ((os_I o_this 1) + (1 : Int32)) / (7 : Int32) * (7 : Int32))) (ty := .int) (C := RX3) (T := TX3) (N := 3) hx hb hUX3 (fun _ h9 => h9) tyX3 tyX3_ok nmX3 hown hK hP hD hS 0 rfl rfl 1 (by decide) (hts (Cond.fieldLink RX3 16 "ReliefBuilder$History" "next" "I") (List.mem_of_getElem? (i := 1) rfl)) (fun _ h9 => h9) rfl (tyX3_ok 1 (by decide)) rfl rfl (Nat.le_of_ble_eq_true rfl) dX3_close_42 (fun H locs hP hD hS => ?_)
          have hP : va_P D vwCl (ce_X3 kA q_this qh (ss_I o_this 1 (((os_I o_this 1) + (1 : Int32)) - ((os_I o_this 1) + (1 : Int32)) / (7 : Int32) * (7 : Int32))) ++ (ce_X5 kA (qh 0) o_this_panels0 ++ (ce_X5 kA (qh 1) o_this_panels1 ++ (ce_X5 kA (qh 2) o_this_panels2 ++ (ce_X5 kA (qh 3) o_this_panels3 ++ (ce_X5 kA (qh 4) o_this_panels4 ++ (ce_X5 kA (qh 5) o_this_panels5 ++ (ce_X5 kA (qh 6) o_this_panels6 ++ (ce_X5 kA q_p1 o_p1))))))))) H := hP
          have hD : va_D A (ce_X3 kA q_this qh (ss_I o_this 1 (((os_I o_this 1) + (1 : Int32)) - ((os_I o_this 1) + (1 : Int32)) / (7 : Int32) * (7 : Int32))) ++ (ce_X5 kA (qh 0) o_this_panels0 ++ (ce_X5 kA (qh 1) o_this_panels1 ++ (ce_X5 kA (qh 2) o_this_panels2 ++ (ce_X5 kA (qh 3) o_this_panels3 ++ (ce_X5 kA (qh 4) o_this_panels4 ++ (ce_X5 kA (qh 5) o_this_panels5 ++ (ce_X5 kA (qh 6) o_this_panels6 ++ (ce_X5 kA q_p1 o_p1))))))))) := hD
          refine lv_aload_n hx hb dX3_close_45 rfl (lv_at hl 0 rfl) ?_
          refine lv_aload_n hx hb dX3_close_46 rfl (lv_at hl 0 rfl) ?_
          refine va_get (D := D) (ci := 2) (v := .int (os_I o_this 2)) (C := RX3) (T := TX3) (N := 3) hx hb hUX3 (fun _ h9 => h9) hown hK hP 0 rfl rfl 2 (by decide) (hts (Cond.fieldLink RX3 28 "ReliefBuilder$History" "count" "I") (List.mem_of_getElem? (i := 3) rfl)) (fun _ h9 => h9) rfl dX3_close_47 ?_
          refine lv_iconst (v := 1) hx hb dX3_close_50 (by decide) ?_
          refine lv_iadd hx hb dX3_close_51 ?_
          refine lv_bipush (v := 6) hx hb dX3_close_52 (by decide) ?_
          refine va_mmin hx hb (hml.trans hl.1.symm) hown (hts (Cond.methodLink RX3 31 Lib.Math.min.name) (List.mem_of_getElem? (i := 4) rfl)) (hts (Cond.static Lib.Math.min.name) (List.mem_of_getElem? (i := 5) rfl)) (hts (Cond.initialized "java/lang/Math") (List.mem_of_getElem? (i := 6) rfl)) (hts (Cond.code Lib.Math.min.name Lib.Math.min.code 2 (some .int)) (List.mem_of_getElem? (i := 7) rfl)) (Nat.le_of_ble_eq_true rfl) (Nat.le_of_ble_eq_true rfl) (Nat.le_of_ble_eq_true rfl) (Nat.le_of_ble_eq_true rfl) dX3_close_54 ?_
          refine va_put (D := D) (ci := 2) (v := .int (if (6 : Int32) < ((os_I o_this 2) + (1 : Int32)) then (6 : Int32) else ((os_I o_this 2) + (1 : Int32)))) (ty := .int) (C := RX3) (T := TX3) (N := 3) hx hb hUX3 (fun _ h9 => h9) tyX3 tyX3_ok nmX3 hown hK hP hD hS 0 rfl rfl 2 (by decide) (hts (Cond.fieldLink RX3 28 "ReliefBuilder$History" "count" "I") (List.mem_of_getElem? (i := 3) rfl)) (fun _ h9 => h9) rfl (tyX3_ok 2 (by decide)) rfl rfl (Nat.le_of_ble_eq_true rfl) dX3_close_57 (fun H locs hP hD hS => ?_)
          have hP : va_P D vwCl (ce_X3 kA q_this qh (ss_I (ss_I o_this 1 (((os_I o_this 1) + (1 : Int32)) - ((os_I o_this 1) + (1 : Int32)) / (7 : Int32) * (7 : Int32))) 2 (if (6 : Int32) < ((os_I o_this 2) + (1 : Int32)) then (6 : Int32) else ((os_I o_this 2) + (1 : Int32)))) ++ (ce_X5 kA (qh 0) o_this_panels0 ++ (ce_X5 kA (qh 1) o_this_panels1 ++ (ce_X5 kA (qh 2) o_this_panels2 ++ (ce_X5 kA (qh 3) o_this_panels3 ++ (ce_X5 kA (qh 4) o_this_panels4 ++ (ce_X5 kA (qh 5) o_this_panels5 ++ (ce_X5 kA (qh 6) o_this_panels6 ++ (ce_X5 kA q_p1 o_p1))))))))) H := hP
          have hD : va_D A (ce_X3 kA q_this qh (ss_I (ss_I o_this 1 (((os_I o_this 1) + (1 : Int32)) - ((os_I o_this 1) + (1 : Int32)) / (7 : Int32) * (7 : Int32))) 2 (if (6 : Int32) < ((os_I o_this 2) + (1 : Int32)) then (6 : Int32) else ((os_I o_this 2) + (1 : Int32)))) ++ (ce_X5 kA (qh 0) o_this_panels0 ++ (ce_X5 kA (qh 1) o_this_panels1 ++ (ce_X5 kA (qh 2) o_this_panels2 ++ (ce_X5 kA (qh 3) o_this_panels3 ++ (ce_X5 kA (qh 4) o_this_panels4 ++ (ce_X5 kA (qh 5) o_this_panels5 ++ (ce_X5 kA (qh 6) o_this_panels6 ++ (ce_X5 kA q_p1 o_p1))))))))) := hD
          rw [← Option.some.inj hf]
          exact mc_retv hx hb hr hlk hP hK hD hS dX3_close_60
      rw [if_neg hc_8] at hf
      by_cases hc_12 : (os_I o_this 1) = 2
      · rw [if_pos hc_12] at hf
        refine W.eq (g2 := F0 m 26 ls [.ref ((qh 2) 0), .ref (q_p1 0)]) (by rw [hc_12] <;> rfl) ?_
        obtain ⟨u_13, he_14, hf⟩ := os_bd hf
        refine mc_callV ⟨hx, hb, hml, hown, hts⟩ (mm_X5_looksLike l D kA N q_p1 (qh 2) o_p1 o_this_panels2 u_13 he_14) (cwV 1 hts gX3_close_X5_looksLike rfl rfl rfl (by decide +kernel) ⟨Nat.le_of_ble_eq_true rfl, Nat.le_of_ble_eq_true rfl⟩) (wc := (ce_X5 kA q_p1 o_p1 ++ (ce_X5 kA (qh 2) o_this_panels2))) (ci := 4) (q0 := 0) rfl rfl rfl hl.1 (As := [.ref ((qh 2) 0)]) (rest := []) rfl (Nat.le_of_ble_eq_true rfl) dX3_close_26 ⟨Nat.le_of_ble_eq_true rfl, Nat.le_of_ble_eq_true rfl⟩ hK hP hD hS hA [30, 31, 32, 33, 10, 11, 12, 13] [0, 1, 2, 3, 4, 5, 6, 7, 8, 9, 14, 15, 16, 17, 18, 19, 20, 21, 22, 23, 24, 25, 26, 27, 28, 29] [0, 1, 2, 3, 4, 5, 6, 7, 8, 9, 30, 31, 32, 33, 10, 11, 12, 13, 14, 15, 16, 17, 18, 19, 20, 21, 22, 23, 24, 25, 26, 27, 28, 29] rfl (by decide) rfl (by decide) (by decide) rfl (by decide) (wr := (ce_X3 kA q_this qh o_this ++ (ce_X5 kA (qh 0) o_this_panels0 ++ (ce_X5 kA (qh 1) o_this_panels1 ++ (ce_X5 kA (qh 3) o_this_panels3 ++ (ce_X5 kA (qh 4) o_this_panels4 ++ (ce_X5 kA (qh 5) o_this_panels5 ++ (ce_X5 kA (qh 6) o_this_panels6)))))))) (w2 := (ce_X3 kA q_this qh o_this ++ (ce_X5 kA (qh 0) o_this_panels0 ++ (ce_X5 kA (qh 1) o_this_panels1 ++ (ce_X5 kA (qh 2) o_this_panels2 ++ (ce_X5 kA (qh 3) o_this_panels3 ++ (ce_X5 kA (qh 4) o_this_panels4 ++ (ce_X5 kA (qh 5) o_this_panels5 ++ (ce_X5 kA (qh 6) o_this_panels6 ++ (ce_X5 kA q_p1 o_p1)))))))))) (fun H locs hP hD hS => ?_)
        have hP : va_P D vwCl (ce_X3 kA q_this qh o_this ++ (ce_X5 kA (qh 0) o_this_panels0 ++ (ce_X5 kA (qh 1) o_this_panels1 ++ (ce_X5 kA (qh 2) o_this_panels2 ++ (ce_X5 kA (qh 3) o_this_panels3 ++ (ce_X5 kA (qh 4) o_this_panels4 ++ (ce_X5 kA (qh 5) o_this_panels5 ++ (ce_X5 kA (qh 6) o_this_panels6 ++ (ce_X5 kA q_p1 o_p1))))))))) H := hP
        refine lv_if_ne (tgt := 60) hx hb dX3_close_29 (by decide) (fun hc_15 => ?_) (fun hc_15 => ?_)
        · rw [if_neg hc_15] at hf
          rw [← Option.some.inj hf]
          exact mc_retv hx hb hr hlk hP hK hD hS dX3_close_60
        · rw [if_pos hc_15] at hf
          refine lv_aload_n hx hb dX3_close_32 rfl (lv_at hl 0 rfl) ?_
          refine lv_aload_n hx hb dX3_close_33 rfl (lv_at hl 0 rfl) ?_
          refine va_get (D := D) (ci := 2) (v := .int (os_I o_this 1)) (C := RX3) (T := TX3) (N := 3) hx hb hUX3 (fun _ h9 => h9) hown hK hP 0 rfl rfl 1 (by decide) (hts (Cond.fieldLink RX3 16 "ReliefBuilder$History" "next" "I") (List.mem_of_getElem? (i := 1) rfl)) (fun _ h9 => h9) rfl dX3_close_34 ?_
          refine lv_iconst (v := 1) hx hb dX3_close_37 (by decide) ?_
          refine lv_iadd hx hb dX3_close_38 ?_
          refine lv_bipush (v := 7) hx hb dX3_close_39 (by decide) ?_
          refine lv_irem hx hb dX3_close_41 (by decide) ?_
          refine va_put (D := D) (ci := 2) (v := .int (((os_I o_this 1) + (1 : Int32)) - ((os_I o_this 1) + (1 : Int32)) / (7 : Int32) * (7 : Int32))) (ty := .int) (C := RX3) (T := TX3) (N := 3) hx hb hUX3 (fun _ h9 => h9) tyX3 tyX3_ok nmX3 hown hK hP hD hS 0 rfl rfl 1 (by decide) (hts (Cond.fieldLink RX3 16 "ReliefBuilder$History" "next" "I") (List.mem_of_getElem? (i := 1) rfl)) (fun _ h9 => h9) rfl (tyX3_ok 1 (by decide)) rfl rfl (Nat.le_of_ble_eq_true rfl) dX3_close_42 (fun H locs hP hD hS => ?_)
          have hP : va_P D vwCl (ce_X3 kA q_this qh (ss_I o_this 1 (((os_I o_this 1) + (1 : Int32)) - ((os_I o_this 1) + (1 : Int32)) / (7 : Int32) * (7 : Int32))) ++ (ce_X5 kA (qh 0) o_this_panels0 ++ (ce_X5 kA (qh 1) o_this_panels1 ++ (ce_X5 kA (qh 2) o_this_panels2 ++ (ce_X5 kA (qh 3) o_this_panels3 ++ (ce_X5 kA (qh 4) o_this_panels4 ++ (ce_X5 kA (qh 5) o_this_panels5 ++ (ce_X5 kA (qh 6) o_this_panels6 ++ (ce_X5 kA q_p1 o_p1))))))))) H := hP
          have hD : va_D A (ce_X3 kA q_this qh (ss_I o_this 1 (((os_I o_this 1) + (1 : Int32)) - ((os_I o_this 1) + (1 : Int32)) / (7 : Int32) * (7 : Int32))) ++ (ce_X5 kA (qh 0) o_this_panels0 ++ (ce_X5 kA (qh 1) o_this_panels1 ++ (ce_X5 kA (qh 2) o_this_panels2 ++ (ce_X5 kA (qh 3) o_this_panels3 ++ (ce_X5 kA (qh 4) o_this_panels4 ++ (ce_X5 kA (qh 5) o_this_panels5 ++ (ce_X5 kA (qh 6) o_this_panels6 ++ (ce_X5 kA q_p1 o_p1))))))))) := hD
          refine lv_aload_n hx hb dX3_close_45 rfl (lv_at hl 0 rfl) ?_
          refine lv_aload_n hx hb dX3_close_46 rfl (lv_at hl 0 rfl) ?_
          refine va_get (D := D) (ci := 2) (v := .int (os_I o_this 2)) (C := RX3) (T := TX3) (N := 3) hx hb hUX3 (fun _ h9 => h9) hown hK hP 0 rfl rfl 2 (by decide) (hts (Cond.fieldLink RX3 28 "ReliefBuilder$History" "count" "I") (List.mem_of_getElem? (i := 3) rfl)) (fun _ h9 => h9) rfl dX3_close_47 ?_
          refine lv_iconst (v := 1) hx hb dX3_close_50 (by decide) ?_
          refine lv_iadd hx hb dX3_close_51 ?_
          refine lv_bipush (v := 6) hx hb dX3_close_52 (by decide) ?_
          refine va_mmin hx hb (hml.trans hl.1.symm) hown (hts (Cond.methodLink RX3 31 Lib.Math.min.name) (List.mem_of_getElem? (i := 4) rfl)) (hts (Cond.static Lib.Math.min.name) (List.mem_of_getElem? (i := 5) rfl)) (hts (Cond.initialized "java/lang/Math") (List.mem_of_getElem? (i := 6) rfl)) (hts (Cond.code Lib.Math.min.name Lib.Math.min.code 2 (some .int)) (List.mem_of_getElem? (i := 7) rfl)) (Nat.le_of_ble_eq_true rfl) (Nat.le_of_ble_eq_true rfl) (Nat.le_of_ble_eq_true rfl) (Nat.le_of_ble_eq_true rfl) dX3_close_54 ?_
          refine va_put (D := D) (ci := 2) (v := .int (if (6 : Int32) < ((os_I o_this 2) + (1 : Int32)) then (6 : Int32) else ((os_I o_this 2) + (1 : Int32)))) (ty := .int) (C := RX3) (T := TX3) (N := 3) hx hb hUX3 (fun _ h9 => h9) tyX3 tyX3_ok nmX3 hown hK hP hD hS 0 rfl rfl 2 (by decide) (hts (Cond.fieldLink RX3 28 "ReliefBuilder$History" "count" "I") (List.mem_of_getElem? (i := 3) rfl)) (fun _ h9 => h9) rfl (tyX3_ok 2 (by decide)) rfl rfl (Nat.le_of_ble_eq_true rfl) dX3_close_57 (fun H locs hP hD hS => ?_)
          have hP : va_P D vwCl (ce_X3 kA q_this qh (ss_I (ss_I o_this 1 (((os_I o_this 1) + (1 : Int32)) - ((os_I o_this 1) + (1 : Int32)) / (7 : Int32) * (7 : Int32))) 2 (if (6 : Int32) < ((os_I o_this 2) + (1 : Int32)) then (6 : Int32) else ((os_I o_this 2) + (1 : Int32)))) ++ (ce_X5 kA (qh 0) o_this_panels0 ++ (ce_X5 kA (qh 1) o_this_panels1 ++ (ce_X5 kA (qh 2) o_this_panels2 ++ (ce_X5 kA (qh 3) o_this_panels3 ++ (ce_X5 kA (qh 4) o_this_panels4 ++ (ce_X5 kA (qh 5) o_this_panels5 ++ (ce_X5 kA (qh 6) o_this_panels6 ++ (ce_X5 kA q_p1 o_p1))))))))) H := hP
          have hD : va_D A (ce_X3 kA q_this qh (ss_I (ss_I o_this 1 (((os_I o_this 1) + (1 : Int32)) - ((os_I o_this 1) + (1 : Int32)) / (7 : Int32) * (7 : Int32))) 2 (if (6 : Int32) < ((os_I o_this 2) + (1 : Int32)) then (6 : Int32) else ((os_I o_this 2) + (1 : Int32)))) ++ (ce_X5 kA (qh 0) o_this_panels0 ++ (ce_X5 kA (qh 1) o_this_panels1 ++ (ce_X5 kA (qh 2) o_this_panels2 ++ (ce_X5 kA (qh 3) o_this_panels3 ++ (ce_X5 kA (qh 4) o_this_panels4 ++ (ce_X5 kA (qh 5) o_this_panels5 ++ (ce_X5 kA (qh 6) o_this_panels6 ++ (ce_X5 kA q_p1 o_p1))))))))) := hD
          rw [← Option.some.inj hf]
          exact mc_retv hx hb hr hlk hP hK hD hS dX3_close_60
      rw [if_neg hc_12] at hf
      by_cases hc_16 : (os_I o_this 1) = 3
      · rw [if_pos hc_16] at hf
        refine W.eq (g2 := F0 m 26 ls [.ref ((qh 3) 0), .ref (q_p1 0)]) (by rw [hc_16] <;> rfl) ?_
        obtain ⟨u_17, he_18, hf⟩ := os_bd hf
        refine mc_callV ⟨hx, hb, hml, hown, hts⟩ (mm_X5_looksLike l D kA N q_p1 (qh 3) o_p1 o_this_panels3 u_17 he_18) (cwV 1 hts gX3_close_X5_looksLike rfl rfl rfl (by decide +kernel) ⟨Nat.le_of_ble_eq_true rfl, Nat.le_of_ble_eq_true rfl⟩) (wc := (ce_X5 kA q_p1 o_p1 ++ (ce_X5 kA (qh 3) o_this_panels3))) (ci := 4) (q0 := 0) rfl rfl rfl hl.1 (As := [.ref ((qh 3) 0)]) (rest := []) rfl (Nat.le_of_ble_eq_true rfl) dX3_close_26 ⟨Nat.le_of_ble_eq_true rfl, Nat.le_of_ble_eq_true rfl⟩ hK hP hD hS hA [30, 31, 32, 33, 14, 15, 16, 17] [0, 1, 2, 3, 4, 5, 6, 7, 8, 9, 10, 11, 12, 13, 18, 19, 20, 21, 22, 23, 24, 25, 26, 27, 28, 29] [0, 1, 2, 3, 4, 5, 6, 7, 8, 9, 10, 11, 12, 13, 30, 31, 32, 33, 14, 15, 16, 17, 18, 19, 20, 21, 22, 23, 24, 25, 26, 27, 28, 29] rfl (by decide) rfl (by decide) (by decide) rfl (by decide) (wr := (ce_X3 kA q_this qh o_this ++ (ce_X5 kA (qh 0) o_this_panels0 ++ (ce_X5 kA (qh 1) o_this_panels1 ++ (ce_X5 kA (qh 2) o_this_panels2 ++ (ce_X5 kA (qh 4) o_this_panels4 ++ (ce_X5 kA (qh 5) o_this_panels5 ++ (ce_X5 kA (qh 6) o_this_panels6)))))))) (w2 := (ce_X3 kA q_this qh o_this ++ (ce_X5 kA (qh 0) o_this_panels0 ++ (ce_X5 kA (qh 1) o_this_panels1 ++ (ce_X5 kA (qh 2) o_this_panels2 ++ (ce_X5 kA (qh 3) o_this_panels3 ++ (ce_X5 kA (qh 4) o_this_panels4 ++ (ce_X5 kA (qh 5) o_this_panels5 ++ (ce_X5 kA (qh 6) o_this_panels6 ++ (ce_X5 kA q_p1 o_p1)))))))))) (fun H locs hP hD hS => ?_)
        have hP : va_P D vwCl (ce_X3 kA q_this qh o_this ++ (ce_X5 kA (qh 0) o_this_panels0 ++ (ce_X5 kA (qh 1) o_this_panels1 ++ (ce_X5 kA (qh 2) o_this_panels2 ++ (ce_X5 kA (qh 3) o_this_panels3 ++ (ce_X5 kA (qh 4) o_this_panels4 ++ (ce_X5 kA (qh 5) o_this_panels5 ++ (ce_X5 kA (qh 6) o_this_panels6 ++ (ce_X5 kA q_p1 o_p1))))))))) H := hP
        refine lv_if_ne (tgt := 60) hx hb dX3_close_29 (by decide) (fun hc_19 => ?_) (fun hc_19 => ?_)
        · rw [if_neg hc_19] at hf
          rw [← Option.some.inj hf]
          exact mc_retv hx hb hr hlk hP hK hD hS dX3_close_60
        · rw [if_pos hc_19] at hf
          refine lv_aload_n hx hb dX3_close_32 rfl (lv_at hl 0 rfl) ?_
          refine lv_aload_n hx hb dX3_close_33 rfl (lv_at hl 0 rfl) ?_
          refine va_get (D := D) (ci := 2) (v := .int (os_I o_this 1)) (C := RX3) (T := TX3) (N := 3) hx hb hUX3 (fun _ h9 => h9) hown hK hP 0 rfl rfl 1 (by decide) (hts (Cond.fieldLink RX3 16 "ReliefBuilder$History" "next" "I") (List.mem_of_getElem? (i := 1) rfl)) (fun _ h9 => h9) rfl dX3_close_34 ?_
          refine lv_iconst (v := 1) hx hb dX3_close_37 (by decide) ?_
          refine lv_iadd hx hb dX3_close_38 ?_
          refine lv_bipush (v := 7) hx hb dX3_close_39 (by decide) ?_
          refine lv_irem hx hb dX3_close_41 (by decide) ?_
          refine va_put (D := D) (ci := 2) (v := .int (((os_I o_this 1) + (1 : Int32)) - ((os_I o_this 1) + (1 : Int32)) / (7 : Int32) * (7 : Int32))) (ty := .int) (C := RX3) (T := TX3) (N := 3) hx hb hUX3 (fun _ h9 => h9) tyX3 tyX3_ok nmX3 hown hK hP hD hS 0 rfl rfl 1 (by decide) (hts (Cond.fieldLink RX3 16 "ReliefBuilder$History" "next" "I") (List.mem_of_getElem? (i := 1) rfl)) (fun _ h9 => h9) rfl (tyX3_ok 1 (by decide)) rfl rfl (Nat.le_of_ble_eq_true rfl) dX3_close_42 (fun H locs hP hD hS => ?_)
          have hP : va_P D vwCl (ce_X3 kA q_this qh (ss_I o_this 1 (((os_I o_this 1) + (1 : Int32)) - ((os_I o_this 1) + (1 : Int32)) / (7 : Int32) * (7 : Int32))) ++ (ce_X5 kA (qh 0) o_this_panels0 ++ (ce_X5 kA (qh 1) o_this_panels1 ++ (ce_X5 kA (qh 2) o_this_panels2 ++ (ce_X5 kA (qh 3) o_this_panels3 ++ (ce_X5 kA (qh 4) o_this_panels4 ++ (ce_X5 kA (qh 5) o_this_panels5 ++ (ce_X5 kA (qh 6) o_this_panels6 ++ (ce_X5 kA q_p1 o_p1))))))))) H := hP
          have hD : va_D A (ce_X3 kA q_this qh (ss_I o_this 1 (((os_I o_this 1) + (1 : Int32)) - ((os_I o_this 1) + (1 : Int32)) / (7 : Int32) * (7 : Int32))) ++ (ce_X5 kA (qh 0) o_this_panels0 ++ (ce_X5 kA (qh 1) o_this_panels1 ++ (ce_X5 kA (qh 2) o_this_panels2 ++ (ce_X5 kA (qh 3) o_this_panels3 ++ (ce_X5 kA (qh 4) o_this_panels4 ++ (ce_X5 kA (qh 5) o_this_panels5 ++ (ce_X5 kA (qh 6) o_this_panels6 ++ (ce_X5 kA q_p1 o_p1))))))))) := hD
          refine lv_aload_n hx hb dX3_close_45 rfl (lv_at hl 0 rfl) ?_
          refine lv_aload_n hx hb dX3_close_46 rfl (lv_at hl 0 rfl) ?_
          refine va_get (D := D) (ci := 2) (v := .int (os_I o_this 2)) (C := RX3) (T := TX3) (N := 3) hx hb hUX3 (fun _ h9 => h9) hown hK hP 0 rfl rfl 2 (by decide) (hts (Cond.fieldLink RX3 28 "ReliefBuilder$History" "count" "I") (List.mem_of_getElem? (i := 3) rfl)) (fun _ h9 => h9) rfl dX3_close_47 ?_
          refine lv_iconst (v := 1) hx hb dX3_close_50 (by decide) ?_
          refine lv_iadd hx hb dX3_close_51 ?_
          refine lv_bipush (v := 6) hx hb dX3_close_52 (by decide) ?_
          refine va_mmin hx hb (hml.trans hl.1.symm) hown (hts (Cond.methodLink RX3 31 Lib.Math.min.name) (List.mem_of_getElem? (i := 4) rfl)) (hts (Cond.static Lib.Math.min.name) (List.mem_of_getElem? (i := 5) rfl)) (hts (Cond.initialized "java/lang/Math") (List.mem_of_getElem? (i := 6) rfl)) (hts (Cond.code Lib.Math.min.name Lib.Math.min.code 2 (some .int)) (List.mem_of_getElem? (i := 7) rfl)) (Nat.le_of_ble_eq_true rfl) (Nat.le_of_ble_eq_true rfl) (Nat.le_of_ble_eq_true rfl) (Nat.le_of_ble_eq_true rfl) dX3_close_54 ?_
          refine va_put (D := D) (ci := 2) (v := .int (if (6 : Int32) < ((os_I o_this 2) + (1 : Int32)) then (6 : Int32) else ((os_I o_this 2) + (1 : Int32)))) (ty := .int) (C := RX3) (T := TX3) (N := 3) hx hb hUX3 (fun _ h9 => h9) tyX3 tyX3_ok nmX3 hown hK hP hD hS 0 rfl rfl 2 (by decide) (hts (Cond.fieldLink RX3 28 "ReliefBuilder$History" "count" "I") (List.mem_of_getElem? (i := 3) rfl)) (fun _ h9 => h9) rfl (tyX3_ok 2 (by decide)) rfl rfl (Nat.le_of_ble_eq_true rfl) dX3_close_57 (fun H locs hP hD hS => ?_)
          have hP : va_P D vwCl (ce_X3 kA q_this qh (ss_I (ss_I o_this 1 (((os_I o_this 1) + (1 : Int32)) - ((os_I o_this 1) + (1 : Int32)) / (7 : Int32) * (7 : Int32))) 2 (if (6 : Int32) < ((os_I o_this 2) + (1 : Int32)) then (6 : Int32) else ((os_I o_this 2) + (1 : Int32)))) ++ (ce_X5 kA (qh 0) o_this_panels0 ++ (ce_X5 kA (qh 1) o_this_panels1 ++ (ce_X5 kA (qh 2) o_this_panels2 ++ (ce_X5 kA (qh 3) o_this_panels3 ++ (ce_X5 kA (qh 4) o_this_panels4 ++ (ce_X5 kA (qh 5) o_this_panels5 ++ (ce_X5 kA (qh 6) o_this_panels6 ++ (ce_X5 kA q_p1 o_p1))))))))) H := hP
          have hD : va_D A (ce_X3 kA q_this qh (ss_I (ss_I o_this 1 (((os_I o_this 1) + (1 : Int32)) - ((os_I o_this 1) + (1 : Int32)) / (7 : Int32) * (7 : Int32))) 2 (if (6 : Int32) < ((os_I o_this 2) + (1 : Int32)) then (6 : Int32) else ((os_I o_this 2) + (1 : Int32)))) ++ (ce_X5 kA (qh 0) o_this_panels0 ++ (ce_X5 kA (qh 1) o_this_panels1 ++ (ce_X5 kA (qh 2) o_this_panels2 ++ (ce_X5 kA (qh 3) o_this_panels3 ++ (ce_X5 kA (qh 4) o_this_panels4 ++ (ce_X5 kA (qh 5) o_this_panels5 ++ (ce_X5 kA (qh 6) o_this_panels6 ++ (ce_X5 kA q_p1 o_p1))))))))) := hD
          rw [← Option.some.inj hf]
          exact mc_retv hx hb hr hlk hP hK hD hS dX3_close_60
      rw [if_neg hc_16] at hf
      by_cases hc_20 : (os_I o_this 1) = 4
      · rw [if_pos hc_20] at hf
        refine W.eq (g2 := F0 m 26 ls [.ref ((qh 4) 0), .ref (q_p1 0)]) (by rw [hc_20] <;> rfl) ?_
        obtain ⟨u_21, he_22, hf⟩ := os_bd hf
        refine mc_callV ⟨hx, hb, hml, hown, hts⟩ (mm_X5_looksLike l D kA N q_p1 (qh 4) o_p1 o_this_panels4 u_21 he_22) (cwV 1 hts gX3_close_X5_looksLike rfl rfl rfl (by decide +kernel) ⟨Nat.le_of_ble_eq_true rfl, Nat.le_of_ble_eq_true rfl⟩) (wc := (ce_X5 kA q_p1 o_p1 ++ (ce_X5 kA (qh 4) o_this_panels4))) (ci := 4) (q0 := 0) rfl rfl rfl hl.1 (As := [.ref ((qh 4) 0)]) (rest := []) rfl (Nat.le_of_ble_eq_true rfl) dX3_close_26 ⟨Nat.le_of_ble_eq_true rfl, Nat.le_of_ble_eq_true rfl⟩ hK hP hD hS hA [30, 31, 32, 33, 18, 19, 20, 21] [0, 1, 2, 3, 4, 5, 6, 7, 8, 9, 10, 11, 12, 13, 14, 15, 16, 17, 22, 23, 24, 25, 26, 27, 28, 29] [0, 1, 2, 3, 4, 5, 6, 7, 8, 9, 10, 11, 12, 13, 14, 15, 16, 17, 30, 31, 32, 33, 18, 19, 20, 21, 22, 23, 24, 25, 26, 27, 28, 29] rfl (by decide) rfl (by decide) (by decide) rfl (by decide) (wr := (ce_X3 kA q_this qh o_this ++ (ce_X5 kA (qh 0) o_this_panels0 ++ (ce_X5 kA (qh 1) o_this_panels1 ++ (ce_X5 kA (qh 2) o_this_panels2 ++ (ce_X5 kA (qh 3) o_this_panels3 ++ (ce_X5 kA (qh 5) o_this_panels5 ++ (ce_X5 kA (qh 6) o_this_panels6)))))))) (w2 := (ce_X3 kA q_this qh o_this ++ (ce_X5 kA (qh 0) o_this_panels0 ++ (ce_X5 kA (qh 1) o_this_panels1 ++ (ce_X5 kA (qh 2) o_this_panels2 ++ (ce_X5 kA (qh 3) o_this_panels3 ++ (ce_X5 kA (qh 4) o_this_panels4 ++ (ce_X5 kA (qh 5) o_this_panels5 ++ (ce_X5 kA (qh 6) o_this_panels6 ++ (ce_X5 kA q_p1 o_p1)))))))))) (fun H locs hP hD hS => ?_)
        have hP : va_P D vwCl (ce_X3 kA q_this qh o_this ++ (ce_X5 kA (qh 0) o_this_panels0 ++ (ce_X5 kA (qh 1) o_this_panels1 ++ (ce_X5 kA (qh 2) o_this_panels2 ++ (ce_X5 kA (qh 3) o_this_panels3 ++ (ce_X5 kA (qh 4) o_this_panels4 ++ (ce_X5 kA (qh 5) o_this_panels5 ++ (ce_X5 kA (qh 6) o_this_panels6 ++ (ce_X5 kA q_p1 o_p1))))))))) H := hP
        refine lv_if_ne (tgt := 60) hx hb dX3_close_29 (by decide) (fun hc_23 => ?_) (fun hc_23 => ?_)
        · rw [if_neg hc_23] at hf
          rw [← Option.some.inj hf]
          exact mc_retv hx hb hr hlk hP hK hD hS dX3_close_60
        · rw [if_pos hc_23] at hf
          refine lv_aload_n hx hb dX3_close_32 rfl (lv_at hl 0 rfl) ?_
          refine lv_aload_n hx hb dX3_close_33 rfl (lv_at hl 0 rfl) ?_
          refine va_get (D := D) (ci := 2) (v := .int (os_I o_this 1)) (C := RX3) (T := TX3) (N := 3) hx hb hUX3 (fun _ h9 => h9) hown hK hP 0 rfl rfl 1 (by decide) (hts (Cond.fieldLink RX3 16 "ReliefBuilder$History" "next" "I") (List.mem_of_getElem? (i := 1) rfl)) (fun _ h9 => h9) rfl dX3_close_34 ?_
          refine lv_iconst (v := 1) hx hb dX3_close_37 (by decide) ?_
          refine lv_iadd hx hb dX3_close_38 ?_
          refine lv_bipush (v := 7) hx hb dX3_close_39 (by decide) ?_
          refine lv_irem hx hb dX3_close_41 (by decide) ?_
          refine va_put (D := D) (ci := 2) (v := .int (((os_I o_this 1) + (1 : Int32)) - ((os_I o_this 1) + (1 : Int32)) / (7 : Int32) * (7 : Int32))) (ty := .int) (C := RX3) (T := TX3) (N := 3) hx hb hUX3 (fun _ h9 => h9) tyX3 tyX3_ok nmX3 hown hK hP hD hS 0 rfl rfl 1 (by decide) (hts (Cond.fieldLink RX3 16 "ReliefBuilder$History" "next" "I") (List.mem_of_getElem? (i := 1) rfl)) (fun _ h9 => h9) rfl (tyX3_ok 1 (by decide)) rfl rfl (Nat.le_of_ble_eq_true rfl) dX3_close_42 (fun H locs hP hD hS => ?_)
          have hP : va_P D vwCl (ce_X3 kA q_this qh (ss_I o_this 1 (((os_I o_this 1) + (1 : Int32)) - ((os_I o_this 1) + (1 : Int32)) / (7 : Int32) * (7 : Int32))) ++ (ce_X5 kA (qh 0) o_this_panels0 ++ (ce_X5 kA (qh 1) o_this_panels1 ++ (ce_X5 kA (qh 2) o_this_panels2 ++ (ce_X5 kA (qh 3) o_this_panels3 ++ (ce_X5 kA (qh 4) o_this_panels4 ++ (ce_X5 kA (qh 5) o_this_panels5 ++ (ce_X5 kA (qh 6) o_this_panels6 ++ (ce_X5 kA q_p1 o_p1))))))))) H := hP
          have hD : va_D A (ce_X3 kA q_this qh (ss_I o_this 1 (((os_I o_this 1) + (1 : Int32)) - ((os_I o_this 1) + (1 : Int32)) / (7 : Int32) * (7 : Int32))) ++ (ce_X5 kA (qh 0) o_this_panels0 ++ (ce_X5 kA (qh 1) o_this_panels1 ++ (ce_X5 kA (qh 2) o_this_panels2 ++ (ce_X5 kA (qh 3) o_this_panels3 ++ (ce_X5 kA (qh 4) o_this_panels4 ++ (ce_X5 kA (qh 5) o_this_panels5 ++ (ce_X5 kA (qh 6) o_this_panels6 ++ (ce_X5 kA q_p1 o_p1))))))))) := hD
          refine lv_aload_n hx hb dX3_close_45 rfl (lv_at hl 0 rfl) ?_
          refine lv_aload_n hx hb dX3_close_46 rfl (lv_at hl 0 rfl) ?_
          refine va_get (D := D) (ci := 2) (v := .int (os_I o_this 2)) (C := RX3) (T := TX3) (N := 3) hx hb hUX3 (fun _ h9 => h9) hown hK hP 0 rfl rfl 2 (by decide) (hts (Cond.fieldLink RX3 28 "ReliefBuilder$History" "count" "I") (List.mem_of_getElem? (i := 3) rfl)) (fun _ h9 => h9) rfl dX3_close_47 ?_
          refine lv_iconst (v := 1) hx hb dX3_close_50 (by decide) ?_
          refine lv_iadd hx hb dX3_close_51 ?_
          refine lv_bipush (v := 6) hx hb dX3_close_52 (by decide) ?_
          refine va_mmin hx hb (hml.trans hl.1.symm) hown (hts (Cond.methodLink RX3 31 Lib.Math.min.name) (List.mem_of_getElem? (i := 4) rfl)) (hts (Cond.static Lib.Math.min.name) (List.mem_of_getElem? (i := 5) rfl)) (hts (Cond.initialized "java/lang/Math") (List.mem_of_getElem? (i := 6) rfl)) (hts (Cond.code Lib.Math.min.name Lib.Math.min.code 2 (some .int)) (List.mem_of_getElem? (i := 7) rfl)) (Nat.le_of_ble_eq_true rfl) (Nat.le_of_ble_eq_true rfl) (Nat.le_of_ble_eq_true rfl) (Nat.le_of_ble_eq_true rfl) dX3_close_54 ?_
          refine va_put (D := D) (ci := 2) (v := .int (if (6 : Int32) < ((os_I o_this 2) + (1 : Int32)) then (6 : Int32) else ((os_I o_this 2) + (1 : Int32)))) (ty := .int) (C := RX3) (T := TX3) (N := 3) hx hb hUX3 (fun _ h9 => h9) tyX3 tyX3_ok nmX3 hown hK hP hD hS 0 rfl rfl 2 (by decide) (hts (Cond.fieldLink RX3 28 "ReliefBuilder$History" "count" "I") (List.mem_of_getElem? (i := 3) rfl)) (fun _ h9 => h9) rfl (tyX3_ok 2 (by decide)) rfl rfl (Nat.le_of_ble_eq_true rfl) dX3_close_57 (fun H locs hP hD hS => ?_)
          have hP : va_P D vwCl (ce_X3 kA q_this qh (ss_I (ss_I o_this 1 (((os_I o_this 1) + (1 : Int32)) - ((os_I o_this 1) + (1 : Int32)) / (7 : Int32) * (7 : Int32))) 2 (if (6 : Int32) < ((os_I o_this 2) + (1 : Int32)) then (6 : Int32) else ((os_I o_this 2) + (1 : Int32)))) ++ (ce_X5 kA (qh 0) o_this_panels0 ++ (ce_X5 kA (qh 1) o_this_panels1 ++ (ce_X5 kA (qh 2) o_this_panels2 ++ (ce_X5 kA (qh 3) o_this_panels3 ++ (ce_X5 kA (qh 4) o_this_panels4 ++ (ce_X5 kA (qh 5) o_this_panels5 ++ (ce_X5 kA (qh 6) o_this_panels6 ++ (ce_X5 kA q_p1 o_p1))))))))) H := hP
          have hD : va_D A (ce_X3 kA q_this qh (ss_I (ss_I o_this 1 (((os_I o_this 1) + (1 : Int32)) - ((os_I o_this 1) + (1 : Int32)) / (7 : Int32) * (7 : Int32))) 2 (if (6 : Int32) < ((os_I o_this 2) + (1 : Int32)) then (6 : Int32) else ((os_I o_this 2) + (1 : Int32)))) ++ (ce_X5 kA (qh 0) o_this_panels0 ++ (ce_X5 kA (qh 1) o_this_panels1 ++ (ce_X5 kA (qh 2) o_this_panels2 ++ (ce_X5 kA (qh 3) o_this_panels3 ++ (ce_X5 kA (qh 4) o_this_panels4 ++ (ce_X5 kA (qh 5) o_this_panels5 ++ (ce_X5 kA (qh 6) o_this_panels6 ++ (ce_X5 kA q_p1 o_p1))))))))) := hD
          rw [← Option.some.inj hf]
          exact mc_retv hx hb hr hlk hP hK hD hS dX3_close_60
      rw [if_neg hc_20] at hf
      by_cases hc_24 : (os_I o_this 1) = 5
      · rw [if_pos hc_24] at hf
        refine W.eq (g2 := F0 m 26 ls [.ref ((qh 5) 0), .ref (q_p1 0)]) (by rw [hc_24] <;> rfl) ?_
        obtain ⟨u_25, he_26, hf⟩ := os_bd hf
        refine mc_callV ⟨hx, hb, hml, hown, hts⟩ (mm_X5_looksLike l D kA N q_p1 (qh 5) o_p1 o_this_panels5 u_25 he_26) (cwV 1 hts gX3_close_X5_looksLike rfl rfl rfl (by decide +kernel) ⟨Nat.le_of_ble_eq_true rfl, Nat.le_of_ble_eq_true rfl⟩) (wc := (ce_X5 kA q_p1 o_p1 ++ (ce_X5 kA (qh 5) o_this_panels5))) (ci := 4) (q0 := 0) rfl rfl rfl hl.1 (As := [.ref ((qh 5) 0)]) (rest := []) rfl (Nat.le_of_ble_eq_true rfl) dX3_close_26 ⟨Nat.le_of_ble_eq_true rfl, Nat.le_of_ble_eq_true rfl⟩ hK hP hD hS hA [30, 31, 32, 33, 22, 23, 24, 25] [0, 1, 2, 3, 4, 5, 6, 7, 8, 9, 10, 11, 12, 13, 14, 15, 16, 17, 18, 19, 20, 21, 26, 27, 28, 29] [0, 1, 2, 3, 4, 5, 6, 7, 8, 9, 10, 11, 12, 13, 14, 15, 16, 17, 18, 19, 20, 21, 30, 31, 32, 33, 22, 23, 24, 25, 26, 27, 28, 29] rfl (by decide) rfl (by decide) (by decide) rfl (by decide) (wr := (ce_X3 kA q_this qh o_this ++ (ce_X5 kA (qh 0) o_this_panels0 ++ (ce_X5 kA (qh 1) o_this_panels1 ++ (ce_X5 kA (qh 2) o_this_panels2 ++ (ce_X5 kA (qh 3) o_this_panels3 ++ (ce_X5 kA (qh 4) o_this_panels4 ++ (ce_X5 kA (qh 6) o_this_panels6)))))))) (w2 := (ce_X3 kA q_this qh o_this ++ (ce_X5 kA (qh 0) o_this_panels0 ++ (ce_X5 kA (qh 1) o_this_panels1 ++ (ce_X5 kA (qh 2) o_this_panels2 ++ (ce_X5 kA (qh 3) o_this_panels3 ++ (ce_X5 kA (qh 4) o_this_panels4 ++ (ce_X5 kA (qh 5) o_this_panels5 ++ (ce_X5 kA (qh 6) o_this_panels6 ++ (ce_X5 kA q_p1 o_p1)))))))))) (fun H locs hP hD hS => ?_)
        have hP : va_P D vwCl (ce_X3 kA q_this qh o_this ++ (ce_X5 kA (qh 0) o_this_panels0 ++ (ce_X5 kA (qh 1) o_this_panels1 ++ (ce_X5 kA (qh 2) o_this_panels2 ++ (ce_X5 kA (qh 3) o_this_panels3 ++ (ce_X5 kA (qh 4) o_this_panels4 ++ (ce_X5 kA (qh 5) o_this_panels5 ++ (ce_X5 kA (qh 6) o_this_panels6 ++ (ce_X5 kA q_p1 o_p1))))))))) H := hP
        refine lv_if_ne (tgt := 60) hx hb dX3_close_29 (by decide) (fun hc_27 => ?_) (fun hc_27 => ?_)
        · rw [if_neg hc_27] at hf
          rw [← Option.some.inj hf]
          exact mc_retv hx hb hr hlk hP hK hD hS dX3_close_60
        · rw [if_pos hc_27] at hf
          refine lv_aload_n hx hb dX3_close_32 rfl (lv_at hl 0 rfl) ?_
          refine lv_aload_n hx hb dX3_close_33 rfl (lv_at hl 0 rfl) ?_
          refine va_get (D := D) (ci := 2) (v := .int (os_I o_this 1)) (C := RX3) (T := TX3) (N := 3) hx hb hUX3 (fun _ h9 => h9) hown hK hP 0 rfl rfl 1 (by decide) (hts (Cond.fieldLink RX3 16 "ReliefBuilder$History" "next" "I") (List.mem_of_getElem? (i := 1) rfl)) (fun _ h9 => h9) rfl dX3_close_34 ?_
          refine lv_iconst (v := 1) hx hb dX3_close_37 (by decide) ?_
          refine lv_iadd hx hb dX3_close_38 ?_
          refine lv_bipush (v := 7) hx hb dX3_close_39 (by decide) ?_
          refine lv_irem hx hb dX3_close_41 (by decide) ?_
          refine va_put (D := D) (ci := 2) (v := .int (((os_I o_this 1) + (1 : Int32)) - ((os_I o_this 1) + (1 : Int32)) / (7 : Int32) * (7 : Int32))) (ty := .int) (C := RX3) (T := TX3) (N := 3) hx hb hUX3 (fun _ h9 => h9) tyX3 tyX3_ok nmX3 hown hK hP hD hS 0 rfl rfl 1 (by decide) (hts (Cond.fieldLink RX3 16 "ReliefBuilder$History" "next" "I") (List.mem_of_getElem? (i := 1) rfl)) (fun _ h9 => h9) rfl (tyX3_ok 1 (by decide)) rfl rfl (Nat.le_of_ble_eq_true rfl) dX3_close_42 (fun H locs hP hD hS => ?_)
          have hP : va_P D vwCl (ce_X3 kA q_this qh (ss_I o_this 1 (((os_I o_this 1) + (1 : Int32)) - ((os_I o_this 1) + (1 : Int32)) / (7 : Int32) * (7 : Int32))) ++ (ce_X5 kA (qh 0) o_this_panels0 ++ (ce_X5 kA (qh 1) o_this_panels1 ++ (ce_X5 kA (qh 2) o_this_panels2 ++ (ce_X5 kA (qh 3) o_this_panels3 ++ (ce_X5 kA (qh 4) o_this_panels4 ++ (ce_X5 kA (qh 5) o_this_panels5 ++ (ce_X5 kA (qh 6) o_this_panels6 ++ (ce_X5 kA q_p1 o_p1))))))))) H := hP
          have hD : va_D A (ce_X3 kA q_this qh (ss_I o_this 1 (((os_I o_this 1) + (1 : Int32)) - ((os_I o_this 1) + (1 : Int32)) / (7 : Int32) * (7 : Int32))) ++ (ce_X5 kA (qh 0) o_this_panels0 ++ (ce_X5 kA (qh 1) o_this_panels1 ++ (ce_X5 kA (qh 2) o_this_panels2 ++ (ce_X5 kA (qh 3) o_this_panels3 ++ (ce_X5 kA (qh 4) o_this_panels4 ++ (ce_X5 kA (qh 5) o_this_panels5 ++ (ce_X5 kA (qh 6) o_this_panels6 ++ (ce_X5 kA q_p1 o_p1))))))))) := hD
          refine lv_aload_n hx hb dX3_close_45 rfl (lv_at hl 0 rfl) ?_
          refine lv_aload_n hx hb dX3_close_46 rfl (lv_at hl 0 rfl) ?_
          refine va_get (D := D) (ci := 2) (v := .int (os_I o_this 2)) (C := RX3) (T := TX3) (N := 3) hx hb hUX3 (fun _ h9 => h9) hown hK hP 0 rfl rfl 2 (by decide) (hts (Cond.fieldLink RX3 28 "ReliefBuilder$History" "count" "I") (List.mem_of_getElem? (i := 3) rfl)) (fun _ h9 => h9) rfl dX3_close_47 ?_
          refine lv_iconst (v := 1) hx hb dX3_close_50 (by decide) ?_
          refine lv_iadd hx hb dX3_close_51 ?_
          refine lv_bipush (v := 6) hx hb dX3_close_52 (by decide) ?_
          refine va_mmin hx hb (hml.trans hl.1.symm) hown (hts (Cond.methodLink RX3 31 Lib.Math.min.name) (List.mem_of_getElem? (i := 4) rfl)) (hts (Cond.static Lib.Math.min.name) (List.mem_of_getElem? (i := 5) rfl)) (hts (Cond.initialized "java/lang/Math") (List.mem_of_getElem? (i := 6) rfl)) (hts (Cond.code Lib.Math.min.name Lib.Math.min.code 2 (some .int)) (List.mem_of_getElem? (i := 7) rfl)) (Nat.le_of_ble_eq_true rfl) (Nat.le_of_ble_eq_true rfl) (Nat.le_of_ble_eq_true rfl) (Nat.le_of_ble_eq_true rfl) dX3_close_54 ?_
          refine va_put (D := D) (ci := 2) (v := .int (if (6 : Int32) < ((os_I o_this 2) + (1 : Int32)) then (6 : Int32) else ((os_I o_this 2) + (1 : Int32)))) (ty := .int) (C := RX3) (T := TX3) (N := 3) hx hb hUX3 (fun _ h9 => h9) tyX3 tyX3_ok nmX3 hown hK hP hD hS 0 rfl rfl 2 (by decide) (hts (Cond.fieldLink RX3 28 "ReliefBuilder$History" "count" "I") (List.mem_of_getElem? (i := 3) rfl)) (fun _ h9 => h9) rfl (tyX3_ok 2 (by decide)) rfl rfl (Nat.le_of_ble_eq_true rfl) dX3_close_57 (fun H locs hP hD hS => ?_)
          have hP : va_P D vwCl (ce_X3 kA q_this qh (ss_I (ss_I o_this 1 (((os_I o_this 1) + (1 : Int32)) - ((os_I o_this 1) + (1 : Int32)) / (7 : Int32) * (7 : Int32))) 2 (if (6 : Int32) < ((os_I o_this 2) + (1 : Int32)) then (6 : Int32) else ((os_I o_this 2) + (1 : Int32)))) ++ (ce_X5 kA (qh 0) o_this_panels0 ++ (ce_X5 kA (qh 1) o_this_panels1 ++ (ce_X5 kA (qh 2) o_this_panels2 ++ (ce_X5 kA (qh 3) o_this_panels3 ++ (ce_X5 kA (qh 4) o_this_panels4 ++ (ce_X5 kA (qh 5) o_this_panels5 ++ (ce_X5 kA (qh 6) o_this_panels6 ++ (ce_X5 kA q_p1 o_p1))))))))) H := hP
          have hD : va_D A (ce_X3 kA q_this qh (ss_I (ss_I o_this 1 (((os_I o_this 1) + (1 : Int32)) - ((os_I o_this 1) + (1 : Int32)) / (7 : Int32) * (7 : Int32))) 2 (if (6 : Int32) < ((os_I o_this 2) + (1 : Int32)) then (6 : Int32) else ((os_I o_this 2) + (1 : Int32)))) ++ (ce_X5 kA (qh 0) o_this_panels0 ++ (ce_X5 kA (qh 1) o_this_panels1 ++ (ce_X5 kA (qh 2) o_this_panels2 ++ (ce_X5 kA (qh 3) o_this_panels3 ++ (ce_X5 kA (qh 4) o_this_panels4 ++ (ce_X5 kA (qh 5) o_this_panels5 ++ (ce_X5 kA (qh 6) o_this_panels6 ++ (ce_X5 kA q_p1 o_p1))))))))) := hD
          rw [← Option.some.inj hf]
          exact mc_retv hx hb hr hlk hP hK hD hS dX3_close_60
      rw [if_neg hc_24] at hf
      by_cases hc_28 : (os_I o_this 1) = 6
      · rw [if_pos hc_28] at hf
        refine W.eq (g2 := F0 m 26 ls [.ref ((qh 6) 0), .ref (q_p1 0)]) (by rw [hc_28] <;> rfl) ?_
        obtain ⟨u_29, he_30, hf⟩ := os_bd hf
        refine mc_callV ⟨hx, hb, hml, hown, hts⟩ (mm_X5_looksLike l D kA N q_p1 (qh 6) o_p1 o_this_panels6 u_29 he_30) (cwV 1 hts gX3_close_X5_looksLike rfl rfl rfl (by decide +kernel) ⟨Nat.le_of_ble_eq_true rfl, Nat.le_of_ble_eq_true rfl⟩) (wc := (ce_X5 kA q_p1 o_p1 ++ (ce_X5 kA (qh 6) o_this_panels6))) (ci := 4) (q0 := 0) rfl rfl rfl hl.1 (As := [.ref ((qh 6) 0)]) (rest := []) rfl (Nat.le_of_ble_eq_true rfl) dX3_close_26 ⟨Nat.le_of_ble_eq_true rfl, Nat.le_of_ble_eq_true rfl⟩ hK hP hD hS hA [30, 31, 32, 33, 26, 27, 28, 29] [0, 1, 2, 3, 4, 5, 6, 7, 8, 9, 10, 11, 12, 13, 14, 15, 16, 17, 18, 19, 20, 21, 22, 23, 24, 25] [0, 1, 2, 3, 4, 5, 6, 7, 8, 9, 10, 11, 12, 13, 14, 15, 16, 17, 18, 19, 20, 21, 22, 23, 24, 25, 30, 31, 32, 33, 26, 27, 28, 29] rfl (by decide) rfl (by decide) (by decide) rfl (by decide) (wr := (ce_X3 kA q_this qh o_this ++ (ce_X5 kA (qh 0) o_this_panels0 ++ (ce_X5 kA (qh 1) o_this_panels1 ++ (ce_X5 kA (qh 2) o_this_panels2 ++ (ce_X5 kA (qh 3) o_this_panels3 ++ (ce_X5 kA (qh 4) o_this_panels4 ++ (ce_X5 kA (qh 5) o_this_panels5)))))))) (w2 := (ce_X3 kA q_this qh o_this ++ (ce_X5 kA (qh 0) o_this_panels0 ++ (ce_X5 kA (qh 1) o_this_panels1 ++ (ce_X5 kA (qh 2) o_this_panels2 ++ (ce_X5 kA (qh 3) o_this_panels3 ++ (ce_X5 kA (qh 4) o_this_panels4 ++ (ce_X5 kA (qh 5) o_this_panels5 ++ (ce_X5 kA (qh 6) o_this_panels6 ++ (ce_X5 kA q_p1 o_p1)))))))))) (fun H locs hP hD hS => ?_)
        have hP : va_P D vwCl (ce_X3 kA q_this qh o_this ++ (ce_X5 kA (qh 0) o_this_panels0 ++ (ce_X5 kA (qh 1) o_this_panels1 ++ (ce_X5 kA (qh 2) o_this_panels2 ++ (ce_X5 kA (qh 3) o_this_panels3 ++ (ce_X5 kA (qh 4) o_this_panels4 ++ (ce_X5 kA (qh 5) o_this_panels5 ++ (ce_X5 kA (qh 6) o_this_panels6 ++ (ce_X5 kA q_p1 o_p1))))))))) H := hP
        refine lv_if_ne (tgt := 60) hx hb dX3_close_29 (by decide) (fun hc_31 => ?_) (fun hc_31 => ?_)
        · rw [if_neg hc_31] at hf
          rw [← Option.some.inj hf]
          exact mc_retv hx hb hr hlk hP hK hD hS dX3_close_60
        · rw [if_pos hc_31] at hf
          refine lv_aload_n hx hb dX3_close_32 rfl (lv_at hl 0 rfl) ?_
          refine lv_aload_n hx hb dX3_close_33 rfl (lv_at hl 0 rfl) ?_
          refine va_get (D := D) (ci := 2) (v := .int (os_I o_this 1)) (C := RX3) (T := TX3) (N := 3) hx hb hUX3 (fun _ h9 => h9) hown hK hP 0 rfl rfl 1 (by decide) (hts (Cond.fieldLink RX3 16 "ReliefBuilder$History" "next" "I") (List.mem_of_getElem? (i := 1) rfl)) (fun _ h9 => h9) rfl dX3_close_34 ?_
          refine lv_iconst (v := 1) hx hb dX3_close_37 (by decide) ?_
          refine lv_iadd hx hb dX3_close_38 ?_
          refine lv_bipush (v := 7) hx hb dX3_close_39 (by decide) ?_
          refine lv_irem hx hb dX3_close_41 (by decide) ?_
          refine va_put (D := D) (ci := 2) (v := .int (((os_I o_this 1) + (1 : Int32)) - ((os_I o_this 1) + (1 : Int32)) / (7 : Int32) * (7 : Int32))) (ty := .int) (C := RX3) (T := TX3) (N := 3) hx hb hUX3 (fun _ h9 => h9) tyX3 tyX3_ok nmX3 hown hK hP hD hS 0 rfl rfl 1 (by decide) (hts (Cond.fieldLink RX3 16 "ReliefBuilder$History" "next" "I") (List.mem_of_getElem? (i := 1) rfl)) (fun _ h9 => h9) rfl (tyX3_ok 1 (by decide)) rfl rfl (Nat.le_of_ble_eq_true rfl) dX3_close_42 (fun H locs hP hD hS => ?_)
          have hP : va_P D vwCl (ce_X3 kA q_this qh (ss_I o_this 1 (((os_I o_this 1) + (1 : Int32)) - ((os_I o_this 1) + (1 : Int32)) / (7 : Int32) * (7 : Int32))) ++ (ce_X5 kA (qh 0) o_this_panels0 ++ (ce_X5 kA (qh 1) o_this_panels1 ++ (ce_X5 kA (qh 2) o_this_panels2 ++ (ce_X5 kA (qh 3) o_this_panels3 ++ (ce_X5 kA (qh 4) o_this_panels4 ++ (ce_X5 kA (qh 5) o_this_panels5 ++ (ce_X5 kA (qh 6) o_this_panels6 ++ (ce_X5 kA q_p1 o_p1))))))))) H := hP
          have hD : va_D A (ce_X3 kA q_this qh (ss_I o_this 1 (((os_I o_this 1) + (1 : Int32)) - ((os_I o_this 1) + (1 : Int32)) / (7 : Int32) * (7 : Int32))) ++ (ce_X5 kA (qh 0) o_this_panels0 ++ (ce_X5 kA (qh 1) o_this_panels1 ++ (ce_X5 kA (qh 2) o_this_panels2 ++ (ce_X5 kA (qh 3) o_this_panels3 ++ (ce_X5 kA (qh 4) o_this_panels4 ++ (ce_X5 kA (qh 5) o_this_panels5 ++ (ce_X5 kA (qh 6) o_this_panels6 ++ (ce_X5 kA q_p1 o_p1))))))))) := hD
          refine lv_aload_n hx hb dX3_close_45 rfl (lv_at hl 0 rfl) ?_
          refine lv_aload_n hx hb dX3_close_46 rfl (lv_at hl 0 rfl) ?_
          refine va_get (D := D) (ci := 2) (v := .int (os_I o_this 2)) (C := RX3) (T := TX3) (N := 3) hx hb hUX3 (fun _ h9 => h9) hown hK hP 0 rfl rfl 2 (by decide) (hts (Cond.fieldLink RX3 28 "ReliefBuilder$History" "count" "I") (List.mem_of_getElem? (i := 3) rfl)) (fun _ h9 => h9) rfl dX3_close_47 ?_
          refine lv_iconst (v := 1) hx hb dX3_close_50 (by decide) ?_
          refine lv_iadd hx hb dX3_close_51 ?_
          refine lv_bipush (v := 6) hx hb dX3_close_52 (by decide) ?_
          refine va_mmin hx hb (hml.trans hl.1.symm) hown (hts (Cond.methodLink RX3 31 Lib.Math.min.name) (List.mem_of_getElem? (i := 4) rfl)) (hts (Cond.static Lib.Math.min.name) (List.mem_of_getElem? (i := 5) rfl)) (hts (Cond.initialized "java/lang/Math") (List.mem_of_getElem? (i := 6) rfl)) (hts (Cond.code Lib.Math.min.name Lib.Math.min.code 2 (some .int)) (List.mem_of_getElem? (i := 7) rfl)) (Nat.le_of_ble_eq_true rfl) (Nat.le_of_ble_eq_true rfl) (Nat.le_of_ble_eq_true rfl) (Nat.le_of_ble_eq_true rfl) dX3_close_54 ?_
          refine va_put (D := D) (ci := 2) (v := .int (if (6 : Int32) < ((os_I o_this 2) + (1 : Int32)) then (6 : Int32) else ((os_I o_this 2) + (1 : Int32)))) (ty := .int) (C := RX3) (T := TX3) (N := 3) hx hb hUX3 (fun _ h9 => h9) tyX3 tyX3_ok nmX3 hown hK hP hD hS 0 rfl rfl 2 (by decide) (hts (Cond.fieldLink RX3 28 "ReliefBuilder$History" "count" "I") (List.mem_of_getElem? (i := 3) rfl)) (fun _ h9 => h9) rfl (tyX3_ok 2 (by decide)) rfl rfl (Nat.le_of_ble_eq_true rfl) dX3_close_57 (fun H locs hP hD hS => ?_)
          have hP : va_P D vwCl (ce_X3 kA q_this qh (ss_I (ss_I o_this 1 (((os_I o_this 1) + (1 : Int32)) - ((os_I o_this 1) + (1 : Int32)) / (7 : Int32) * (7 : Int32))) 2 (if (6 : Int32) < ((os_I o_this 2) + (1 : Int32)) then (6 : Int32) else ((os_I o_this 2) + (1 : Int32)))) ++ (ce_X5 kA (qh 0) o_this_panels0 ++ (ce_X5 kA (qh 1) o_this_panels1 ++ (ce_X5 kA (qh 2) o_this_panels2 ++ (ce_X5 kA (qh 3) o_this_panels3 ++ (ce_X5 kA (qh 4) o_this_panels4 ++ (ce_X5 kA (qh 5) o_this_panels5 ++ (ce_X5 kA (qh 6) o_this_panels6 ++ (ce_X5 kA q_p1 o_p1))))))))) H := hP
          have hD : va_D A (ce_X3 kA q_this qh (ss_I (ss_I o_this 1 (((os_I o_this 1) + (1 : Int32)) - ((os_I o_this 1) + (1 : Int32)) / (7 : Int32) * (7 : Int32))) 2 (if (6 : Int32) < ((os_I o_this 2) + (1 : Int32)) then (6 : Int32) else ((os_I o_this 2) + (1 : Int32)))) ++ (ce_X5 kA (qh 0) o_this_panels0 ++ (ce_X5 kA (qh 1) o_this_panels1 ++ (ce_X5 kA (qh 2) o_this_panels2 ++ (ce_X5 kA (qh 3) o_this_panels3 ++ (ce_X5 kA (qh 4) o_this_panels4 ++ (ce_X5 kA (qh 5) o_this_panels5 ++ (ce_X5 kA (qh 6) o_this_panels6 ++ (ce_X5 kA q_p1 o_p1))))))))) := hD
          rw [← Option.some.inj hf]
          exact mc_retv hx hb hr hlk hP hK hD hS dX3_close_60
      rw [if_neg hc_28] at hf
      cases hf
def ff_X3_forget (N : Nat) (o_this : os_T) : Option os_T :=
  some (ss_I o_this 2 (0 : Int32))
set_option maxHeartbeats 4000000 in
set_option maxRecDepth 100000 in
theorem mm_X3_forget (l : Launch) (D : va_G) (kA : Nat → ClassId) (N : Nat) (q_this : Nat → Nat) (qh : Nat → Nat → Nat) (o_this : os_T) (out : os_T) (hf : ff_X3_forget N o_this = some out) : mc_C l D kA yX3_forget wsX3_forget ({ frames := 0, cells := 0, slots := 0, locals := 0 } : Room) [.ref (q_this 0)] (ce_X3 kA q_this qh o_this) none (ce_X3 kA q_this qh out) := by
  refine mc_of (cc := cX3_forget) (maxL := 1) (ret := none) (by decide) rfl (Nat.le_of_ble_eq_true rfl) ?_
  intro p e s m below meth c A B hD hP hS ls hl
  obtain ⟨hx, hb, hr, hlk, hml, hown, hts, hK, hA, hnm⟩ := B
  have hown : s.vm.findClass RX3 = some m.cls := hown
  have hl : lv_has ls 1 [(0, .ref (q_this 0))] := hl
  have hUX3 : ∀ w ∈ u_ws RX3 TX3 3, w.before [.ref (q_this 0)].toArray s = true := fun w h => hts w (List.mem_cons_of_mem _ (List.mem_append_right _ h))
  unfold ff_X3_forget at hf
  refine lv_aload_n hx hb dX3_forget_0 rfl (lv_at hl 0 rfl) ?_
  refine lv_iconst (v := 0) hx hb dX3_forget_1 (by decide) ?_
  refine va_put (D := D) (ci := 2) (v := .int (0 : Int32)) (ty := .int) (C := RX3) (T := TX3) (N := 3) hx hb hUX3 (fun _ h9 => h9) tyX3 tyX3_ok nmX3 hown hK hP hD hS 0 rfl rfl 2 (by decide) (hts (Cond.fieldLink RX3 28 "ReliefBuilder$History" "count" "I") (List.mem_of_getElem? (i := 1) rfl)) (fun _ h9 => h9) rfl (tyX3_ok 2 (by decide)) rfl rfl (Nat.le_of_ble_eq_true rfl) dX3_forget_2 (fun H locs hP hD hS => ?_)
  have hP : va_P D vwCl (ce_X3 kA q_this qh (ss_I o_this 2 (0 : Int32))) H := hP
  have hD : va_D A (ce_X3 kA q_this qh (ss_I o_this 2 (0 : Int32))) := hD
  rw [← Option.some.inj hf]
  exact mc_retv hx hb hr hlk hP hK hD hS dX3_forget_5
def ff_X10_hasRoomFor (N : Nat) (o_this : os_T) (a1 : Int32) : Option Int32 :=
  (if (900 : Int32) < ((os_I o_this 4) + a1) then some (0 : Int32) else some (1 : Int32))
set_option maxHeartbeats 4000000 in
set_option maxRecDepth 100000 in
theorem mm_X10_hasRoomFor (l : Launch) (D : va_G) (kA : Nat → ClassId) (N : Nat) (q_this : Nat → Nat) (o_this : os_T) (a1 : Int32) (out : Int32) (hf : ff_X10_hasRoomFor N o_this a1 = some out) : mc_C l D kA yX10_hasRoomFor wsX10_hasRoomFor ({ frames := 0, cells := 0, slots := 0, locals := 0 } : Room) [.ref (q_this 0), .int a1] (ce_X10 kA q_this o_this) (some (.int out)) (ce_X10 kA q_this o_this) := by
  refine mc_of (cc := cX10_hasRoomFor) (maxL := 2) (ret := (some .boolean)) (by decide) rfl (Nat.le_of_ble_eq_true rfl) ?_
  intro p e s m below meth c A B hD hP hS ls hl
  obtain ⟨hx, hb, hr, hlk, hml, hown, hts, hK, hA, hnm⟩ := B
  have hown : s.vm.findClass RX10 = some m.cls := hown
  have hl : lv_has ls 2 [(0, .ref (q_this 0)), (1, .int a1)] := hl
  have hUX10 : ∀ w ∈ u_ws RX10 TX10 11, w.before [.ref (q_this 0), .int a1].toArray s = true := fun w h => hts w (List.mem_cons_of_mem _ (List.mem_append_right _ h))
  unfold ff_X10_hasRoomFor at hf
  refine lv_aload_n hx hb dX10_hasRoomFor_0 rfl (lv_at hl 0 rfl) ?_
  refine va_get (D := D) (ci := 8) (v := .int (os_I o_this 4)) (C := RX10) (T := TX10) (N := 11) hx hb hUX10 (fun _ h9 => h9) hown hK hP 0 rfl rfl 4 (by decide) (hts (Cond.fieldLink RX10 25 "ReliefBuilder$Tokens" "length" "I") (List.mem_of_getElem? (i := 1) rfl)) (fun _ h9 => h9) rfl dX10_hasRoomFor_1 ?_
  refine lv_iload_n hx hb dX10_hasRoomFor_4 rfl (lv_at hl 1 rfl) ?_
  refine lv_iadd hx hb dX10_hasRoomFor_5 ?_
  refine lv_sipush (v := 900) hx hb dX10_hasRoomFor_6 (by decide) ?_
  refine lv_icmp_gt (tgt := 16) hx hb dX10_hasRoomFor_9 (by decide) (fun hc_1 => ?_) (fun hc_1 => ?_)
  · rw [if_pos hc_1] at hf
    refine lv_iconst (v := 0) hx hb dX10_hasRoomFor_16 (by decide) ?_
    rw [← Option.some.inj hf]
    exact mc_retz (v := 0) hx hb hr rfl hlk hP hK hD hS dX10_hasRoomFor_17
  · rw [if_neg hc_1] at hf
    refine lv_iconst (v := 1) hx hb dX10_hasRoomFor_12 (by decide) ?_
    refine lv_goto (tgt := 17) hx hb dX10_hasRoomFor_13 (by decide) ?_
    rw [← Option.some.inj hf]
    exact mc_retz (v := 1) hx hb hr rfl hlk hP hK hD hS dX10_hasRoomFor_17
def ff_X10_appendByte (N : Nat) (o_this : os_T) (a1 : Int32) : Option os_T :=
  (if (os_I o_this 4) < 0 then some o_this else (if (900 : Int32) ≤ (os_I o_this 4) then some o_this else (if os_in (os_I o_this 4) 900 then some (ss_I (ss_A o_this 0 (upd (os_A o_this 0) (Int32.toNatClampNeg (os_I o_this 4)) (vp_nar .byte ((Int32.toInt8 a1).toInt32)))) 4 ((os_I o_this 4) + (1 : Int32))) else none)))
set_option maxHeartbeats 4000000 in
set_option maxRecDepth 100000 in
theorem mm_X10_appendByte (l : Launch) (D : va_G) (kA : Nat → ClassId) (N : Nat) (q_this : Nat → Nat) (o_this : os_T) (a1 : Int32) (out : os_T) (hf : ff_X10_appendByte N o_this a1 = some out) : mc_C l D kA yX10_appendByte wsX10_appendByte ({ frames := 0, cells := 0, slots := 0, locals := 0 } : Room) [.ref (q_this 0), .int a1] (ce_X10 kA q_this o_this) none (ce_X10 kA q_this out) := by
  refine mc_of (cc := cX10_appendByte) (maxL := 2) (ret := none) (by decide) rfl (Nat.le_of_ble_eq_true rfl) ?_
  intro p e s m below meth c A B hD hP hS ls hl
  obtain ⟨hx, hb, hr, hlk, hml, hown, hts, hK, hA, hnm⟩ := B
  have hown : s.vm.findClass RX10 = some m.cls := hown
  have hl : lv_has ls 2 [(0, .ref (q_this 0)), (1, .int a1)] := hl
  have hUX10 : ∀ w ∈ u_ws RX10 TX10 11, w.before [.ref (q_this 0), .int a1].toArray s = true := fun w h => hts w (List.mem_cons_of_mem _ (List.mem_append_right _ h))
  unfold ff_X10_appendByte at hf
  refine lv_aload_n hx hb dX10_appendByte_0 rfl (lv_at hl 0 rfl) ?_
  refine va_get (D := D) (ci := 8) (v := .int (os_I o_this 4)) (C := RX10) (T := TX10) (N := 11) hx hb hUX10 (fun _ h9 => h9) hown hK hP 0 rfl rfl 4 (by decide) (hts (Cond.fieldLink RX10 25 "ReliefBuilder$Tokens" "length" "I") (List.mem_of_getElem? (i := 1) rfl)) (fun _ h9 => h9) rfl dX10_appendByte_1 ?_
  refine lv_if_lt (tgt := 38) hx hb dX10_appendByte_4 (by decide) (fun hc_1 => ?_) (fun hc_1 => ?_)
  · rw [if_pos hc_1] at hf
    rw [← Option.some.inj hf]
    exact mc_retv hx hb hr hlk hP hK hD hS dX10_appendByte_38
  · rw [if_neg hc_1] at hf
    refine lv_aload_n hx hb dX10_appendByte_7 rfl (lv_at hl 0 rfl) ?_
    refine va_get (D := D) (ci := 8) (v := .int (os_I o_this 4)) (C := RX10) (T := TX10) (N := 11) hx hb hUX10 (fun _ h9 => h9) hown hK hP 0 rfl rfl 4 (by decide) (hts (Cond.fieldLink RX10 25 "ReliefBuilder$Tokens" "length" "I") (List.mem_of_getElem? (i := 1) rfl)) (fun _ h9 => h9) rfl dX10_appendByte_8 ?_
    refine lv_sipush (v := 900) hx hb dX10_appendByte_11 (by decide) ?_
    refine lv_icmp_ge (tgt := 38) hx hb dX10_appendByte_14 (by decide) (fun hc_2 => ?_) (fun hc_2 => ?_)
    · rw [if_pos hc_2] at hf
      rw [← Option.some.inj hf]
      exact mc_retv hx hb hr hlk hP hK hD hS dX10_appendByte_38
    · rw [if_neg hc_2] at hf
      refine lv_aload_n hx hb dX10_appendByte_17 rfl (lv_at hl 0 rfl) ?_
      refine va_get (D := D) (ci := 8) (v := .ref (q_this 1)) (C := RX10) (T := TX10) (N := 11) hx hb hUX10 (fun _ h9 => h9) hown hK hP 0 rfl rfl 0 (by decide) (hts (Cond.fieldLink RX10 11 "ReliefBuilder$Tokens" "bytes" "[B") (List.mem_of_getElem? (i := 2) rfl)) (fun _ h9 => h9) rfl dX10_appendByte_18 ?_
      refine lv_aload_n hx hb dX10_appendByte_21 rfl (lv_at hl 0 rfl) ?_
      refine va_get (D := D) (ci := 8) (v := .int (os_I o_this 4)) (C := RX10) (T := TX10) (N := 11) hx hb hUX10 (fun _ h9 => h9) hown hK hP 0 rfl rfl 4 (by decide) (hts (Cond.fieldLink RX10 25 "ReliefBuilder$Tokens" "length" "I") (List.mem_of_getElem? (i := 1) rfl)) (fun _ h9 => h9) rfl dX10_appendByte_22 ?_
      refine lv_iload_n hx hb dX10_appendByte_25 rfl (lv_at hl 1 rfl) ?_
      refine lv_i2b hx hb dX10_appendByte_26 rfl ?_
      obtain ⟨hi_3, hf⟩ := os_if hf
      refine va_bast hx hb hK hP hD hS 1 2 rfl rfl hi_3 dX10_appendByte_27 (fun H locs hP hD hS => ?_)
      have hP : va_P D vwCl (ce_X10 kA q_this (ss_A o_this 0 (upd (os_A o_this 0) (Int32.toNatClampNeg (os_I o_this 4)) (vp_nar .byte ((Int32.toInt8 a1).toInt32))))) H := hP
      have hD : va_D A (ce_X10 kA q_this (ss_A o_this 0 (upd (os_A o_this 0) (Int32.toNatClampNeg (os_I o_this 4)) (vp_nar .byte ((Int32.toInt8 a1).toInt32))))) := hD
      refine lv_aload_n hx hb dX10_appendByte_28 rfl (lv_at hl 0 rfl) ?_
      refine lv_dup hx hb dX10_appendByte_29 rfl ?_
      refine va_get (D := D) (ci := 8) (v := .int (os_I o_this 4)) (C := RX10) (T := TX10) (N := 11) hx hb hUX10 (fun _ h9 => h9) hown hK hP 0 rfl rfl 4 (by decide) (hts (Cond.fieldLink RX10 25 "ReliefBuilder$Tokens" "length" "I") (List.mem_of_getElem? (i := 1) rfl)) (fun _ h9 => h9) rfl dX10_appendByte_30 ?_
      refine lv_iconst (v := 1) hx hb dX10_appendByte_33 (by decide) ?_
      refine lv_iadd hx hb dX10_appendByte_34 ?_
      refine va_put (D := D) (ci := 8) (v := .int ((os_I o_this 4) + (1 : Int32))) (ty := .int) (C := RX10) (T := TX10) (N := 11) hx hb hUX10 (fun _ h9 => h9) tyX10 tyX10_ok nmX10 hown hK hP hD hS 0 rfl rfl 4 (by decide) (hts (Cond.fieldLink RX10 25 "ReliefBuilder$Tokens" "length" "I") (List.mem_of_getElem? (i := 1) rfl)) (fun _ h9 => h9) rfl (tyX10_ok 4 (by decide)) rfl rfl (Nat.le_of_ble_eq_true rfl) dX10_appendByte_35 (fun H locs hP hD hS => ?_)
      have hP : va_P D vwCl (ce_X10 kA q_this (ss_I (ss_A o_this 0 (upd (os_A o_this 0) (Int32.toNatClampNeg (os_I o_this 4)) (vp_nar .byte ((Int32.toInt8 a1).toInt32)))) 4 ((os_I o_this 4) + (1 : Int32)))) H := hP
      have hD : va_D A (ce_X10 kA q_this (ss_I (ss_A o_this 0 (upd (os_A o_this 0) (Int32.toNatClampNeg (os_I o_this 4)) (vp_nar .byte ((Int32.toInt8 a1).toInt32)))) 4 ((os_I o_this 4) + (1 : Int32)))) := hD
      rw [← Option.some.inj hf]
      exact mc_retv hx hb hr hlk hP hK hD hS dX10_appendByte_38
def ff_X10_append (N : Nat) (o_this : os_T) (a1 : Int32) : Option os_T :=
  ((ff_X10_appendByte N o_this (((Int32.toUInt32 a1) >>> ((Int32.toUInt32 (24 : Int32)) &&& Int32.toUInt32 31)).toInt32)).bind fun u_1 => ((ff_X10_appendByte N u_1 (((Int32.toUInt32 a1) >>> ((Int32.toUInt32 (16 : Int32)) &&& Int32.toUInt32 31)).toInt32)).bind fun u_3 => ((ff_X10_appendByte N u_3 (((Int32.toUInt32 a1) >>> ((Int32.toUInt32 (8 : Int32)) &&& Int32.toUInt32 31)).toInt32)).bind fun u_5 => ((ff_X10_appendByte N u_5 a1).bind fun u_7 => some u_7))))
set_option maxHeartbeats 4000000 in
set_option maxRecDepth 100000 in
theorem mm_X10_append (l : Launch) (D : va_G) (kA : Nat → ClassId) (N : Nat) (q_this : Nat → Nat) (o_this : os_T) (a1 : Int32) (out : os_T) (hf : ff_X10_append N o_this a1 = some out) : mc_C l D kA yX10_append wsX10_append ({ frames := 1, cells := 0, slots := 0, locals := 21 } : Room) [.ref (q_this 0), .int a1] (ce_X10 kA q_this o_this) none (ce_X10 kA q_this out) := by
  refine mc_of (cc := cX10_append) (maxL := 2) (ret := none) (by decide) rfl (Nat.le_of_ble_eq_true rfl) ?_
  intro p e s m below meth c A B hD hP hS ls hl
  obtain ⟨hx, hb, hr, hlk, hml, hown, hts, hK, hA, hnm⟩ := B
  have hown : s.vm.findClass RX10 = some m.cls := hown
  have hl : lv_has ls 2 [(0, .ref (q_this 0)), (1, .int a1)] := hl
  unfold ff_X10_append at hf
  refine lv_aload_n hx hb dX10_append_0 rfl (lv_at hl 0 rfl) ?_
  refine lv_iload_n hx hb dX10_append_1 rfl (lv_at hl 1 rfl) ?_
  refine lv_bipush (v := 24) hx hb dX10_append_2 (by decide) ?_
  refine lv_iushr hx hb dX10_append_4 rfl ?_
  obtain ⟨u_1, he_2, hf⟩ := os_bd hf
  refine mc_callV ⟨hx, hb, hml, hown, hts⟩ (mm_X10_appendByte l D kA N q_this o_this (((Int32.toUInt32 a1) >>> ((Int32.toUInt32 (24 : Int32)) &&& Int32.toUInt32 31)).toInt32) u_1 he_2) (cwV 1 hts gX10_append_X10_appendByte rfl rfl rfl (by decide +kernel) ⟨Nat.le_of_ble_eq_true rfl, Nat.le_of_ble_eq_true rfl⟩) (wc := (ce_X10 kA q_this o_this)) (ci := 8) (q0 := 0) rfl rfl rfl hl.1 (As := [.int (((Int32.toUInt32 a1) >>> ((Int32.toUInt32 (24 : Int32)) &&& Int32.toUInt32 31)).toInt32)]) (rest := []) rfl (Nat.le_of_ble_eq_true rfl) dX10_append_5 ⟨Nat.le_of_ble_eq_true rfl, Nat.le_of_ble_eq_true rfl⟩ hK hP hD hS hA [0, 1, 2, 3, 4] [] [0, 1, 2, 3, 4] rfl (by decide) rfl (by decide) (by decide) rfl (by decide) (wr := []) (w2 := (ce_X10 kA q_this u_1)) (fun H locs hP hD hS => ?_)
  have hP : va_P D vwCl (ce_X10 kA q_this u_1) H := hP
  refine lv_aload_n hx hb dX10_append_8 rfl (lv_at hl 0 rfl) ?_
  refine lv_iload_n hx hb dX10_append_9 rfl (lv_at hl 1 rfl) ?_
  refine lv_bipush (v := 16) hx hb dX10_append_10 (by decide) ?_
  refine lv_iushr hx hb dX10_append_12 rfl ?_
  obtain ⟨u_3, he_4, hf⟩ := os_bd hf
  refine mc_callV ⟨hx, hb, hml, hown, hts⟩ (mm_X10_appendByte l D kA N q_this u_1 (((Int32.toUInt32 a1) >>> ((Int32.toUInt32 (16 : Int32)) &&& Int32.toUInt32 31)).toInt32) u_3 he_4) (cwV 1 hts gX10_append_X10_appendByte rfl rfl rfl (by decide +kernel) ⟨Nat.le_of_ble_eq_true rfl, Nat.le_of_ble_eq_true rfl⟩) (wc := (ce_X10 kA q_this u_1)) (ci := 8) (q0 := 0) rfl rfl rfl hl.1 (As := [.int (((Int32.toUInt32 a1) >>> ((Int32.toUInt32 (16 : Int32)) &&& Int32.toUInt32 31)).toInt32)]) (rest := []) rfl (Nat.le_of_ble_eq_true rfl) dX10_append_13 ⟨Nat.le_of_ble_eq_true rfl, Nat.le_of_ble_eq_true rfl⟩ hK hP hD hS hA [0, 1, 2, 3, 4] [] [0, 1, 2, 3, 4] rfl (by decide) rfl (by decide) (by decide) rfl (by decide) (wr := []) (w2 := (ce_X10 kA q_this u_3)) (fun H locs hP hD hS => ?_)
  have hP : va_P D vwCl (ce_X10 kA q_this u_3) H := hP
  refine lv_aload_n hx hb dX10_append_16 rfl (lv_at hl 0 rfl) ?_
  refine lv_iload_n hx hb dX10_append_17 rfl (lv_at hl 1 rfl) ?_
  refine lv_bipush (v := 8) hx hb dX10_append_18 (by decide) ?_
  refine lv_iushr hx hb dX10_append_20 rfl ?_
  obtain ⟨u_5, he_6, hf⟩ := os_bd hf
  refine mc_callV ⟨hx, hb, hml, hown, hts⟩ (mm_X10_appendByte l D kA N q_this u_3 (((Int32.toUInt32 a1) >>> ((Int32.toUInt32 (8 : Int32)) &&& Int32.toUInt32 31)).toInt32) u_5 he_6) (cwV 1 hts gX10_append_X10_appendByte rfl rfl rfl (by decide +kernel) ⟨Nat.le_of_ble_eq_true rfl, Nat.le_of_ble_eq_true rfl⟩) (wc := (ce_X10 kA q_this u_3)) (ci := 8) (q0 := 0) rfl rfl rfl hl.1 (As := [.int (((Int32.toUInt32 a1) >>> ((Int32.toUInt32 (8 : Int32)) &&& Int32.toUInt32 31)).toInt32)]) (rest := []) rfl (Nat.le_of_ble_eq_true rfl) dX10_append_21 ⟨Nat.le_of_ble_eq_true rfl, Nat.le_of_ble_eq_true rfl⟩ hK hP hD hS hA [0, 1, 2, 3, 4] [] [0, 1, 2, 3, 4] rfl (by decide) rfl (by decide) (by decide) rfl (by decide) (wr := []) (w2 := (ce_X10 kA q_this u_5)) (fun H locs hP hD hS => ?_)
  have hP : va_P D vwCl (ce_X10 kA q_this u_5) H := hP
  refine lv_aload_n hx hb dX10_append_24 rfl (lv_at hl 0 rfl) ?_
  refine lv_iload_n hx hb dX10_append_25 rfl (lv_at hl 1 rfl) ?_
  obtain ⟨u_7, he_8, hf⟩ := os_bd hf
  refine mc_callV ⟨hx, hb, hml, hown, hts⟩ (mm_X10_appendByte l D kA N q_this u_5 a1 u_7 he_8) (cwV 1 hts gX10_append_X10_appendByte rfl rfl rfl (by decide +kernel) ⟨Nat.le_of_ble_eq_true rfl, Nat.le_of_ble_eq_true rfl⟩) (wc := (ce_X10 kA q_this u_5)) (ci := 8) (q0 := 0) rfl rfl rfl hl.1 (As := [.int a1]) (rest := []) rfl (Nat.le_of_ble_eq_true rfl) dX10_append_26 ⟨Nat.le_of_ble_eq_true rfl, Nat.le_of_ble_eq_true rfl⟩ hK hP hD hS hA [0, 1, 2, 3, 4] [] [0, 1, 2, 3, 4] rfl (by decide) rfl (by decide) (by decide) rfl (by decide) (wr := []) (w2 := (ce_X10 kA q_this u_7)) (fun H locs hP hD hS => ?_)
  have hP : va_P D vwCl (ce_X10 kA q_this u_7) H := hP
  rw [← Option.some.inj hf]
  exact mc_retv hx hb hr hlk hP hK hD hS dX10_append_29
def ff_X10_byteAt (N : Nat) (o_this : os_T) (a1 : Int32) : Option Int32 :=
  (if a1 < 0 then some (-1 : Int32) else (if (os_I o_this 4) ≤ a1 then some (-1 : Int32) else (if (900 : Int32) ≤ a1 then some (-1 : Int32) else (if os_in a1 900 then some ((os_A o_this 0) (Int32.toNatClampNeg a1)) else none))))
set_option maxHeartbeats 4000000 in
set_option maxRecDepth 100000 in
theorem mm_X10_byteAt (l : Launch) (D : va_G) (kA : Nat → ClassId) (N : Nat) (q_this : Nat → Nat) (o_this : os_T) (a1 : Int32) (out : Int32) (hf : ff_X10_byteAt N o_this a1 = some out) : mc_C l D kA yX10_byteAt wsX10_byteAt ({ frames := 0, cells := 0, slots := 0, locals := 0 } : Room) [.ref (q_this 0), .int a1] (ce_X10 kA q_this o_this) (some (.int out)) (ce_X10 kA q_this o_this) := by
  refine mc_of (cc := cX10_byteAt) (maxL := 2) (ret := (some .int)) (by decide) rfl (Nat.le_of_ble_eq_true rfl) ?_
  intro p e s m below meth c A B hD hP hS ls hl
  obtain ⟨hx, hb, hr, hlk, hml, hown, hts, hK, hA, hnm⟩ := B
  have hown : s.vm.findClass RX10 = some m.cls := hown
  have hl : lv_has ls 2 [(0, .ref (q_this 0)), (1, .int a1)] := hl
  have hUX10 : ∀ w ∈ u_ws RX10 TX10 11, w.before [.ref (q_this 0), .int a1].toArray s = true := fun w h => hts w (List.mem_cons_of_mem _ (List.mem_append_right _ h))
  unfold ff_X10_byteAt at hf
  refine lv_iload_n hx hb dX10_byteAt_0 rfl (lv_at hl 1 rfl) ?_
  refine lv_if_lt (tgt := 28) hx hb dX10_byteAt_1 (by decide) (fun hc_1 => ?_) (fun hc_1 => ?_)
  · rw [if_pos hc_1] at hf
    refine lv_iconst (v := (-1)) hx hb dX10_byteAt_28 (by decide) ?_
    rw [← Option.some.inj hf]
    exact mc_reti hx hb hr hlk hP hK hD hS dX10_byteAt_29
  · rw [if_neg hc_1] at hf
    refine lv_iload_n hx hb dX10_byteAt_4 rfl (lv_at hl 1 rfl) ?_
    refine lv_aload_n hx hb dX10_byteAt_5 rfl (lv_at hl 0 rfl) ?_
    refine va_get (D := D) (ci := 8) (v := .int (os_I o_this 4)) (C := RX10) (T := TX10) (N := 11) hx hb hUX10 (fun _ h9 => h9) hown hK hP 0 rfl rfl 4 (by decide) (hts (Cond.fieldLink RX10 25 "ReliefBuilder$Tokens" "length" "I") (List.mem_of_getElem? (i := 1) rfl)) (fun _ h9 => h9) rfl dX10_byteAt_6 ?_
    refine lv_icmp_ge (tgt := 28) hx hb dX10_byteAt_9 (by decide) (fun hc_2 => ?_) (fun hc_2 => ?_)
    · rw [if_pos hc_2] at hf
      refine lv_iconst (v := (-1)) hx hb dX10_byteAt_28 (by decide) ?_
      rw [← Option.some.inj hf]
      exact mc_reti hx hb hr hlk hP hK hD hS dX10_byteAt_29
    · rw [if_neg hc_2] at hf
      refine lv_iload_n hx hb dX10_byteAt_12 rfl (lv_at hl 1 rfl) ?_
      refine lv_sipush (v := 900) hx hb dX10_byteAt_13 (by decide) ?_
      refine lv_icmp_ge (tgt := 28) hx hb dX10_byteAt_16 (by decide) (fun hc_3 => ?_) (fun hc_3 => ?_)
      · rw [if_pos hc_3] at hf
        refine lv_iconst (v := (-1)) hx hb dX10_byteAt_28 (by decide) ?_
        rw [← Option.some.inj hf]
        exact mc_reti hx hb hr hlk hP hK hD hS dX10_byteAt_29
      · rw [if_neg hc_3] at hf
        refine lv_aload_n hx hb dX10_byteAt_19 rfl (lv_at hl 0 rfl) ?_
        refine va_get (D := D) (ci := 8) (v := .ref (q_this 1)) (C := RX10) (T := TX10) (N := 11) hx hb hUX10 (fun _ h9 => h9) hown hK hP 0 rfl rfl 0 (by decide) (hts (Cond.fieldLink RX10 11 "ReliefBuilder$Tokens" "bytes" "[B") (List.mem_of_getElem? (i := 2) rfl)) (fun _ h9 => h9) rfl dX10_byteAt_20 ?_
        refine lv_iload_n hx hb dX10_byteAt_23 rfl (lv_at hl 1 rfl) ?_
        obtain ⟨hi_4, hf⟩ := os_if hf
        refine va_bald hx hb hK hP 1 2 rfl rfl hi_4 dX10_byteAt_24 ?_
        refine lv_goto (tgt := 29) hx hb dX10_byteAt_25 (by decide) ?_
        rw [← Option.some.inj hf]
        exact mc_reti hx hb hr hlk hP hK hD hS dX10_byteAt_29
def ff_X10_addToken (N : Nat) (o_this : os_T) (a1 : Int32) (a2 : Int32) : Option os_T :=
  (if (os_I o_this 5) < 0 then some o_this else (if (900 : Int32) ≤ (os_I o_this 5) then some o_this else (if os_in (os_I o_this 5) 900 then (if os_in (os_I o_this 5) 900 then (if os_in (os_I o_this 5) 900 then some (ss_I (ss_A (ss_A (ss_A o_this 1 (upd (os_A o_this 1) (Int32.toNatClampNeg (os_I o_this 5)) a1)) 2 (upd (os_A o_this 2) (Int32.toNatClampNeg (os_I o_this 5)) (1 : Int32))) 3 (upd (os_A o_this 3) (Int32.toNatClampNeg (os_I o_this 5)) a2)) 5 ((os_I o_this 5) + (1 : Int32))) else none) else none) else none)))
set_option maxHeartbeats 4000000 in
set_option maxRecDepth 100000 in
theorem mm_X10_addToken (l : Launch) (D : va_G) (kA : Nat → ClassId) (N : Nat) (q_this : Nat → Nat) (o_this : os_T) (a1 : Int32) (a2 : Int32) (out : os_T) (hf : ff_X10_addToken N o_this a1 a2 = some out) : mc_C l D kA yX10_addToken wsX10_addToken ({ frames := 0, cells := 0, slots := 0, locals := 0 } : Room) [.ref (q_this 0), .int a1, .int a2] (ce_X10 kA q_this o_this) none (ce_X10 kA q_this out) := by
  refine mc_of (cc := cX10_addToken) (maxL := 3) (ret := none) (by decide) rfl (Nat.le_of_ble_eq_true rfl) ?_
  intro p e s m below meth c A B hD hP hS ls hl
  obtain ⟨hx, hb, hr, hlk, hml, hown, hts, hK, hA, hnm⟩ := B
  have hown : s.vm.findClass RX10 = some m.cls := hown
  have hl : lv_has ls 3 [(0, .ref (q_this 0)), (1, .int a1), (2, .int a2)] := hl
  have hUX10 : ∀ w ∈ u_ws RX10 TX10 11, w.before [.ref (q_this 0), .int a1, .int a2].toArray s = true := fun w h => hts w (List.mem_cons_of_mem _ (List.mem_append_right _ h))
  unfold ff_X10_addToken at hf
  refine lv_aload_n hx hb dX10_addToken_0 rfl (lv_at hl 0 rfl) ?_
  refine va_get (D := D) (ci := 8) (v := .int (os_I o_this 5)) (C := RX10) (T := TX10) (N := 11) hx hb hUX10 (fun _ h9 => h9) hown hK hP 0 rfl rfl 5 (by decide) (hts (Cond.fieldLink RX10 36 "ReliefBuilder$Tokens" "count" "I") (List.mem_of_getElem? (i := 1) rfl)) (fun _ h9 => h9) rfl dX10_addToken_1 ?_
  refine lv_if_lt (tgt := 59) hx hb dX10_addToken_4 (by decide) (fun hc_1 => ?_) (fun hc_1 => ?_)
  · rw [if_pos hc_1] at hf
    rw [← Option.some.inj hf]
    exact mc_retv hx hb hr hlk hP hK hD hS dX10_addToken_59
  · rw [if_neg hc_1] at hf
    refine lv_aload_n hx hb dX10_addToken_7 rfl (lv_at hl 0 rfl) ?_
    refine va_get (D := D) (ci := 8) (v := .int (os_I o_this 5)) (C := RX10) (T := TX10) (N := 11) hx hb hUX10 (fun _ h9 => h9) hown hK hP 0 rfl rfl 5 (by decide) (hts (Cond.fieldLink RX10 36 "ReliefBuilder$Tokens" "count" "I") (List.mem_of_getElem? (i := 1) rfl)) (fun _ h9 => h9) rfl dX10_addToken_8 ?_
    refine lv_aload_n hx hb dX10_addToken_11 rfl (lv_at hl 0 rfl) ?_
    refine va_get (D := D) (ci := 8) (v := .ref (q_this 4)) (C := RX10) (T := TX10) (N := 11) hx hb hUX10 (fun _ h9 => h9) hown hK hP 0 rfl rfl 3 (by decide) (hts (Cond.fieldLink RX10 22 "ReliefBuilder$Tokens" "kinds" "[I") (List.mem_of_getElem? (i := 2) rfl)) (fun _ h9 => h9) rfl dX10_addToken_12 ?_
    refine va_alen (v := 900) hx hb hK hP 4 0 rfl rfl rfl dX10_addToken_15 ?_
    refine lv_icmp_ge (tgt := 59) hx hb dX10_addToken_16 (by decide) (fun hc_2 => ?_) (fun hc_2 => ?_)
    · rw [if_pos hc_2] at hf
      rw [← Option.some.inj hf]
      exact mc_retv hx hb hr hlk hP hK hD hS dX10_addToken_59
    · rw [if_neg hc_2] at hf
      refine lv_aload_n hx hb dX10_addToken_19 rfl (lv_at hl 0 rfl) ?_
      refine va_get (D := D) (ci := 8) (v := .ref (q_this 2)) (C := RX10) (T := TX10) (N := 11) hx hb hUX10 (fun _ h9 => h9) hown hK hP 0 rfl rfl 1 (by decide) (hts (Cond.fieldLink RX10 15 "ReliefBuilder$Tokens" "starts" "[I") (List.mem_of_getElem? (i := 3) rfl)) (fun _ h9 => h9) rfl dX10_addToken_20 ?_
      refine lv_aload_n hx hb dX10_addToken_23 rfl (lv_at hl 0 rfl) ?_
      refine va_get (D := D) (ci := 8) (v := .int (os_I o_this 5)) (C := RX10) (T := TX10) (N := 11) hx hb hUX10 (fun _ h9 => h9) hown hK hP 0 rfl rfl 5 (by decide) (hts (Cond.fieldLink RX10 36 "ReliefBuilder$Tokens" "count" "I") (List.mem_of_getElem? (i := 1) rfl)) (fun _ h9 => h9) rfl dX10_addToken_24 ?_
      refine lv_iload_n hx hb dX10_addToken_27 rfl (lv_at hl 1 rfl) ?_
      obtain ⟨hi_3, hf⟩ := os_if hf
      refine va_iast hx hb hK hP hD hS 2 0 rfl rfl hi_3 dX10_addToken_28 (fun H locs hP hD hS => ?_)
      have hP : va_P D vwCl (ce_X10 kA q_this (ss_A o_this 1 (upd (os_A o_this 1) (Int32.toNatClampNeg (os_I o_this 5)) a1))) H := hP
      have hD : va_D A (ce_X10 kA q_this (ss_A o_this 1 (upd (os_A o_this 1) (Int32.toNatClampNeg (os_I o_this 5)) a1))) := hD
      refine lv_aload_n hx hb dX10_addToken_29 rfl (lv_at hl 0 rfl) ?_
      refine va_get (D := D) (ci := 8) (v := .ref (q_this 3)) (C := RX10) (T := TX10) (N := 11) hx hb hUX10 (fun _ h9 => h9) hown hK hP 0 rfl rfl 2 (by decide) (hts (Cond.fieldLink RX10 19 "ReliefBuilder$Tokens" "sizes" "[I") (List.mem_of_getElem? (i := 4) rfl)) (fun _ h9 => h9) rfl dX10_addToken_30 ?_
      refine lv_aload_n hx hb dX10_addToken_33 rfl (lv_at hl 0 rfl) ?_
      refine va_get (D := D) (ci := 8) (v := .int (os_I o_this 5)) (C := RX10) (T := TX10) (N := 11) hx hb hUX10 (fun _ h9 => h9) hown hK hP 0 rfl rfl 5 (by decide) (hts (Cond.fieldLink RX10 36 "ReliefBuilder$Tokens" "count" "I") (List.mem_of_getElem? (i := 1) rfl)) (fun _ h9 => h9) rfl dX10_addToken_34 ?_
      refine lv_iconst (v := 1) hx hb dX10_addToken_37 (by decide) ?_
      obtain ⟨hi_4, hf⟩ := os_if hf
      refine va_iast hx hb hK hP hD hS 3 0 rfl rfl hi_4 dX10_addToken_38 (fun H locs hP hD hS => ?_)
      have hE9 : ∀ (y0 : Nat → Int32) (z9 : Nat → Int32), ((ce_X10 kA q_this (ss_A o_this 1 y0)) : va_W).set 3 (q_this 3, .inl (kA 0, 900, .inl z9)) = (ce_X10 kA q_this (ss_A (ss_A o_this 1 y0) 2 z9)) := fun _ _ => rfl
      have hP : va_P D vwCl (ce_X10 kA q_this (ss_A (ss_A o_this 1 (upd (os_A o_this 1) (Int32.toNatClampNeg (os_I o_this 5)) a1)) 2 (upd (os_A o_this 2) (Int32.toNatClampNeg (os_I o_this 5)) (1 : Int32)))) H := Eq.mp (congrArg (fun w9 => va_P D vwCl w9 H) (hE9 (upd (os_A o_this 1) (Int32.toNatClampNeg (os_I o_this 5)) a1) _)) hP
      have hD : va_D A (ce_X10 kA q_this (ss_A (ss_A o_this 1 (upd (os_A o_this 1) (Int32.toNatClampNeg (os_I o_this 5)) a1)) 2 (upd (os_A o_this 2) (Int32.toNatClampNeg (os_I o_this 5)) (1 : Int32)))) := Eq.mp (congrArg (fun w9 => va_D A w9) (hE9 (upd (os_A o_this 1) (Int32.toNatClampNeg (os_I o_this 5)) a1) _)) hD
      refine lv_aload_n hx hb dX10_addToken_39 rfl (lv_at hl 0 rfl) ?_
      refine va_get (D := D) (ci := 8) (v := .ref (q_this 4)) (C := RX10) (T := TX10) (N := 11) hx hb hUX10 (fun _ h9 => h9) hown hK hP 0 rfl rfl 3 (by decide) (hts (Cond.fieldLink RX10 22 "ReliefBuilder$Tokens" "kinds" "[I") (List.mem_of_getElem? (i := 2) rfl)) (fun _ h9 => h9) rfl dX10_addToken_40 ?_
      refine lv_aload_n hx hb dX10_addToken_43 rfl (lv_at hl 0 rfl) ?_
      refine va_get (D := D) (ci := 8) (v := .int (os_I o_this 5)) (C := RX10) (T := TX10) (N := 11) hx hb hUX10 (fun _ h9 => h9) hown hK hP 0 rfl rfl 5 (by decide) (hts (Cond.fieldLink RX10 36 "ReliefBuilder$Tokens" "count" "I") (List.mem_of_getElem? (i := 1) rfl)) (fun _ h9 => h9) rfl dX10_addToken_44 ?_
      refine lv_iload_n hx hb dX10_addToken_47 rfl (lv_at hl 2 rfl) ?_
      obtain ⟨hi_5, hf⟩ := os_if hf
      refine va_iast hx hb hK hP hD hS 4 0 rfl rfl hi_5 dX10_addToken_48 (fun H locs hP hD hS => ?_)
      have hE9 : ∀ (y0 : Nat → Int32) (y1 : Nat → Int32) (z9 : Nat → Int32), ((ce_X10 kA q_this (ss_A (ss_A o_this 1 y0) 2 y1)) : va_W).set 4 (q_this 4, .inl (kA 0, 900, .inl z9)) = (ce_X10 kA q_this (ss_A (ss_A (ss_A o_this 1 y0) 2 y1) 3 z9)) := fun _ _ _ => rfl
      have hP : va_P D vwCl (ce_X10 kA q_this (ss_A (ss_A (ss_A o_this 1 (upd (os_A o_this 1) (Int32.toNatClampNeg (os_I o_this 5)) a1)) 2 (upd (os_A o_this 2) (Int32.toNatClampNeg (os_I o_this 5)) (1 : Int32))) 3 (upd (os_A o_this 3) (Int32.toNatClampNeg (os_I o_this 5)) a2))) H := Eq.mp (congrArg (fun w9 => va_P D vwCl w9 H) (hE9 (upd (os_A o_this 1) (Int32.toNatClampNeg (os_I o_this 5)) a1) (upd (os_A o_this 2) (Int32.toNatClampNeg (os_I o_this 5)) (1 : Int32)) _)) hP
      have hD : va_D A (ce_X10 kA q_this (ss_A (ss_A (ss_A o_this 1 (upd (os_A o_this 1) (Int32.toNatClampNeg (os_I o_this 5)) a1)) 2 (upd (os_A o_this 2) (Int32.toNatClampNeg (os_I o_this 5)) (1 : Int32))) 3 (upd (os_A o_this 3) (Int32.toNatClampNeg (os_I o_this 5)) a2))) := Eq.mp (congrArg (fun w9 => va_D A w9) (hE9 (upd (os_A o_this 1) (Int32.toNatClampNeg (os_I o_this 5)) a1) (upd (os_A o_this 2) (Int32.toNatClampNeg (os_I o_this 5)) (1 : Int32)) _)) hD
      refine lv_aload_n hx hb dX10_addToken_49 rfl (lv_at hl 0 rfl) ?_
      refine lv_dup hx hb dX10_addToken_50 rfl ?_
      refine va_get (D := D) (ci := 8) (v := .int (os_I o_this 5)) (C := RX10) (T := TX10) (N := 11) hx hb hUX10 (fun _ h9 => h9) hown hK hP 0 rfl rfl 5 (by decide) (hts (Cond.fieldLink RX10 36 "ReliefBuilder$Tokens" "count" "I") (List.mem_of_getElem? (i := 1) rfl)) (fun _ h9 => h9) rfl dX10_addToken_51 ?_
      refine lv_iconst (v := 1) hx hb dX10_addToken_54 (by decide) ?_
      refine lv_iadd hx hb dX10_addToken_55 ?_
      refine va_put (D := D) (ci := 8) (v := .int ((os_I o_this 5) + (1 : Int32))) (ty := .int) (C := RX10) (T := TX10) (N := 11) hx hb hUX10 (fun _ h9 => h9) tyX10 tyX10_ok nmX10 hown hK hP hD hS 0 rfl rfl 5 (by decide) (hts (Cond.fieldLink RX10 36 "ReliefBuilder$Tokens" "count" "I") (List.mem_of_getElem? (i := 1) rfl)) (fun _ h9 => h9) rfl (tyX10_ok 5 (by decide)) rfl rfl (Nat.le_of_ble_eq_true rfl) dX10_addToken_56 (fun H locs hP hD hS => ?_)
      have hP : va_P D vwCl (ce_X10 kA q_this (ss_I (ss_A (ss_A (ss_A o_this 1 (upd (os_A o_this 1) (Int32.toNatClampNeg (os_I o_this 5)) a1)) 2 (upd (os_A o_this 2) (Int32.toNatClampNeg (os_I o_this 5)) (1 : Int32))) 3 (upd (os_A o_this 3) (Int32.toNatClampNeg (os_I o_this 5)) a2)) 5 ((os_I o_this 5) + (1 : Int32)))) H := hP
      have hD : va_D A (ce_X10 kA q_this (ss_I (ss_A (ss_A (ss_A o_this 1 (upd (os_A o_this 1) (Int32.toNatClampNeg (os_I o_this 5)) a1)) 2 (upd (os_A o_this 2) (Int32.toNatClampNeg (os_I o_this 5)) (1 : Int32))) 3 (upd (os_A o_this 3) (Int32.toNatClampNeg (os_I o_this 5)) a2)) 5 ((os_I o_this 5) + (1 : Int32)))) := hD
      rw [← Option.some.inj hf]
      exact mc_retv hx hb hr hlk hP hK hD hS dX10_addToken_59
def ff_X10_advance_b40 (N : Nat) (o_this : os_T) : Option os_T :=
  some (ss_I (ss_I (ss_I o_this 7 (0 : Int32)) 8 (os_I o_this 4)) 9 (0 : Int32))
def ff_X10_advance_b131 (N : Nat) (o_this : os_T) : Option os_T :=
  some (ss_I o_this 7 (5 : Int32))
def ff_X10_advance_b115 (N : Nat) (o_this : os_T) : Option os_T :=
  (if (os_I o_this 7) = (2 : Int32) then (if (os_I o_this 9) ≤ (4 : Int32) then some o_this else ff_X10_advance_b131 N o_this) else some o_this)
def ff_X10_advance (N : Nat) (o_this : os_T) : Option os_T :=
  (if ((os_I o_this 6) + (1 : Int32)) < 0 then ff_X10_advance_b40 N (ss_I o_this 6 ((os_I o_this 6) + (1 : Int32))) else (if (os_I o_this 5) ≤ ((os_I o_this 6) + (1 : Int32)) then ff_X10_advance_b40 N (ss_I o_this 6 ((os_I o_this 6) + (1 : Int32))) else (if ((os_I o_this 6) + (1 : Int32)) < (900 : Int32) then (if os_in ((os_I o_this 6) + (1 : Int32)) 900 then (if os_in ((os_I o_this 6) + (1 : Int32)) 900 then (if os_in ((os_I o_this 6) + (1 : Int32)) 900 then (if ((os_A o_this 3) (Int32.toNatClampNeg ((os_I o_this 6) + (1 : Int32)))) = (1 : Int32) then (if (8 : Int32) < ((os_A o_this 2) (Int32.toNatClampNeg ((os_I o_this 6) + (1 : Int32)))) then ff_X10_advance_b131 N (ss_I (ss_I (ss_I (ss_I o_this 6 ((os_I o_this 6) + (1 : Int32))) 7 ((os_A o_this 3) (Int32.toNatClampNeg ((os_I o_this 6) + (1 : Int32))))) 8 ((os_A o_this 1) (Int32.toNatClampNeg ((os_I o_this 6) + (1 : Int32))))) 9 ((os_A o_this 2) (Int32.toNatClampNeg ((os_I o_this 6) + (1 : Int32))))) else ff_X10_advance_b115 N (ss_I (ss_I (ss_I (ss_I o_this 6 ((os_I o_this 6) + (1 : Int32))) 7 ((os_A o_this 3) (Int32.toNatClampNeg ((os_I o_this 6) + (1 : Int32))))) 8 ((os_A o_this 1) (Int32.toNatClampNeg ((os_I o_this 6) + (1 : Int32))))) 9 ((os_A o_this 2) (Int32.toNatClampNeg ((os_I o_this 6) + (1 : Int32)))))) else ff_X10_advance_b115 N (ss_I (ss_I (ss_I (ss_I o_this 6 ((os_I o_this 6) + (1 : Int32))) 7 ((os_A o_this 3) (Int32.toNatClampNeg ((os_I o_this 6) + (1 : Int32))))) 8 ((os_A o_this 1) (Int32.toNatClampNeg ((os_I o_this 6) + (1 : Int32))))) 9 ((os_A o_this 2) (Int32.toNatClampNeg ((os_I o_this 6) + (1 : Int32)))))) else none) else none) else none) else ff_X10_advance_b40 N (ss_I o_this 6 ((os_I o_this 6) + (1 : Int32))))))
set_option maxHeartbeats 4000000 in
set_option maxRecDepth 100000 in
theorem mm_X10_advance (l : Launch) (D : va_G) (kA : Nat → ClassId) (N : Nat) (q_this : Nat → Nat) (o_this : os_T) (out : os_T) (hf : ff_X10_advance N o_this = some out) : mc_C l D kA yX10_advance wsX10_advance ({ frames := 0, cells := 0, slots := 0, locals := 0 } : Room) [.ref (q_this 0)] (ce_X10 kA q_this o_this) none (ce_X10 kA q_this out) := by
  refine mc_of (cc := cX10_advance) (maxL := 1) (ret := none) (by decide) rfl (Nat.le_of_ble_eq_true rfl) ?_
  intro p e s m below meth c A B hD hP hS ls hl
  obtain ⟨hx, hb, hr, hlk, hml, hown, hts, hK, hA, hnm⟩ := B
  have hown : s.vm.findClass RX10 = some m.cls := hown
  have hl : lv_has ls 1 [(0, .ref (q_this 0))] := hl
  have hUX10 : ∀ w ∈ u_ws RX10 TX10 11, w.before [.ref (q_this 0)].toArray s = true := fun w h => hts w (List.mem_cons_of_mem _ (List.mem_append_right _ h))
  have hB40 : ∀ (o_this : os_T) (H : Heap) (locs : List Loc) (ls : Array Slot), va_P D vwCl (ce_X10 kA q_this o_this) H → va_D A (ce_X10 kA q_this o_this) → va_S A s.heap H locs → lv_has ls 1 [(0, .ref (q_this 0))] → ff_X10_advance_b40 N o_this = some out → W p l e ({ frames := 0, cells := 0, slots := 0, locals := 0 } : Room) s m [.ref (q_this 0)].toArray below meth c H locs 0 0 (MQ below (mc_Q D kA A none (ce_X10 kA q_this out)) [.ref (q_this 0)].toArray s 0 0 A) (F0 m 40 ls []) := by
    intro o_this H locs ls hP hD hS hl hf
    unfold ff_X10_advance_b40 at hf
    refine lv_aload_n hx hb dX10_advance_40 rfl (lv_at hl 0 rfl) ?_
    refine lv_aload_n hx hb dX10_advance_41 rfl (lv_at hl 0 rfl) ?_
    refine va_get (D := D) (ci := 8) (v := .int (os_I o_this 4)) (C := RX10) (T := TX10) (N := 11) hx hb hUX10 (fun _ h9 => h9) hown hK hP 0 rfl rfl 4 (by decide) (hts (Cond.fieldLink RX10 25 "ReliefBuilder$Tokens" "length" "I") (List.mem_of_getElem? (i := 4) rfl)) (fun _ h9 => h9) rfl dX10_advance_42 ?_
    refine va_put (D := D) (ci := 8) (v := .int (os_I o_this 4)) (ty := .int) (C := RX10) (T := TX10) (N := 11) hx hb hUX10 (fun _ h9 => h9) tyX10 tyX10_ok nmX10 hown hK hP hD hS 0 rfl rfl 8 (by decide) (hts (Cond.fieldLink RX10 59 "ReliefBuilder$Tokens" "start" "I") (List.mem_of_getElem? (i := 5) rfl)) (fun _ h9 => h9) rfl (tyX10_ok 8 (by decide)) rfl rfl (Nat.le_of_ble_eq_true rfl) dX10_advance_45 (fun H locs hP hD hS => ?_)
    have hP : va_P D vwCl (ce_X10 kA q_this (ss_I o_this 8 (os_I o_this 4))) H := hP
    have hD : va_D A (ce_X10 kA q_this (ss_I o_this 8 (os_I o_this 4))) := hD
    refine lv_aload_n hx hb dX10_advance_48 rfl (lv_at hl 0 rfl) ?_
    refine lv_iconst (v := 0) hx hb dX10_advance_49 (by decide) ?_
    refine va_put (D := D) (ci := 8) (v := .int (0 : Int32)) (ty := .int) (C := RX10) (T := TX10) (N := 11) hx hb hUX10 (fun _ h9 => h9) tyX10 tyX10_ok nmX10 hown hK hP hD hS 0 rfl rfl 9 (by decide) (hts (Cond.fieldLink RX10 62 "ReliefBuilder$Tokens" "size" "I") (List.mem_of_getElem? (i := 6) rfl)) (fun _ h9 => h9) rfl (tyX10_ok 9 (by decide)) rfl rfl (Nat.le_of_ble_eq_true rfl) dX10_advance_50 (fun H locs hP hD hS => ?_)
    have hP : va_P D vwCl (ce_X10 kA q_this (ss_I (ss_I o_this 8 (os_I o_this 4)) 9 (0 : Int32))) H := hP
    have hD : va_D A (ce_X10 kA q_this (ss_I (ss_I o_this 8 (os_I o_this 4)) 9 (0 : Int32))) := hD
    refine lv_aload_n hx hb dX10_advance_53 rfl (lv_at hl 0 rfl) ?_
    refine lv_iconst (v := 0) hx hb dX10_advance_54 (by decide) ?_
    refine va_put (D := D) (ci := 8) (v := .int (0 : Int32)) (ty := .int) (C := RX10) (T := TX10) (N := 11) hx hb hUX10 (fun _ h9 => h9) tyX10 tyX10_ok nmX10 hown hK hP hD hS 0 rfl rfl 7 (by decide) (hts (Cond.fieldLink RX10 65 "ReliefBuilder$Tokens" "kind" "I") (List.mem_of_getElem? (i := 7) rfl)) (fun _ h9 => h9) rfl (tyX10_ok 7 (by decide)) rfl rfl (Nat.le_of_ble_eq_true rfl) dX10_advance_55 (fun H locs hP hD hS => ?_)
    have hP : va_P D vwCl (ce_X10 kA q_this (ss_I (ss_I (ss_I o_this 7 (0 : Int32)) 8 (os_I o_this 4)) 9 (0 : Int32))) H := hP
    have hD : va_D A (ce_X10 kA q_this (ss_I (ss_I (ss_I o_this 7 (0 : Int32)) 8 (os_I o_this 4)) 9 (0 : Int32))) := hD
    rw [← Option.some.inj hf]
    exact mc_retv hx hb hr hlk hP hK hD hS dX10_advance_58
  have hB131 : ∀ (o_this : os_T) (H : Heap) (locs : List Loc) (ls : Array Slot), va_P D vwCl (ce_X10 kA q_this o_this) H → va_D A (ce_X10 kA q_this o_this) → va_S A s.heap H locs → lv_has ls 1 [(0, .ref (q_this 0))] → ff_X10_advance_b131 N o_this = some out → W p l e ({ frames := 0, cells := 0, slots := 0, locals := 0 } : Room) s m [.ref (q_this 0)].toArray below meth c H locs 0 0 (MQ below (mc_Q D kA A none (ce_X10 kA q_this out)) [.ref (q_this 0)].toArray s 0 0 A) (F0 m 131 ls []) := by
    intro o_this H locs ls hP hD hS hl hf
    unfold ff_X10_advance_b131 at hf
    refine lv_aload_n hx hb dX10_advance_131 rfl (lv_at hl 0 rfl) ?_
    refine lv_iconst (v := 5) hx hb dX10_advance_132 (by decide) ?_
    refine va_put (D := D) (ci := 8) (v := .int (5 : Int32)) (ty := .int) (C := RX10) (T := TX10) (N := 11) hx hb hUX10 (fun _ h9 => h9) tyX10 tyX10_ok nmX10 hown hK hP hD hS 0 rfl rfl 7 (by decide) (hts (Cond.fieldLink RX10 65 "ReliefBuilder$Tokens" "kind" "I") (List.mem_of_getElem? (i := 7) rfl)) (fun _ h9 => h9) rfl (tyX10_ok 7 (by decide)) rfl rfl (Nat.le_of_ble_eq_true rfl) dX10_advance_133 (fun H locs hP hD hS => ?_)
    have hP : va_P D vwCl (ce_X10 kA q_this (ss_I o_this 7 (5 : Int32))) H := hP
    have hD : va_D A (ce_X10 kA q_this (ss_I o_this 7 (5 : Int32))) := hD
    rw [← Option.some.inj hf]
    exact mc_retv hx hb hr hlk hP hK hD hS dX10_advance_136
  have hB115 : ∀ (o_this : os_T) (H : Heap) (locs : List Loc) (ls : Array Slot), va_P D vwCl (ce_X10 kA q_this o_this) H → va_D A (ce_X10 kA q_this o_this) → va_S A s.heap H locs → lv_has ls 1 [(0, .ref (q_this 0))] → ff_X10_advance_b115 N o_this = some out → W p l e ({ frames := 0, cells := 0, slots := 0, locals := 0 } : Room) s m [.ref (q_this 0)].toArray below meth c H locs 0 0 (MQ below (mc_Q D kA A none (ce_X10 kA q_this out)) [.ref (q_this 0)].toArray s 0 0 A) (F0 m 115 ls []) := by
    intro o_this H locs ls hP hD hS hl hf
    unfold ff_X10_advance_b115 at hf
    refine lv_aload_n hx hb dX10_advance_115 rfl (lv_at hl 0 rfl) ?_
    refine va_get (D := D) (ci := 8) (v := .int (os_I o_this 7)) (C := RX10) (T := TX10) (N := 11) hx hb hUX10 (fun _ h9 => h9) hown hK hP 0 rfl rfl 7 (by decide) (hts (Cond.fieldLink RX10 65 "ReliefBuilder$Tokens" "kind" "I") (List.mem_of_getElem? (i := 7) rfl)) (fun _ h9 => h9) rfl dX10_advance_116 ?_
    refine lv_iconst (v := 2) hx hb dX10_advance_119 (by decide) ?_
    refine lv_icmp_ne (tgt := 136) hx hb dX10_advance_120 (by decide) (fun hc_9 => ?_) (fun hc_9 => ?_)
    · rw [if_neg hc_9] at hf
      rw [← Option.some.inj hf]
      exact mc_retv hx hb hr hlk hP hK hD hS dX10_advance_136
    · rw [if_pos hc_9] at hf
      refine lv_aload_n hx hb dX10_advance_123 rfl (lv_at hl 0 rfl) ?_
      refine va_get (D := D) (ci := 8) (v := .int (os_I o_this 9)) (C := RX10) (T := TX10) (N := 11) hx hb hUX10 (fun _ h9 => h9) hown hK hP 0 rfl rfl 9 (by decide) (hts (Cond.fieldLink RX10 62 "ReliefBuilder$Tokens" "size" "I") (List.mem_of_getElem? (i := 6) rfl)) (fun _ h9 => h9) rfl dX10_advance_124 ?_
      refine lv_iconst (v := 4) hx hb dX10_advance_127 (by decide) ?_
      refine lv_icmp_le (tgt := 136) hx hb dX10_advance_128 (by decide) (fun hc_10 => ?_) (fun hc_10 => ?_)
      · rw [if_pos hc_10] at hf
        rw [← Option.some.inj hf]
        exact mc_retv hx hb hr hlk hP hK hD hS dX10_advance_136
      · rw [if_neg hc_10] at hf
        exact hB131 o_this _ _ _ hP hD hS (lv_sub hl [0] rfl) hf
  unfold ff_X10_advance at hf
  refine lv_aload_n hx hb dX10_advance_0 rfl (lv_at hl 0 rfl) ?_
  refine lv_dup hx hb dX10_advance_1 rfl ?_
  refine va_get (D := D) (ci := 8) (v := .int (os_I o_this 6)) (C := RX10) (T := TX10) (N := 11) hx hb hUX10 (fun _ h9 => h9) hown hK hP 0 rfl rfl 6 (by decide) (hts (Cond.fieldLink RX10 53 "ReliefBuilder$Tokens" "present" "I") (List.mem_of_getElem? (i := 1) rfl)) (fun _ h9 => h9) rfl dX10_advance_2 ?_
  refine lv_iconst (v := 1) hx hb dX10_advance_5 (by decide) ?_
  refine lv_iadd hx hb dX10_advance_6 ?_
  refine va_put (D := D) (ci := 8) (v := .int ((os_I o_this 6) + (1 : Int32))) (ty := .int) (C := RX10) (T := TX10) (N := 11) hx hb hUX10 (fun _ h9 => h9) tyX10 tyX10_ok nmX10 hown hK hP hD hS 0 rfl rfl 6 (by decide) (hts (Cond.fieldLink RX10 53 "ReliefBuilder$Tokens" "present" "I") (List.mem_of_getElem? (i := 1) rfl)) (fun _ h9 => h9) rfl (tyX10_ok 6 (by decide)) rfl rfl (Nat.le_of_ble_eq_true rfl) dX10_advance_7 (fun H locs hP hD hS => ?_)
  have hP : va_P D vwCl (ce_X10 kA q_this (ss_I o_this 6 ((os_I o_this 6) + (1 : Int32)))) H := hP
  have hD : va_D A (ce_X10 kA q_this (ss_I o_this 6 ((os_I o_this 6) + (1 : Int32)))) := hD
  refine lv_aload_n hx hb dX10_advance_10 rfl (lv_at hl 0 rfl) ?_
  refine va_get (D := D) (ci := 8) (v := .int ((os_I o_this 6) + (1 : Int32))) (C := RX10) (T := TX10) (N := 11) hx hb hUX10 (fun _ h9 => h9) hown hK hP 0 rfl rfl 6 (by decide) (hts (Cond.fieldLink RX10 53 "ReliefBuilder$Tokens" "present" "I") (List.mem_of_getElem? (i := 1) rfl)) (fun _ h9 => h9) rfl dX10_advance_11 ?_
  refine lv_if_lt (tgt := 40) hx hb dX10_advance_14 (by decide) (fun hc_1 => ?_) (fun hc_1 => ?_)
  · rw [if_pos hc_1] at hf
    exact hB40 (ss_I o_this 6 ((os_I o_this 6) + (1 : Int32))) _ _ _ hP hD hS (lv_sub hl [0] rfl) hf
  · rw [if_neg hc_1] at hf
    refine lv_aload_n hx hb dX10_advance_17 rfl (lv_at hl 0 rfl) ?_
    refine va_get (D := D) (ci := 8) (v := .int ((os_I o_this 6) + (1 : Int32))) (C := RX10) (T := TX10) (N := 11) hx hb hUX10 (fun _ h9 => h9) hown hK hP 0 rfl rfl 6 (by decide) (hts (Cond.fieldLink RX10 53 "ReliefBuilder$Tokens" "present" "I") (List.mem_of_getElem? (i := 1) rfl)) (fun _ h9 => h9) rfl dX10_advance_18 ?_
    refine lv_aload_n hx hb dX10_advance_21 rfl (lv_at hl 0 rfl) ?_
    refine va_get (D := D) (ci := 8) (v := .int (os_I o_this 5)) (C := RX10) (T := TX10) (N := 11) hx hb hUX10 (fun _ h9 => h9) hown hK hP 0 rfl rfl 5 (by decide) (hts (Cond.fieldLink RX10 36 "ReliefBuilder$Tokens" "count" "I") (List.mem_of_getElem? (i := 2) rfl)) (fun _ h9 => h9) rfl dX10_advance_22 ?_
    refine lv_icmp_ge (tgt := 40) hx hb dX10_advance_25 (by decide) (fun hc_2 => ?_) (fun hc_2 => ?_)
    · rw [if_pos hc_2] at hf
      exact hB40 (ss_I o_this 6 ((os_I o_this 6) + (1 : Int32))) _ _ _ hP hD hS (lv_sub hl [0] rfl) hf
    · rw [if_neg hc_2] at hf
      refine lv_aload_n hx hb dX10_advance_28 rfl (lv_at hl 0 rfl) ?_
      refine va_get (D := D) (ci := 8) (v := .int ((os_I o_this 6) + (1 : Int32))) (C := RX10) (T := TX10) (N := 11) hx hb hUX10 (fun _ h9 => h9) hown hK hP 0 rfl rfl 6 (by decide) (hts (Cond.fieldLink RX10 53 "ReliefBuilder$Tokens" "present" "I") (List.mem_of_getElem? (i := 1) rfl)) (fun _ h9 => h9) rfl dX10_advance_29 ?_
      refine lv_aload_n hx hb dX10_advance_32 rfl (lv_at hl 0 rfl) ?_
      refine va_get (D := D) (ci := 8) (v := .ref (q_this 4)) (C := RX10) (T := TX10) (N := 11) hx hb hUX10 (fun _ h9 => h9) hown hK hP 0 rfl rfl 3 (by decide) (hts (Cond.fieldLink RX10 22 "ReliefBuilder$Tokens" "kinds" "[I") (List.mem_of_getElem? (i := 3) rfl)) (fun _ h9 => h9) rfl dX10_advance_33 ?_
      refine va_alen (v := 900) hx hb hK hP 4 0 rfl rfl rfl dX10_advance_36 ?_
      refine lv_icmp_lt (tgt := 59) hx hb dX10_advance_37 (by decide) (fun hc_3 => ?_) (fun hc_3 => ?_)
      · rw [if_pos hc_3] at hf
        refine lv_aload_n hx hb dX10_advance_59 rfl (lv_at hl 0 rfl) ?_
        refine lv_aload_n hx hb dX10_advance_60 rfl (lv_at hl 0 rfl) ?_
        refine va_get (D := D) (ci := 8) (v := .ref (q_this 2)) (C := RX10) (T := TX10) (N := 11) hx hb hUX10 (fun _ h9 => h9) hown hK hP 0 rfl rfl 1 (by decide) (hts (Cond.fieldLink RX10 15 "ReliefBuilder$Tokens" "starts" "[I") (List.mem_of_getElem? (i := 8) rfl)) (fun _ h9 => h9) rfl dX10_advance_61 ?_
        refine lv_aload_n hx hb dX10_advance_64 rfl (lv_at hl 0 rfl) ?_
        refine va_get (D := D) (ci := 8) (v := .int ((os_I o_this 6) + (1 : Int32))) (C := RX10) (T := TX10) (N := 11) hx hb hUX10 (fun _ h9 => h9) hown hK hP 0 rfl rfl 6 (by decide) (hts (Cond.fieldLink RX10 53 "ReliefBuilder$Tokens" "present" "I") (List.mem_of_getElem? (i := 1) rfl)) (fun _ h9 => h9) rfl dX10_advance_65 ?_
        obtain ⟨hi_4, hf⟩ := os_if hf
        refine va_iald hx hb hK hP 2 0 rfl rfl hi_4 dX10_advance_68 ?_
        refine va_put (D := D) (ci := 8) (v := .int ((os_A o_this 1) (Int32.toNatClampNeg ((os_I o_this 6) + (1 : Int32))))) (ty := .int) (C := RX10) (T := TX10) (N := 11) hx hb hUX10 (fun _ h9 => h9) tyX10 tyX10_ok nmX10 hown hK hP hD hS 0 rfl rfl 8 (by decide) (hts (Cond.fieldLink RX10 59 "ReliefBuilder$Tokens" "start" "I") (List.mem_of_getElem? (i := 5) rfl)) (fun _ h9 => h9) rfl (tyX10_ok 8 (by decide)) rfl rfl (Nat.le_of_ble_eq_true rfl) dX10_advance_69 (fun H locs hP hD hS => ?_)
        have hP : va_P D vwCl (ce_X10 kA q_this (ss_I (ss_I o_this 6 ((os_I o_this 6) + (1 : Int32))) 8 ((os_A o_this 1) (Int32.toNatClampNeg ((os_I o_this 6) + (1 : Int32)))))) H := hP
        have hD : va_D A (ce_X10 kA q_this (ss_I (ss_I o_this 6 ((os_I o_this 6) + (1 : Int32))) 8 ((os_A o_this 1) (Int32.toNatClampNeg ((os_I o_this 6) + (1 : Int32)))))) := hD
        refine lv_aload_n hx hb dX10_advance_72 rfl (lv_at hl 0 rfl) ?_
        refine lv_aload_n hx hb dX10_advance_73 rfl (lv_at hl 0 rfl) ?_
        refine va_get (D := D) (ci := 8) (v := .ref (q_this 3)) (C := RX10) (T := TX10) (N := 11) hx hb hUX10 (fun _ h9 => h9) hown hK hP 0 rfl rfl 2 (by decide) (hts (Cond.fieldLink RX10 19 "ReliefBuilder$Tokens" "sizes" "[I") (List.mem_of_getElem? (i := 9) rfl)) (fun _ h9 => h9) rfl dX10_advance_74 ?_
        refine lv_aload_n hx hb dX10_advance_77 rfl (lv_at hl 0 rfl) ?_
        refine va_get (D := D) (ci := 8) (v := .int ((os_I o_this 6) + (1 : Int32))) (C := RX10) (T := TX10) (N := 11) hx hb hUX10 (fun _ h9 => h9) hown hK hP 0 rfl rfl 6 (by decide) (hts (Cond.fieldLink RX10 53 "ReliefBuilder$Tokens" "present" "I") (List.mem_of_getElem? (i := 1) rfl)) (fun _ h9 => h9) rfl dX10_advance_78 ?_
        obtain ⟨hi_5, hf⟩ := os_if hf
        refine va_iald hx hb hK hP 3 0 rfl rfl hi_5 dX10_advance_81 ?_
        refine va_put (D := D) (ci := 8) (v := .int ((os_A o_this 2) (Int32.toNatClampNeg ((os_I o_this 6) + (1 : Int32))))) (ty := .int) (C := RX10) (T := TX10) (N := 11) hx hb hUX10 (fun _ h9 => h9) tyX10 tyX10_ok nmX10 hown hK hP hD hS 0 rfl rfl 9 (by decide) (hts (Cond.fieldLink RX10 62 "ReliefBuilder$Tokens" "size" "I") (List.mem_of_getElem? (i := 6) rfl)) (fun _ h9 => h9) rfl (tyX10_ok 9 (by decide)) rfl rfl (Nat.le_of_ble_eq_true rfl) dX10_advance_82 (fun H locs hP hD hS => ?_)
        have hP : va_P D vwCl (ce_X10 kA q_this (ss_I (ss_I (ss_I o_this 6 ((os_I o_this 6) + (1 : Int32))) 8 ((os_A o_this 1) (Int32.toNatClampNeg ((os_I o_this 6) + (1 : Int32))))) 9 ((os_A o_this 2) (Int32.toNatClampNeg ((os_I o_this 6) + (1 : Int32)))))) H := hP
        have hD : va_D A (ce_X10 kA q_this (ss_I (ss_I (ss_I o_this 6 ((os_I o_this 6) + (1 : Int32))) 8 ((os_A o_this 1) (Int32.toNatClampNeg ((os_I o_this 6) + (1 : Int32))))) 9 ((os_A o_this 2) (Int32.toNatClampNeg ((os_I o_this 6) + (1 : Int32)))))) := hD
        refine lv_aload_n hx hb dX10_advance_85 rfl (lv_at hl 0 rfl) ?_
        refine lv_aload_n hx hb dX10_advance_86 rfl (lv_at hl 0 rfl) ?_
        refine va_get (D := D) (ci := 8) (v := .ref (q_this 4)) (C := RX10) (T := TX10) (N := 11) hx hb hUX10 (fun _ h9 => h9) hown hK hP 0 rfl rfl 3 (by decide) (hts (Cond.fieldLink RX10 22 "ReliefBuilder$Tokens" "kinds" "[I") (List.mem_of_getElem? (i := 3) rfl)) (fun _ h9 => h9) rfl dX10_advance_87 ?_
        refine lv_aload_n hx hb dX10_advance_90 rfl (lv_at hl 0 rfl) ?_
        refine va_get (D := D) (ci := 8) (v := .int ((os_I o_this 6) + (1 : Int32))) (C := RX10) (T := TX10) (N := 11) hx hb hUX10 (fun _ h9 => h9) hown hK hP 0 rfl rfl 6 (by decide) (hts (Cond.fieldLink RX10 53 "ReliefBuilder$Tokens" "present" "I") (List.mem_of_getElem? (i := 1) rfl)) (fun _ h9 => h9) rfl dX10_advance_91 ?_
        obtain ⟨hi_6, hf⟩ := os_if hf
        refine va_iald hx hb hK hP 4 0 rfl rfl hi_6 dX10_advance_94 ?_
        refine va_put (D := D) (ci := 8) (v := .int ((os_A o_this 3) (Int32.toNatClampNeg ((os_I o_this 6) + (1 : Int32))))) (ty := .int) (C := RX10) (T := TX10) (N := 11) hx hb hUX10 (fun _ h9 => h9) tyX10 tyX10_ok nmX10 hown hK hP hD hS 0 rfl rfl 7 (by decide) (hts (Cond.fieldLink RX10 65 "ReliefBuilder$Tokens" "kind" "I") (List.mem_of_getElem? (i := 7) rfl)) (fun _ h9 => h9) rfl (tyX10_ok 7 (by decide)) rfl rfl (Nat.le_of_ble_eq_true rfl) dX10_advance_95 (fun H locs hP hD hS => ?_)
        have hP : va_P D vwCl (ce_X10 kA q_this (ss_I (ss_I (ss_I (ss_I o_this 6 ((os_I o_this 6) + (1 : Int32))) 7 ((os_A o_this 3) (Int32.toNatClampNeg ((os_I o_this 6) + (1 : Int32))))) 8 ((os_A o_this 1) (Int32.toNatClampNeg ((os_I o_this 6) + (1 : Int32))))) 9 ((os_A o_this 2) (Int32.toNatClampNeg ((os_I o_this 6) + (1 : Int32)))))) H := hP
        have hD : va_D A (ce_X10 kA q_this (ss_I (ss_I (ss_I (ss_I o_this 6 ((os_I o_this 6) + (1 : Int32))) 7 ((os_A o_this 3) (Int32.toNatClampNeg ((os_I o_this 6) + (1 : Int32))))) 8 ((os_A o_this 1) (Int32.toNatClampNeg ((os_I o_this 6) + (1 : Int32))))) 9 ((os_A o_this 2) (Int32.toNatClampNeg ((os_I o_this 6) + (1 : Int32)))))) := hD
        refine lv_aload_n hx hb dX10_advance_98 rfl (lv_at hl 0 rfl) ?_
        refine va_get (D := D) (ci := 8) (v := .int ((os_A o_this 3) (Int32.toNatClampNeg ((os_I o_this 6) + (1 : Int32))))) (C := RX10) (T := TX10) (N := 11) hx hb hUX10 (fun _ h9 => h9) hown hK hP 0 rfl rfl 7 (by decide) (hts (Cond.fieldLink RX10 65 "ReliefBuilder$Tokens" "kind" "I") (List.mem_of_getElem? (i := 7) rfl)) (fun _ h9 => h9) rfl dX10_advance_99 ?_
        refine lv_iconst (v := 1) hx hb dX10_advance_102 (by decide) ?_
        refine lv_icmp_ne (tgt := 115) hx hb dX10_advance_103 (by decide) (fun hc_7 => ?_) (fun hc_7 => ?_)
        · rw [if_neg hc_7] at hf
          exact hB115 (ss_I (ss_I (ss_I (ss_I o_this 6 ((os_I o_this 6) + (1 : Int32))) 7 ((os_A o_this 3) (Int32.toNatClampNeg ((os_I o_this 6) + (1 : Int32))))) 8 ((os_A o_this 1) (Int32.toNatClampNeg ((os_I o_this 6) + (1 : Int32))))) 9 ((os_A o_this 2) (Int32.toNatClampNeg ((os_I o_this 6) + (1 : Int32))))) _ _ _ hP hD hS (lv_sub hl [0] rfl) hf
        · rw [if_pos hc_7] at hf
          refine lv_aload_n hx hb dX10_advance_106 rfl (lv_at hl 0 rfl) ?_
          refine va_get (D := D) (ci := 8) (v := .int ((os_A o_this 2) (Int32.toNatClampNeg ((os_I o_this 6) + (1 : Int32))))) (C := RX10) (T := TX10) (N := 11) hx hb hUX10 (fun _ h9 => h9) hown hK hP 0 rfl rfl 9 (by decide) (hts (Cond.fieldLink RX10 62 "ReliefBuilder$Tokens" "size" "I") (List.mem_of_getElem? (i := 6) rfl)) (fun _ h9 => h9) rfl dX10_advance_107 ?_
          refine lv_bipush (v := 8) hx hb dX10_advance_110 (by decide) ?_
          refine lv_icmp_gt (tgt := 131) hx hb dX10_advance_112 (by decide) (fun hc_8 => ?_) (fun hc_8 => ?_)
          · rw [if_pos hc_8] at hf
            exact hB131 (ss_I (ss_I (ss_I (ss_I o_this 6 ((os_I o_this 6) + (1 : Int32))) 7 ((os_A o_this 3) (Int32.toNatClampNeg ((os_I o_this 6) + (1 : Int32))))) 8 ((os_A o_this 1) (Int32.toNatClampNeg ((os_I o_this 6) + (1 : Int32))))) 9 ((os_A o_this 2) (Int32.toNatClampNeg ((os_I o_this 6) + (1 : Int32))))) _ _ _ hP hD hS (lv_sub hl [0] rfl) hf
          · rw [if_neg hc_8] at hf
            exact hB115 (ss_I (ss_I (ss_I (ss_I o_this 6 ((os_I o_this 6) + (1 : Int32))) 7 ((os_A o_this 3) (Int32.toNatClampNeg ((os_I o_this 6) + (1 : Int32))))) 8 ((os_A o_this 1) (Int32.toNatClampNeg ((os_I o_this 6) + (1 : Int32))))) 9 ((os_A o_this 2) (Int32.toNatClampNeg ((os_I o_this 6) + (1 : Int32))))) _ _ _ hP hD hS (lv_sub hl [0] rfl) hf
      · rw [if_neg hc_3] at hf
        exact hB40 (ss_I o_this 6 ((os_I o_this 6) + (1 : Int32))) _ _ _ hP hD hS (lv_sub hl [0] rfl) hf
def ff_X10_kindOf_b60 (N : Nat) : Option Int32 :=
  some (3 : Int32)
def ff_X10_kindOf_b42 (N : Nat) (x0 : Int32) : Option Int32 :=
  (if x0 = (59 : Int32) then ff_X10_kindOf_b60 N else (if x0 = (40 : Int32) then ff_X10_kindOf_b60 N else (if x0 = (41 : Int32) then ff_X10_kindOf_b60 N else some (5 : Int32))))
def ff_X10_kindOf_b28 (N : Nat) (x0 : Int32) : Option Int32 :=
  (if x0 < (48 : Int32) then ff_X10_kindOf_b42 N x0 else (if (57 : Int32) < x0 then ff_X10_kindOf_b42 N x0 else some (2 : Int32)))
def ff_X10_kindOf (N : Nat) (a0 : Int32) : Option Int32 :=
  (if a0 = (32 : Int32) then some (4 : Int32) else (if a0 = (10 : Int32) then some (4 : Int32) else (if a0 < (97 : Int32) then ff_X10_kindOf_b28 N a0 else (if (122 : Int32) < a0 then ff_X10_kindOf_b28 N a0 else some (1 : Int32)))))
set_option maxHeartbeats 4000000 in
set_option maxRecDepth 100000 in
theorem mm_X10_kindOf (l : Launch) (D : va_G) (kA : Nat → ClassId) (N : Nat) (a0 : Int32) (out : Int32) (hf : ff_X10_kindOf N a0 = some out) : mc_C l D kA yX10_kindOf wsX10_kindOf ({ frames := 0, cells := 0, slots := 0, locals := 0 } : Room) [.int a0] [] (some (.int out)) [] := by
  refine mc_of (cc := cX10_kindOf) (maxL := 1) (ret := (some .int)) (by decide) rfl (Nat.le_of_ble_eq_true rfl) ?_
  intro p e s m below meth c A B hD hP hS ls hl
  obtain ⟨hx, hb, hr, hlk, hml, hown, hts, hK, hA, hnm⟩ := B
  have hown : s.vm.findClass RX10 = some m.cls := hown
  have hl : lv_has ls 1 [(0, .int a0)] := hl
  have hB60 : ∀ (H : Heap) (locs : List Loc) (ls : Array Slot), va_P D vwCl [] H → va_D A [] → va_S A s.heap H locs → lv_has ls 1 [] → ff_X10_kindOf_b60 N = some out → W p l e ({ frames := 0, cells := 0, slots := 0, locals := 0 } : Room) s m [.int a0].toArray below meth c H locs 0 0 (MQ below (mc_Q D kA A (some (.int out)) []) [.int a0].toArray s 0 0 A) (F0 m 60 ls []) := by
    intro H locs ls hP hD hS hl hf
    unfold ff_X10_kindOf_b60 at hf
    refine lv_iconst (v := 3) hx hb dX10_kindOf_60 (by decide) ?_
    refine lv_goto (tgt := 65) hx hb dX10_kindOf_61 (by decide) ?_
    rw [← Option.some.inj hf]
    exact mc_reti hx hb hr hlk hP hK hD hS dX10_kindOf_65
  have hB42 : ∀ (x0 : Int32) (H : Heap) (locs : List Loc) (ls : Array Slot), va_P D vwCl [] H → va_D A [] → va_S A s.heap H locs → lv_has ls 1 [(0, .int x0)] → ff_X10_kindOf_b42 N x0 = some out → W p l e ({ frames := 0, cells := 0, slots := 0, locals := 0 } : Room) s m [.int a0].toArray below meth c H locs 0 0 (MQ below (mc_Q D kA A (some (.int out)) []) [.int a0].toArray s 0 0 A) (F0 m 42 ls []) := by
    intro x0 H locs ls hP hD hS hl hf
    unfold ff_X10_kindOf_b42 at hf
    refine lv_iload_n hx hb dX10_kindOf_42 rfl (lv_at hl 0 rfl) ?_
    refine lv_bipush (v := 59) hx hb dX10_kindOf_43 (by decide) ?_
    refine lv_icmp_eq (tgt := 60) hx hb dX10_kindOf_45 (by decide) (fun hc_7 => ?_) (fun hc_7 => ?_)
    · rw [if_pos hc_7] at hf
      exact hB60 _ _ _ hP hD hS (lv_sub hl [] rfl) hf
    · rw [if_neg hc_7] at hf
      refine lv_iload_n hx hb dX10_kindOf_48 rfl (lv_at hl 0 rfl) ?_
      refine lv_bipush (v := 40) hx hb dX10_kindOf_49 (by decide) ?_
      refine lv_icmp_eq (tgt := 60) hx hb dX10_kindOf_51 (by decide) (fun hc_8 => ?_) (fun hc_8 => ?_)
      · rw [if_pos hc_8] at hf
        exact hB60 _ _ _ hP hD hS (lv_sub hl [] rfl) hf
      · rw [if_neg hc_8] at hf
        refine lv_iload_n hx hb dX10_kindOf_54 rfl (lv_at hl 0 rfl) ?_
        refine lv_bipush (v := 41) hx hb dX10_kindOf_55 (by decide) ?_
        refine lv_icmp_ne (tgt := 64) hx hb dX10_kindOf_57 (by decide) (fun hc_9 => ?_) (fun hc_9 => ?_)
        · rw [if_neg hc_9] at hf
          refine lv_iconst (v := 5) hx hb dX10_kindOf_64 (by decide) ?_
          rw [← Option.some.inj hf]
          exact mc_reti hx hb hr hlk hP hK hD hS dX10_kindOf_65
        · rw [if_pos hc_9] at hf
          exact hB60 _ _ _ hP hD hS (lv_sub hl [] rfl) hf
  have hB28 : ∀ (x0 : Int32) (H : Heap) (locs : List Loc) (ls : Array Slot), va_P D vwCl [] H → va_D A [] → va_S A s.heap H locs → lv_has ls 1 [(0, .int x0)] → ff_X10_kindOf_b28 N x0 = some out → W p l e ({ frames := 0, cells := 0, slots := 0, locals := 0 } : Room) s m [.int a0].toArray below meth c H locs 0 0 (MQ below (mc_Q D kA A (some (.int out)) []) [.int a0].toArray s 0 0 A) (F0 m 28 ls []) := by
    intro x0 H locs ls hP hD hS hl hf
    unfold ff_X10_kindOf_b28 at hf
    refine lv_iload_n hx hb dX10_kindOf_28 rfl (lv_at hl 0 rfl) ?_
    refine lv_bipush (v := 48) hx hb dX10_kindOf_29 (by decide) ?_
    refine lv_icmp_lt (tgt := 42) hx hb dX10_kindOf_31 (by decide) (fun hc_5 => ?_) (fun hc_5 => ?_)
    · rw [if_pos hc_5] at hf
      exact hB42 x0 _ _ _ hP hD hS (lv_sub hl [0] rfl) hf
    · rw [if_neg hc_5] at hf
      refine lv_iload_n hx hb dX10_kindOf_34 rfl (lv_at hl 0 rfl) ?_
      refine lv_bipush (v := 57) hx hb dX10_kindOf_35 (by decide) ?_
      refine lv_icmp_gt (tgt := 42) hx hb dX10_kindOf_37 (by decide) (fun hc_6 => ?_) (fun hc_6 => ?_)
      · rw [if_pos hc_6] at hf
        exact hB42 x0 _ _ _ hP hD hS (lv_sub hl [0] rfl) hf
      · rw [if_neg hc_6] at hf
        refine lv_iconst (v := 2) hx hb dX10_kindOf_40 (by decide) ?_
        rw [← Option.some.inj hf]
        exact mc_reti hx hb hr hlk hP hK hD hS dX10_kindOf_41
  unfold ff_X10_kindOf at hf
  refine lv_iload_n hx hb dX10_kindOf_0 rfl (lv_at hl 0 rfl) ?_
  refine lv_bipush (v := 32) hx hb dX10_kindOf_1 (by decide) ?_
  refine lv_icmp_eq (tgt := 12) hx hb dX10_kindOf_3 (by decide) (fun hc_1 => ?_) (fun hc_1 => ?_)
  · rw [if_pos hc_1] at hf
    refine lv_iconst (v := 4) hx hb dX10_kindOf_12 (by decide) ?_
    rw [← Option.some.inj hf]
    exact mc_reti hx hb hr hlk hP hK hD hS dX10_kindOf_13
  · rw [if_neg hc_1] at hf
    refine lv_iload_n hx hb dX10_kindOf_6 rfl (lv_at hl 0 rfl) ?_
    refine lv_bipush (v := 10) hx hb dX10_kindOf_7 (by decide) ?_
    refine lv_icmp_ne (tgt := 14) hx hb dX10_kindOf_9 (by decide) (fun hc_2 => ?_) (fun hc_2 => ?_)
    · rw [if_neg hc_2] at hf
      refine lv_iload_n hx hb dX10_kindOf_14 rfl (lv_at hl 0 rfl) ?_
      refine lv_bipush (v := 97) hx hb dX10_kindOf_15 (by decide) ?_
      refine lv_icmp_lt (tgt := 28) hx hb dX10_kindOf_17 (by decide) (fun hc_3 => ?_) (fun hc_3 => ?_)
      · rw [if_pos hc_3] at hf
        exact hB28 a0 _ _ _ hP hD hS (lv_sub hl [0] rfl) hf
      · rw [if_neg hc_3] at hf
        refine lv_iload_n hx hb dX10_kindOf_20 rfl (lv_at hl 0 rfl) ?_
        refine lv_bipush (v := 122) hx hb dX10_kindOf_21 (by decide) ?_
        refine lv_icmp_gt (tgt := 28) hx hb dX10_kindOf_23 (by decide) (fun hc_4 => ?_) (fun hc_4 => ?_)
        · rw [if_pos hc_4] at hf
          exact hB28 a0 _ _ _ hP hD hS (lv_sub hl [0] rfl) hf
        · rw [if_neg hc_4] at hf
          refine lv_iconst (v := 1) hx hb dX10_kindOf_26 (by decide) ?_
          rw [← Option.some.inj hf]
          exact mc_reti hx hb hr hlk hP hK hD hS dX10_kindOf_27
    · rw [if_pos hc_2] at hf
      refine lv_iconst (v := 4) hx hb dX10_kindOf_12 (by decide) ?_
      rw [← Option.some.inj hf]
      exact mc_reti hx hb hr hlk hP hK hD hS dX10_kindOf_13
def ff_X10_lengthenToken (N : Nat) (o_this : os_T) : Option os_T :=
  (if ((os_I o_this 5) - (1 : Int32)) < 0 then some o_this else (if (900 : Int32) ≤ ((os_I o_this 5) - (1 : Int32)) then some o_this else (if os_in ((os_I o_this 5) - (1 : Int32)) 900 then (if os_in ((os_I o_this 5) - (1 : Int32)) 900 then some (ss_A o_this 2 (upd (os_A o_this 2) (Int32.toNatClampNeg ((os_I o_this 5) - (1 : Int32))) (((os_A o_this 2) (Int32.toNatClampNeg ((os_I o_this 5) - (1 : Int32)))) + (1 : Int32)))) else none) else none)))
set_option maxHeartbeats 4000000 in
set_option maxRecDepth 100000 in
theorem mm_X10_lengthenToken (l : Launch) (D : va_G) (kA : Nat → ClassId) (N : Nat) (q_this : Nat → Nat) (o_this : os_T) (out : os_T) (hf : ff_X10_lengthenToken N o_this = some out) : mc_C l D kA yX10_lengthenToken wsX10_lengthenToken ({ frames := 0, cells := 0, slots := 0, locals := 0 } : Room) [.ref (q_this 0)] (ce_X10 kA q_this o_this) none (ce_X10 kA q_this out) := by
  refine mc_of (cc := cX10_lengthenToken) (maxL := 2) (ret := none) (by decide) rfl (Nat.le_of_ble_eq_true rfl) ?_
  intro p e s m below meth c A B hD hP hS ls hl
  obtain ⟨hx, hb, hr, hlk, hml, hown, hts, hK, hA, hnm⟩ := B
  have hown : s.vm.findClass RX10 = some m.cls := hown
  have hl : lv_has ls 2 [(0, .ref (q_this 0))] := hl
  have hUX10 : ∀ w ∈ u_ws RX10 TX10 11, w.before [.ref (q_this 0)].toArray s = true := fun w h => hts w (List.mem_cons_of_mem _ (List.mem_append_right _ h))
  unfold ff_X10_lengthenToken at hf
  refine lv_aload_n hx hb dX10_lengthenToken_0 rfl (lv_at hl 0 rfl) ?_
  refine va_get (D := D) (ci := 8) (v := .int (os_I o_this 5)) (C := RX10) (T := TX10) (N := 11) hx hb hUX10 (fun _ h9 => h9) hown hK hP 0 rfl rfl 5 (by decide) (hts (Cond.fieldLink RX10 36 "ReliefBuilder$Tokens" "count" "I") (List.mem_of_getElem? (i := 1) rfl)) (fun _ h9 => h9) rfl dX10_lengthenToken_1 ?_
  refine lv_iconst (v := 1) hx hb dX10_lengthenToken_4 (by decide) ?_
  refine lv_isub hx hb dX10_lengthenToken_5 ?_
  refine lv_istore_n (lv' := [(1, .int ((os_I o_this 5) - (1 : Int32))), (0, .ref (q_this 0))]) hx hb dX10_lengthenToken_6 rfl hl (by decide) rfl (fun ls hl => ?_)
  refine lv_iload_n hx hb dX10_lengthenToken_7 rfl (lv_at hl 0 rfl) ?_
  refine lv_if_lt (tgt := 30) hx hb dX10_lengthenToken_8 (by decide) (fun hc_1 => ?_) (fun hc_1 => ?_)
  · rw [if_pos hc_1] at hf
    rw [← Option.some.inj hf]
    exact mc_retv hx hb hr hlk hP hK hD hS dX10_lengthenToken_30
  · rw [if_neg hc_1] at hf
    refine lv_iload_n hx hb dX10_lengthenToken_11 rfl (lv_at hl 0 rfl) ?_
    refine lv_aload_n hx hb dX10_lengthenToken_12 rfl (lv_at hl 1 rfl) ?_
    refine va_get (D := D) (ci := 8) (v := .ref (q_this 4)) (C := RX10) (T := TX10) (N := 11) hx hb hUX10 (fun _ h9 => h9) hown hK hP 0 rfl rfl 3 (by decide) (hts (Cond.fieldLink RX10 22 "ReliefBuilder$Tokens" "kinds" "[I") (List.mem_of_getElem? (i := 2) rfl)) (fun _ h9 => h9) rfl dX10_lengthenToken_13 ?_
    refine va_alen (v := 900) hx hb hK hP 4 0 rfl rfl rfl dX10_lengthenToken_16 ?_
    refine lv_icmp_ge (tgt := 30) hx hb dX10_lengthenToken_17 (by decide) (fun hc_2 => ?_) (fun hc_2 => ?_)
    · rw [if_pos hc_2] at hf
      rw [← Option.some.inj hf]
      exact mc_retv hx hb hr hlk hP hK hD hS dX10_lengthenToken_30
    · rw [if_neg hc_2] at hf
      refine lv_aload_n hx hb dX10_lengthenToken_20 rfl (lv_at hl 1 rfl) ?_
      refine va_get (D := D) (ci := 8) (v := .ref (q_this 3)) (C := RX10) (T := TX10) (N := 11) hx hb hUX10 (fun _ h9 => h9) hown hK hP 0 rfl rfl 2 (by decide) (hts (Cond.fieldLink RX10 19 "ReliefBuilder$Tokens" "sizes" "[I") (List.mem_of_getElem? (i := 3) rfl)) (fun _ h9 => h9) rfl dX10_lengthenToken_21 ?_
      refine lv_iload_n hx hb dX10_lengthenToken_24 rfl (lv_at hl 0 rfl) ?_
      refine lv_dup2_11 hx hb dX10_lengthenToken_25 rfl rfl ?_
      obtain ⟨hi_3, hf⟩ := os_if hf
      refine va_iald hx hb hK hP 3 0 rfl rfl hi_3 dX10_lengthenToken_26 ?_
      refine lv_iconst (v := 1) hx hb dX10_lengthenToken_27 (by decide) ?_
      refine lv_iadd hx hb dX10_lengthenToken_28 ?_
      obtain ⟨hi_4, hf⟩ := os_if hf
      refine va_iast hx hb hK hP hD hS 3 0 rfl rfl hi_4 dX10_lengthenToken_29 (fun H locs hP hD hS => ?_)
      have hP : va_P D vwCl (ce_X10 kA q_this (ss_A o_this 2 (upd (os_A o_this 2) (Int32.toNatClampNeg ((os_I o_this 5) - (1 : Int32))) (((os_A o_this 2) (Int32.toNatClampNeg ((os_I o_this 5) - (1 : Int32)))) + (1 : Int32))))) H := hP
      have hD : va_D A (ce_X10 kA q_this (ss_A o_this 2 (upd (os_A o_this 2) (Int32.toNatClampNeg ((os_I o_this 5) - (1 : Int32))) (((os_A o_this 2) (Int32.toNatClampNeg ((os_I o_this 5) - (1 : Int32)))) + (1 : Int32))))) := hD
      rw [← Option.some.inj hf]
      exact mc_retv hx hb hr hlk hP hK hD hS dX10_lengthenToken_30
def ff_X10_begin_b64 (N : Nat) (k14 : (os_T × Int32 × Int32) → Option os_T) (o_this : os_T) (x2 : Int32) (x3 : Int32) : Option os_T :=
  k14 (o_this, x3, x2 + 1)
def ff_X10_begin_b53 (N : Nat) (k14 : (os_T × Int32 × Int32) → Option os_T) (o_this : os_T) (x2 : Int32) (x3 : Int32) : Option os_T :=
  (if x3 = (4 : Int32) then ff_X10_begin_b64 N k14 o_this x2 x3 else ((ff_X10_addToken N o_this x2 x3).bind fun u_12 => ff_X10_begin_b64 N k14 u_12 x2 x3))
def ff_X10_begin_b46 (N : Nat) (k14 : (os_T × Int32 × Int32) → Option os_T) (o_this : os_T) (x2 : Int32) (x3 : Int32) : Option os_T :=
  ((ff_X10_lengthenToken N o_this).bind fun u_14 => ff_X10_begin_b64 N k14 u_14 x2 x3)
def ff_X10_begin_c14 (N : Nat) (k14 : (os_T × Int32 × Int32) → Option os_T) (o_this : os_T) (x1 : Int32) (x2 : Int32) : Option os_T :=
  (if (os_I o_this 4) ≤ x2 then ((ff_X10_advance N (ss_I o_this 6 (-1 : Int32))).bind fun u_2 => some u_2) else ((ff_X10_byteAt N o_this x2).bind fun u_4 => ((ff_X10_kindOf N u_4).bind fun u_6 => (if u_6 = x1 then (if u_6 = (1 : Int32) then ff_X10_begin_b46 N k14 o_this x2 u_6 else (if u_6 = (2 : Int32) then ff_X10_begin_b46 N k14 o_this x2 u_6 else ff_X10_begin_b53 N k14 o_this x2 u_6)) else ff_X10_begin_b53 N k14 o_this x2 u_6))))
def ff_X10_begin_l14 (N : Nat) : Nat → (os_T × Int32 × Int32) → Option os_T := os_loop (fun k14 s1 => ff_X10_begin_c14 N k14 s1.1 s1.2.1 s1.2.2)
def ff_X10_begin (N : Nat) (o_this : os_T) : Option os_T :=
  ff_X10_begin_l14 N N (ss_I (ss_I o_this 5 (0 : Int32)) 10 (0 : Int32), (4 : Int32), (0 : Int32))
set_option maxHeartbeats 4000000 in
set_option maxRecDepth 100000 in
theorem mm_X10_begin (l : Launch) (D : va_G) (kA : Nat → ClassId) (N : Nat) (q_this : Nat → Nat) (o_this : os_T) (out : os_T) (hf : ff_X10_begin N o_this = some out) : mc_C l D kA yX10_begin wsX10_begin ({ frames := 1, cells := 0, slots := 0, locals := 22 } : Room) [.ref (q_this 0)] (ce_X10 kA q_this o_this) none (ce_X10 kA q_this out) := by
  refine mc_of (cc := cX10_begin) (maxL := 4) (ret := none) (by decide) rfl (Nat.le_of_ble_eq_true rfl) ?_
  intro p e s m below meth c A B hD hP hS ls hl
  obtain ⟨hx, hb, hr, hlk, hml, hown, hts, hK, hA, hnm⟩ := B
  have hown : s.vm.findClass RX10 = some m.cls := hown
  have hl : lv_has ls 4 [(0, .ref (q_this 0))] := hl
  have hUX10 : ∀ w ∈ u_ws RX10 TX10 11, w.before [.ref (q_this 0)].toArray s = true := fun w h => hts w (List.mem_cons_of_mem _ (List.mem_append_right _ h))
  have hB64 : ∀ (k14 : (os_T × Int32 × Int32) → Option os_T), (∀ (o_this : os_T) (x1 : Int32) (x2 : Int32) (H : Heap) (locs : List Loc) (ls : Array Slot), va_P D vwCl (ce_X10 kA q_this o_this) H → va_D A (ce_X10 kA q_this o_this) → va_S A s.heap H locs → lv_has ls 4 [(0, .ref (q_this 0)), (1, .int x1), (2, .int x2)] → k14 (o_this, x1, x2) = some out → W p l e ({ frames := 1, cells := 0, slots := 0, locals := 22 } : Room) s m [.ref (q_this 0)].toArray below meth c H locs 0 0 (MQ below (mc_Q D kA A none (ce_X10 kA q_this out)) [.ref (q_this 0)].toArray s 0 0 A) (F0 m 14 ls [])) → ∀ (o_this : os_T) (x2 : Int32) (x3 : Int32) (H : Heap) (locs : List Loc) (ls : Array Slot), va_P D vwCl (ce_X10 kA q_this o_this) H → va_D A (ce_X10 kA q_this o_this) → va_S A s.heap H locs → lv_has ls 4 [(0, .ref (q_this 0)), (2, .int x2), (3, .int x3)] → ff_X10_begin_b64 N k14 o_this x2 x3 = some out → W p l e ({ frames := 1, cells := 0, slots := 0, locals := 22 } : Room) s m [.ref (q_this 0)].toArray below meth c H locs 0 0 (MQ below (mc_Q D kA A none (ce_X10 kA q_this out)) [.ref (q_this 0)].toArray s 0 0 A) (F0 m 64 ls []) := by
    intro k14 hk14 o_this x2 x3 H locs ls hP hD hS hl hf
    unfold ff_X10_begin_b64 at hf
    refine lv_iload_n hx hb dX10_begin_64 rfl (lv_at hl 2 rfl) ?_
    refine lv_istore_n (lv' := [(1, .int x3), (0, .ref (q_this 0)), (2, .int x2), (3, .int x3)]) hx hb dX10_begin_65 rfl hl (by decide) rfl (fun ls hl => ?_)
    refine lv_iinc (v := x2 + 1) (lv' := [(2, .int (x2 + 1)), (1, .int x3), (0, .ref (q_this 0)), (3, .int x3)]) hx hb dX10_begin_66 hl (k := 2) rfl rfl (by decide) rfl (fun ls hl => ?_)
    refine lv_goto (tgt := 14) hx hb dX10_begin_69 (by decide) ?_
    exact hk14 o_this x3 (x2 + 1) _ _ _ hP hD hS (lv_sub hl [2, 1, 0] rfl) hf
  have hB53 : ∀ (k14 : (os_T × Int32 × Int32) → Option os_T), (∀ (o_this : os_T) (x1 : Int32) (x2 : Int32) (H : Heap) (locs : List Loc) (ls : Array Slot), va_P D vwCl (ce_X10 kA q_this o_this) H → va_D A (ce_X10 kA q_this o_this) → va_S A s.heap H locs → lv_has ls 4 [(0, .ref (q_this 0)), (1, .int x1), (2, .int x2)] → k14 (o_this, x1, x2) = some out → W p l e ({ frames := 1, cells := 0, slots := 0, locals := 22 } : Room) s m [.ref (q_this 0)].toArray below meth c H locs 0 0 (MQ below (mc_Q D kA A none (ce_X10 kA q_this out)) [.ref (q_this 0)].toArray s 0 0 A) (F0 m 14 ls [])) → ∀ (o_this : os_T) (x2 : Int32) (x3 : Int32) (H : Heap) (locs : List Loc) (ls : Array Slot), va_P D vwCl (ce_X10 kA q_this o_this) H → va_D A (ce_X10 kA q_this o_this) → va_S A s.heap H locs → lv_has ls 4 [(0, .ref (q_this 0)), (2, .int x2), (3, .int x3)] → ff_X10_begin_b53 N k14 o_this x2 x3 = some out → W p l e ({ frames := 1, cells := 0, slots := 0, locals := 22 } : Room) s m [.ref (q_this 0)].toArray below meth c H locs 0 0 (MQ below (mc_Q D kA A none (ce_X10 kA q_this out)) [.ref (q_this 0)].toArray s 0 0 A) (F0 m 53 ls []) := by
    intro k14 hk14 o_this x2 x3 H locs ls hP hD hS hl hf
    unfold ff_X10_begin_b53 at hf
    refine lv_iload_n hx hb dX10_begin_53 rfl (lv_at hl 2 rfl) ?_
    refine lv_iconst (v := 4) hx hb dX10_begin_54 (by decide) ?_
    refine lv_icmp_eq (tgt := 64) hx hb dX10_begin_55 (by decide) (fun hc_11 => ?_) (fun hc_11 => ?_)
    · rw [if_pos hc_11] at hf
      exact hB64 k14 hk14 o_this x2 x3 _ _ _ hP hD hS (lv_sub hl [0, 1, 2] rfl) hf
    · rw [if_neg hc_11] at hf
      refine lv_aload_n hx hb dX10_begin_58 rfl (lv_at hl 0 rfl) ?_
      refine lv_iload_n hx hb dX10_begin_59 rfl (lv_at hl 1 rfl) ?_
      refine lv_iload_n hx hb dX10_begin_60 rfl (lv_at hl 2 rfl) ?_
      obtain ⟨u_12, he_13, hf⟩ := os_bd hf
      refine mc_callV ⟨hx, hb, hml, hown, hts⟩ (mm_X10_addToken l D kA N q_this o_this x2 x3 u_12 he_13) (cwV 2 hts gX10_begin_X10_addToken rfl rfl rfl (by decide +kernel) ⟨Nat.le_of_ble_eq_true rfl, Nat.le_of_ble_eq_true rfl⟩) (wc := (ce_X10 kA q_this o_this)) (ci := 8) (q0 := 0) rfl rfl rfl hl.1 (As := [.int x2, .int x3]) (rest := []) rfl (Nat.le_of_ble_eq_true rfl) dX10_begin_61 ⟨Nat.le_of_ble_eq_true rfl, Nat.le_of_ble_eq_true rfl⟩ hK hP hD hS hA [0, 1, 2, 3, 4] [] [0, 1, 2, 3, 4] rfl (by decide) rfl (by decide) (by decide) rfl (by decide) (wr := []) (w2 := (ce_X10 kA q_this u_12)) (fun H locs hP hD hS => ?_)
      have hP : va_P D vwCl (ce_X10 kA q_this u_12) H := hP
      exact hB64 k14 hk14 u_12 x2 x3 _ _ _ hP hD hS (lv_sub hl [0, 1, 2] rfl) hf
  have hB46 : ∀ (k14 : (os_T × Int32 × Int32) → Option os_T), (∀ (o_this : os_T) (x1 : Int32) (x2 : Int32) (H : Heap) (locs : List Loc) (ls : Array Slot), va_P D vwCl (ce_X10 kA q_this o_this) H → va_D A (ce_X10 kA q_this o_this) → va_S A s.heap H locs → lv_has ls 4 [(0, .ref (q_this 0)), (1, .int x1), (2, .int x2)] → k14 (o_this, x1, x2) = some out → W p l e ({ frames := 1, cells := 0, slots := 0, locals := 22 } : Room) s m [.ref (q_this 0)].toArray below meth c H locs 0 0 (MQ below (mc_Q D kA A none (ce_X10 kA q_this out)) [.ref (q_this 0)].toArray s 0 0 A) (F0 m 14 ls [])) → ∀ (o_this : os_T) (x2 : Int32) (x3 : Int32) (H : Heap) (locs : List Loc) (ls : Array Slot), va_P D vwCl (ce_X10 kA q_this o_this) H → va_D A (ce_X10 kA q_this o_this) → va_S A s.heap H locs → lv_has ls 4 [(0, .ref (q_this 0)), (2, .int x2), (3, .int x3)] → ff_X10_begin_b46 N k14 o_this x2 x3 = some out → W p l e ({ frames := 1, cells := 0, slots := 0, locals := 22 } : Room) s m [.ref (q_this 0)].toArray below meth c H locs 0 0 (MQ below (mc_Q D kA A none (ce_X10 kA q_this out)) [.ref (q_this 0)].toArray s 0 0 A) (F0 m 46 ls []) := by
    intro k14 hk14 o_this x2 x3 H locs ls hP hD hS hl hf
    unfold ff_X10_begin_b46 at hf
    refine lv_aload_n hx hb dX10_begin_46 rfl (lv_at hl 0 rfl) ?_
    obtain ⟨u_14, he_15, hf⟩ := os_bd hf
    refine mc_callV ⟨hx, hb, hml, hown, hts⟩ (mm_X10_lengthenToken l D kA N q_this o_this u_14 he_15) (cwV 0 hts gX10_begin_X10_lengthenToken rfl rfl rfl (by decide +kernel) ⟨Nat.le_of_ble_eq_true rfl, Nat.le_of_ble_eq_true rfl⟩) (wc := (ce_X10 kA q_this o_this)) (ci := 8) (q0 := 0) rfl rfl rfl hl.1 (As := []) (rest := []) rfl (Nat.le_of_ble_eq_true rfl) dX10_begin_47 ⟨Nat.le_of_ble_eq_true rfl, Nat.le_of_ble_eq_true rfl⟩ hK hP hD hS hA [0, 1, 2, 3, 4] [] [0, 1, 2, 3, 4] rfl (by decide) rfl (by decide) (by decide) rfl (by decide) (wr := []) (w2 := (ce_X10 kA q_this u_14)) (fun H locs hP hD hS => ?_)
    have hP : va_P D vwCl (ce_X10 kA q_this u_14) H := hP
    refine lv_goto (tgt := 64) hx hb dX10_begin_50 (by decide) ?_
    exact hB64 k14 hk14 u_14 x2 x3 _ _ _ hP hD hS (lv_sub hl [0, 1, 2] rfl) hf
  have hL14 : ∀ (n : Nat) (o_this : os_T) (x1 : Int32) (x2 : Int32) (H : Heap) (locs : List Loc) (ls : Array Slot), va_P D vwCl (ce_X10 kA q_this o_this) H → va_D A (ce_X10 kA q_this o_this) → va_S A s.heap H locs → lv_has ls 4 [(0, .ref (q_this 0)), (1, .int x1), (2, .int x2)] → ff_X10_begin_l14 N n (o_this, x1, x2) = some out → W p l e ({ frames := 1, cells := 0, slots := 0, locals := 22 } : Room) s m [.ref (q_this 0)].toArray below meth c H locs 0 0 (MQ below (mc_Q D kA A none (ce_X10 kA q_this out)) [.ref (q_this 0)].toArray s 0 0 A) (F0 m 14 ls []) := by
    intro n
    induction n with
    | zero => intro o_this x1 x2 H locs ls _ _ _ _ hf; cases hf
    | succ n hk14 =>
      intro o_this x1 x2 H locs ls hP hD hS hl hf
      have hf : ff_X10_begin_c14 N (ff_X10_begin_l14 N n) o_this x1 x2 = some out := hf
      generalize hke : ff_X10_begin_l14 N n = k14 at hk14 hf
      unfold ff_X10_begin_c14 at hf
      refine lv_iload_n hx hb dX10_begin_14 rfl (lv_at hl 2 rfl) ?_
      refine lv_aload_n hx hb dX10_begin_15 rfl (lv_at hl 0 rfl) ?_
      refine va_get (D := D) (ci := 8) (v := .int (os_I o_this 4)) (C := RX10) (T := TX10) (N := 11) hx hb hUX10 (fun _ h9 => h9) hown hK hP 0 rfl rfl 4 (by decide) (hts (Cond.fieldLink RX10 25 "ReliefBuilder$Tokens" "length" "I") (List.mem_of_getElem? (i := 3) rfl)) (fun _ h9 => h9) rfl dX10_begin_16 ?_
      refine lv_icmp_ge (tgt := 72) hx hb dX10_begin_19 (by decide) (fun hc_1 => ?_) (fun hc_1 => ?_)
      · rw [if_pos hc_1] at hf
        refine lv_aload_n hx hb dX10_begin_72 rfl (lv_at hl 0 rfl) ?_
        refine lv_iconst (v := (-1)) hx hb dX10_begin_73 (by decide) ?_
        refine va_put (D := D) (ci := 8) (v := .int (-1 : Int32)) (ty := .int) (C := RX10) (T := TX10) (N := 11) hx hb hUX10 (fun _ h9 => h9) tyX10 tyX10_ok nmX10 hown hK hP hD hS 0 rfl rfl 6 (by decide) (hts (Cond.fieldLink RX10 53 "ReliefBuilder$Tokens" "present" "I") (List.mem_of_getElem? (i := 4) rfl)) (fun _ h9 => h9) rfl (tyX10_ok 6 (by decide)) rfl rfl (Nat.le_of_ble_eq_true rfl) dX10_begin_74 (fun H locs hP hD hS => ?_)
        have hP : va_P D vwCl (ce_X10 kA q_this (ss_I o_this 6 (-1 : Int32))) H := hP
        have hD : va_D A (ce_X10 kA q_this (ss_I o_this 6 (-1 : Int32))) := hD
        refine lv_aload_n hx hb dX10_begin_77 rfl (lv_at hl 0 rfl) ?_
        obtain ⟨u_2, he_3, hf⟩ := os_bd hf
        refine mc_callV ⟨hx, hb, hml, hown, hts⟩ (mm_X10_advance l D kA N q_this (ss_I o_this 6 (-1 : Int32)) u_2 he_3) (cwV 0 hts gX10_begin_X10_advance rfl rfl rfl (by decide +kernel) ⟨Nat.le_of_ble_eq_true rfl, Nat.le_of_ble_eq_true rfl⟩) (wc := (ce_X10 kA q_this (ss_I o_this 6 (-1 : Int32)))) (ci := 8) (q0 := 0) rfl rfl rfl hl.1 (As := []) (rest := []) rfl (Nat.le_of_ble_eq_true rfl) dX10_begin_78 ⟨Nat.le_of_ble_eq_true rfl, Nat.le_of_ble_eq_true rfl⟩ hK hP hD hS hA [0, 1, 2, 3, 4] [] [0, 1, 2, 3, 4] rfl (by decide) rfl (by decide) (by decide) rfl (by decide) (wr := []) (w2 := (ce_X10 kA q_this u_2)) (fun H locs hP hD hS => ?_)
        have hP : va_P D vwCl (ce_X10 kA q_this u_2) H := hP
        rw [← Option.some.inj hf]
        exact mc_retv hx hb hr hlk hP hK hD hS dX10_begin_81
      · rw [if_neg hc_1] at hf
        refine lv_aload_n hx hb dX10_begin_22 rfl (lv_at hl 0 rfl) ?_
        refine lv_iload_n hx hb dX10_begin_23 rfl (lv_at hl 2 rfl) ?_
        obtain ⟨u_4, he_5, hf⟩ := os_bd hf
        refine mc_callV ⟨hx, hb, hml, hown, hts⟩ (mm_X10_byteAt l D kA N q_this o_this x2 u_4 he_5) (cwV 1 hts gX10_begin_X10_byteAt rfl rfl rfl (by decide +kernel) ⟨Nat.le_of_ble_eq_true rfl, Nat.le_of_ble_eq_true rfl⟩) (wc := (ce_X10 kA q_this o_this)) (ci := 8) (q0 := 0) rfl rfl rfl hl.1 (As := [.int x2]) (rest := []) rfl (Nat.le_of_ble_eq_true rfl) dX10_begin_24 ⟨Nat.le_of_ble_eq_true rfl, Nat.le_of_ble_eq_true rfl⟩ hK hP hD hS hA [0, 1, 2, 3, 4] [] [0, 1, 2, 3, 4] rfl (by decide) rfl (by decide) (by decide) rfl (by decide) (wr := []) (w2 := (ce_X10 kA q_this o_this)) (fun H locs hP hD hS => ?_)
        have hP : va_P D vwCl (ce_X10 kA q_this o_this) H := hP
        obtain ⟨u_6, he_7, hf⟩ := os_bd hf
        refine mc_callS ⟨hx, hb, hml, hown, hts⟩ (mm_X10_kindOf l D kA N u_4 u_6 he_7) (va_cwS 1 hts gX10_begin_X10_kindOf rfl rfl rfl (by decide +kernel) ⟨Nat.le_of_ble_eq_true rfl, Nat.le_of_ble_eq_true rfl⟩) (wc := []) rfl hl.1 (As := [.int u_4]) (rest := []) rfl (Nat.le_of_ble_eq_true rfl) dX10_begin_27 ⟨Nat.le_of_ble_eq_true rfl, Nat.le_of_ble_eq_true rfl⟩ hK hP hD hS hA [] [0, 1, 2, 3, 4] [0, 1, 2, 3, 4] rfl (by decide) rfl (by decide) (by decide) rfl (by decide) (wr := (ce_X10 kA q_this o_this)) (w2 := (ce_X10 kA q_this o_this)) (fun H locs hP hD hS => ?_)
        have hP : va_P D vwCl (ce_X10 kA q_this o_this) H := hP
        refine lv_istore_n (lv' := [(3, .int u_6), (0, .ref (q_this 0)), (1, .int x1), (2, .int x2)]) hx hb dX10_begin_30 rfl hl (by decide) rfl (fun ls hl => ?_)
        refine lv_iload_n hx hb dX10_begin_31 rfl (lv_at hl 0 rfl) ?_
        refine lv_iload_n hx hb dX10_begin_32 rfl (lv_at hl 2 rfl) ?_
        refine lv_icmp_ne (tgt := 53) hx hb dX10_begin_33 (by decide) (fun hc_8 => ?_) (fun hc_8 => ?_)
        · rw [if_neg hc_8] at hf
          exact hB53 k14 hk14 o_this x2 u_6 _ _ _ hP hD hS (lv_sub hl [1, 3, 0] rfl) hf
        · rw [if_pos hc_8] at hf
          refine lv_iload_n hx hb dX10_begin_36 rfl (lv_at hl 0 rfl) ?_
          refine lv_iconst (v := 1) hx hb dX10_begin_37 (by decide) ?_
          refine lv_icmp_eq (tgt := 46) hx hb dX10_begin_38 (by decide) (fun hc_9 => ?_) (fun hc_9 => ?_)
          · rw [if_pos hc_9] at hf
            exact hB46 k14 hk14 o_this x2 u_6 _ _ _ hP hD hS (lv_sub hl [1, 3, 0] rfl) hf
          · rw [if_neg hc_9] at hf
            refine lv_iload_n hx hb dX10_begin_41 rfl (lv_at hl 0 rfl) ?_
            refine lv_iconst (v := 2) hx hb dX10_begin_42 (by decide) ?_
            refine lv_icmp_ne (tgt := 53) hx hb dX10_begin_43 (by decide) (fun hc_10 => ?_) (fun hc_10 => ?_)
            · rw [if_neg hc_10] at hf
              exact hB53 k14 hk14 o_this x2 u_6 _ _ _ hP hD hS (lv_sub hl [1, 3, 0] rfl) hf
            · rw [if_pos hc_10] at hf
              exact hB46 k14 hk14 o_this x2 u_6 _ _ _ hP hD hS (lv_sub hl [1, 3, 0] rfl) hf
  unfold ff_X10_begin at hf
  refine lv_aload_n hx hb dX10_begin_0 rfl (lv_at hl 0 rfl) ?_
  refine lv_iconst (v := 0) hx hb dX10_begin_1 (by decide) ?_
  refine va_put (D := D) (ci := 8) (v := .int (0 : Int32)) (ty := .int) (C := RX10) (T := TX10) (N := 11) hx hb hUX10 (fun _ h9 => h9) tyX10 tyX10_ok nmX10 hown hK hP hD hS 0 rfl rfl 10 (by decide) (hts (Cond.fieldLink RX10 33 "ReliefBuilder$Tokens" "code" "I") (List.mem_of_getElem? (i := 1) rfl)) (fun _ h9 => h9) rfl (tyX10_ok 10 (by decide)) rfl rfl (Nat.le_of_ble_eq_true rfl) dX10_begin_2 (fun H locs hP hD hS => ?_)
  have hP : va_P D vwCl (ce_X10 kA q_this (ss_I o_this 10 (0 : Int32))) H := hP
  have hD : va_D A (ce_X10 kA q_this (ss_I o_this 10 (0 : Int32))) := hD
  refine lv_aload_n hx hb dX10_begin_5 rfl (lv_at hl 0 rfl) ?_
  refine lv_iconst (v := 0) hx hb dX10_begin_6 (by decide) ?_
  refine va_put (D := D) (ci := 8) (v := .int (0 : Int32)) (ty := .int) (C := RX10) (T := TX10) (N := 11) hx hb hUX10 (fun _ h9 => h9) tyX10 tyX10_ok nmX10 hown hK hP hD hS 0 rfl rfl 5 (by decide) (hts (Cond.fieldLink RX10 36 "ReliefBuilder$Tokens" "count" "I") (List.mem_of_getElem? (i := 2) rfl)) (fun _ h9 => h9) rfl (tyX10_ok 5 (by decide)) rfl rfl (Nat.le_of_ble_eq_true rfl) dX10_begin_7 (fun H locs hP hD hS => ?_)
  have hP : va_P D vwCl (ce_X10 kA q_this (ss_I (ss_I o_this 5 (0 : Int32)) 10 (0 : Int32))) H := hP
  have hD : va_D A (ce_X10 kA q_this (ss_I (ss_I o_this 5 (0 : Int32)) 10 (0 : Int32))) := hD
  refine lv_iconst (v := 4) hx hb dX10_begin_10 (by decide) ?_
  refine lv_istore_n (lv' := [(1, .int (4 : Int32)), (0, .ref (q_this 0))]) hx hb dX10_begin_11 rfl hl (by decide) rfl (fun ls hl => ?_)
  refine lv_iconst (v := 0) hx hb dX10_begin_12 (by decide) ?_
  refine lv_istore_n (lv' := [(2, .int (0 : Int32)), (1, .int (4 : Int32)), (0, .ref (q_this 0))]) hx hb dX10_begin_13 rfl hl (by decide) rfl (fun ls hl => ?_)
  exact hL14 N (ss_I (ss_I o_this 5 (0 : Int32)) 10 (0 : Int32)) (4 : Int32) (0 : Int32) _ _ _ hP hD hS (lv_sub hl [2, 1, 0] rfl) hf
def ff_X10_isAtEnd (N : Nat) (o_this : os_T) : Option Int32 :=
  (if (os_I o_this 7) = 0 then some (1 : Int32) else some (0 : Int32))
set_option maxHeartbeats 4000000 in
set_option maxRecDepth 100000 in
theorem mm_X10_isAtEnd (l : Launch) (D : va_G) (kA : Nat → ClassId) (N : Nat) (q_this : Nat → Nat) (o_this : os_T) (out : Int32) (hf : ff_X10_isAtEnd N o_this = some out) : mc_C l D kA yX10_isAtEnd wsX10_isAtEnd ({ frames := 0, cells := 0, slots := 0, locals := 0 } : Room) [.ref (q_this 0)] (ce_X10 kA q_this o_this) (some (.int out)) (ce_X10 kA q_this o_this) := by
  refine mc_of (cc := cX10_isAtEnd) (maxL := 1) (ret := (some .boolean)) (by decide) rfl (Nat.le_of_ble_eq_true rfl) ?_
  intro p e s m below meth c A B hD hP hS ls hl
  obtain ⟨hx, hb, hr, hlk, hml, hown, hts, hK, hA, hnm⟩ := B
  have hown : s.vm.findClass RX10 = some m.cls := hown
  have hl : lv_has ls 1 [(0, .ref (q_this 0))] := hl
  have hUX10 : ∀ w ∈ u_ws RX10 TX10 11, w.before [.ref (q_this 0)].toArray s = true := fun w h => hts w (List.mem_cons_of_mem _ (List.mem_append_right _ h))
  unfold ff_X10_isAtEnd at hf
  refine lv_aload_n hx hb dX10_isAtEnd_0 rfl (lv_at hl 0 rfl) ?_
  refine va_get (D := D) (ci := 8) (v := .int (os_I o_this 7)) (C := RX10) (T := TX10) (N := 11) hx hb hUX10 (fun _ h9 => h9) hown hK hP 0 rfl rfl 7 (by decide) (hts (Cond.fieldLink RX10 65 "ReliefBuilder$Tokens" "kind" "I") (List.mem_of_getElem? (i := 1) rfl)) (fun _ h9 => h9) rfl dX10_isAtEnd_1 ?_
  refine lv_if_ne (tgt := 11) hx hb dX10_isAtEnd_4 (by decide) (fun hc_1 => ?_) (fun hc_1 => ?_)
  · rw [if_neg hc_1] at hf
    refine lv_iconst (v := 0) hx hb dX10_isAtEnd_11 (by decide) ?_
    rw [← Option.some.inj hf]
    exact mc_retz (v := 0) hx hb hr rfl hlk hP hK hD hS dX10_isAtEnd_12
  · rw [if_pos hc_1] at hf
    refine lv_iconst (v := 1) hx hb dX10_isAtEnd_7 (by decide) ?_
    refine lv_goto (tgt := 12) hx hb dX10_isAtEnd_8 (by decide) ?_
    rw [← Option.some.inj hf]
    exact mc_retz (v := 1) hx hb hr rfl hlk hP hK hD hS dX10_isAtEnd_12
def ff_X10_isWord_c23 (N : Nat) (o_this : os_T) (k23 : (Nat × Int32) → Option (Nat × Int32)) (x1 : Nat) (x2 : Int32) : Option (Nat × Int32) :=
  (if x1 < 18 then ((ff_J0_length_8abf5 N x1).bind fun u_6 => (if u_6.1 = 0 then (if u_6.2 ≤ x2 then some (0, (1 : Int32)) else ((ff_X10_byteAt N o_this ((os_I o_this 8) + x2)).bind fun u_10 => (if x1 < 18 then ((ff_J0_charAt_5068e N x1 x2).bind fun u_12 => (if u_12.1 = 0 then (if u_10 = u_12.2 then k23 (x1, x2 + 1) else some (0, (0 : Int32))) else some (u_12.1, (0 : Int32)))) else none))) else some (u_6.1, (0 : Int32)))) else none)
def ff_X10_isWord_l23 (N : Nat) (o_this : os_T) : Nat → (Nat × Int32) → Option (Nat × Int32) := os_loop (fun k23 s1 => ff_X10_isWord_c23 N o_this k23 s1.1 s1.2)
def ff_X10_isWord (N : Nat) (o_this : os_T) (a1 : Nat) : Option (Nat × Int32) :=
  (if (os_I o_this 7) = (1 : Int32) then (if a1 < 18 then ((ff_J0_length_8abf5 N a1).bind fun u_2 => (if u_2.1 = 0 then (if (os_I o_this 9) = u_2.2 then ff_X10_isWord_l23 N o_this N (a1, (0 : Int32)) else some (0, (0 : Int32))) else some (u_2.1, (0 : Int32)))) else none) else some (0, (0 : Int32)))
set_option maxHeartbeats 4000000 in
set_option maxRecDepth 100000 in
theorem mm_X10_isWord (l : Launch) (hst : l.stackTraces = false) (zz : Nat → Nat → Nat) (D : va_G) (kA : Nat → ClassId) (N : Nat) (q_this : Nat → Nat) (o_this : os_T) (a1 : Nat) (out : (Nat × Int32)) (hf : ff_X10_isWord N o_this a1 = some out) : mx_C l zz D kA yX10_isWord wsX10_isWord ({ frames := 4, cells := 0, slots := 0, locals := 85 } : Room) [.ref (q_this 0), .ref (zz 0 a1)] (ce_X10 kA q_this o_this) out.1 (some (.int out.2)) (ce_X10 kA q_this o_this) := by
  refine mx_of (cc := cX10_isWord) (maxL := 3) (ret := (some .boolean)) (by decide) rfl (Nat.le_of_ble_eq_true rfl) ?_
  intro p e s m below meth c A B hx0 hZ hD hP hS ls hl
  obtain ⟨hx, hb, hr, hlk, hml, hown, hts, hK, hA, hnm⟩ := B
  have hown : s.vm.findClass RX10 = some m.cls := hown
  have hl : lv_has ls 3 [(0, .ref (q_this 0)), (1, .ref (zz 0 a1))] := hl
  have hUX10 : ∀ w ∈ u_ws RX10 TX10 11, w.before [.ref (q_this 0), .ref (zz 0 a1)].toArray s = true := fun w h => hts w (List.mem_cons_of_mem _ (List.mem_append_left _ (List.mem_append_right _ h)))
  have hL23 : ∀ (n : Nat) (x1 : Nat) (x2 : Int32) (H : Heap) (locs : List Loc) (ls : Array Slot), va_P D vwCl (ce_X10 kA q_this o_this) H → va_D A (ce_X10 kA q_this o_this) → va_S A s.heap H locs → lv_has ls 3 [(0, .ref (q_this 0)), (1, .ref (zz 0 x1)), (2, .int x2)] → ff_X10_isWord_l23 N o_this n (x1, x2) = some out → W p l e ({ frames := 4, cells := 0, slots := 0, locals := 85 } : Room) s m [.ref (q_this 0), .ref (zz 0 a1)].toArray below meth c H locs 0 0 (vx_MQ below (mx_Q D kA A out.1 (some (.int out.2)) (ce_X10 kA q_this o_this)) (mx_X D kA A out.1 (ce_X10 kA q_this o_this)) [.ref (q_this 0), .ref (zz 0 a1)].toArray s 0 0 A) (F0 m 23 ls []) := by
    intro n
    induction n with
    | zero => intro x1 x2 H locs ls _ _ _ _ hf; cases hf
    | succ n hk23 =>
      intro x1 x2 H locs ls hP hD hS hl hf
      have hf : ff_X10_isWord_c23 N o_this (ff_X10_isWord_l23 N o_this n) x1 x2 = some out := hf
      generalize hke : ff_X10_isWord_l23 N o_this n = k23 at hk23 hf
      unfold ff_X10_isWord_c23 at hf
      refine lv_iload_n hx hb dX10_isWord_23 rfl (lv_at hl 2 rfl) ?_
      refine lv_aload_n hx hb dX10_isWord_24 rfl (lv_at hl 1 rfl) ?_
      obtain ⟨hk_8, hf⟩ := os_if hf
      obtain ⟨u_6, he_7, hf⟩ := os_bd hf
      refine mx_callR ⟨hx, hb, hml, hown, hts⟩ (mm_J0_length_8abf5 l hst zz D kA N x1 u_6 he_7) (cwV 0 hts gX10_isWord_J0_length_8abf5 rfl rfl rfl (by decide +kernel) ⟨Nat.le_of_ble_eq_true rfl, Nat.le_of_ble_eq_true rfl⟩) (vs_recv hZ.2.2.2.1 hk_8 hS) (wc := []) rfl hl.1 (As := []) (rest := [.int x2]) rfl (Nat.le_of_ble_eq_true rfl) dX10_isWord_25 ⟨Nat.le_of_ble_eq_true rfl, Nat.le_of_ble_eq_true rfl⟩ hK hP hD hS hA hZ [] [0, 1, 2, 3, 4] [0, 1, 2, 3, 4] rfl (by decide) rfl (by decide) (by decide) rfl (by decide) (wr := (ce_X10 kA q_this o_this)) (w2 := (ce_X10 kA q_this o_this)) (fun hx9 H locs q9 ce hP hD hS h91 h92 h93 => ?_) (fun hx9 H locs hP hD hS => ?_)
      · rw [if_neg hx9] at hf
        rw [← Option.some.inj hf]
        exact mx_out hx9 hx0 hlk hP hK hD hS h91 h92 h93 (Nat.le_of_ble_eq_true rfl) (Nat.le_of_ble_eq_true rfl)
      · rw [if_pos hx9] at hf
        refine W.widen (k := 0) (n := 0) (Nat.le_of_ble_eq_true rfl) (Nat.le_of_ble_eq_true rfl) ?_
        have hP : va_P D vwCl (ce_X10 kA q_this o_this) H := hP
        refine lv_icmp_ge (tgt := 57) hx hb dX10_isWord_28 (by decide) (fun hc_9 => ?_) (fun hc_9 => ?_)
        · rw [if_pos hc_9] at hf
          refine lv_iconst (v := 1) hx hb dX10_isWord_57 (by decide) ?_
          rw [← Option.some.inj hf]
          exact mx_retz (v := 1) (Nat.le_of_ble_eq_true rfl) (Nat.le_of_ble_eq_true rfl) hx hb hr rfl hlk hP hK hD hS dX10_isWord_58
        · rw [if_neg hc_9] at hf
          refine lv_aload_n hx hb dX10_isWord_31 rfl (lv_at hl 0 rfl) ?_
          refine lv_aload_n hx hb dX10_isWord_32 rfl (lv_at hl 0 rfl) ?_
          refine va_get (D := D) (ci := 8) (v := .int (os_I o_this 8)) (C := RX10) (T := TX10) (N := 11) hx hb hUX10 (fun _ h9 => h9) hown hK hP 0 rfl rfl 8 (by decide) (hts (Cond.fieldLink RX10 59 "ReliefBuilder$Tokens" "start" "I") (List.mem_of_getElem? (i := 3) rfl)) (fun _ h9 => h9) rfl dX10_isWord_33 ?_
          refine lv_iload_n hx hb dX10_isWord_36 rfl (lv_at hl 2 rfl) ?_
          refine lv_iadd hx hb dX10_isWord_37 ?_
          obtain ⟨u_10, he_11, hf⟩ := os_bd hf
          refine mc_callV ⟨hx, hb, hml, hown, hts⟩ (mm_X10_byteAt l D kA N q_this o_this ((os_I o_this 8) + x2) u_10 he_11) (cwV 1 hts gX10_isWord_X10_byteAt rfl rfl rfl (by decide +kernel) ⟨Nat.le_of_ble_eq_true rfl, Nat.le_of_ble_eq_true rfl⟩) (wc := (ce_X10 kA q_this o_this)) (ci := 8) (q0 := 0) rfl rfl rfl hl.1 (As := [.int ((os_I o_this 8) + x2)]) (rest := []) rfl (Nat.le_of_ble_eq_true rfl) dX10_isWord_38 ⟨Nat.le_of_ble_eq_true rfl, Nat.le_of_ble_eq_true rfl⟩ hK hP hD hS hA [0, 1, 2, 3, 4] [] [0, 1, 2, 3, 4] rfl (by decide) rfl (by decide) (by decide) rfl (by decide) (wr := []) (w2 := (ce_X10 kA q_this o_this)) (fun H locs hP hD hS => ?_)
          have hP : va_P D vwCl (ce_X10 kA q_this o_this) H := hP
          refine lv_aload_n hx hb dX10_isWord_41 rfl (lv_at hl 1 rfl) ?_
          refine lv_iload_n hx hb dX10_isWord_42 rfl (lv_at hl 2 rfl) ?_
          obtain ⟨hk_14, hf⟩ := os_if hf
          obtain ⟨u_12, he_13, hf⟩ := os_bd hf
          refine mx_callR ⟨hx, hb, hml, hown, hts⟩ (mm_J0_charAt_5068e l hst zz D kA N x1 x2 u_12 he_13) (cwV 1 hts gX10_isWord_J0_charAt_5068e rfl rfl rfl (by decide +kernel) ⟨Nat.le_of_ble_eq_true rfl, Nat.le_of_ble_eq_true rfl⟩) (vs_recv hZ.2.2.2.1 hk_14 hS) (wc := []) rfl hl.1 (As := [.int x2]) (rest := [.int u_10]) rfl (Nat.le_of_ble_eq_true rfl) dX10_isWord_43 ⟨Nat.le_of_ble_eq_true rfl, Nat.le_of_ble_eq_true rfl⟩ hK hP hD hS hA hZ [] [0, 1, 2, 3, 4] [0, 1, 2, 3, 4] rfl (by decide) rfl (by decide) (by decide) rfl (by decide) (wr := (ce_X10 kA q_this o_this)) (w2 := (ce_X10 kA q_this o_this)) (fun hx9 H locs q9 ce hP hD hS h91 h92 h93 => ?_) (fun hx9 H locs hP hD hS => ?_)
          · rw [if_neg hx9] at hf
            rw [← Option.some.inj hf]
            exact mx_out hx9 hx0 hlk hP hK hD hS h91 h92 h93 (Nat.le_of_ble_eq_true rfl) (Nat.le_of_ble_eq_true rfl)
          · rw [if_pos hx9] at hf
            refine W.widen (k := 0) (n := 0) (Nat.le_of_ble_eq_true rfl) (Nat.le_of_ble_eq_true rfl) ?_
            have hP : va_P D vwCl (ce_X10 kA q_this o_this) H := hP
            refine lv_icmp_eq (tgt := 51) hx hb dX10_isWord_46 (by decide) (fun hc_15 => ?_) (fun hc_15 => ?_)
            · rw [if_pos hc_15] at hf
              refine lv_iinc (v := x2 + 1) (lv' := [(2, .int (x2 + 1)), (0, .ref (q_this 0)), (1, .ref (zz 0 x1))]) hx hb dX10_isWord_51 hl (k := 2) rfl rfl (by decide) rfl (fun ls hl => ?_)
              refine lv_goto (tgt := 23) hx hb dX10_isWord_54 (by decide) ?_
              exact hk23 x1 (x2 + 1) _ _ _ hP hD hS (lv_sub hl [1, 2, 0] rfl) hf
            · rw [if_neg hc_15] at hf
              refine lv_iconst (v := 0) hx hb dX10_isWord_49 (by decide) ?_
              rw [← Option.some.inj hf]
              exact mx_retz (v := 0) (Nat.le_of_ble_eq_true rfl) (Nat.le_of_ble_eq_true rfl) hx hb hr rfl hlk hP hK hD hS dX10_isWord_50
  unfold ff_X10_isWord at hf
  refine lv_aload_n hx hb dX10_isWord_0 rfl (lv_at hl 0 rfl) ?_
  refine va_get (D := D) (ci := 8) (v := .int (os_I o_this 7)) (C := RX10) (T := TX10) (N := 11) hx hb hUX10 (fun _ h9 => h9) hown hK hP 0 rfl rfl 7 (by decide) (hts (Cond.fieldLink RX10 65 "ReliefBuilder$Tokens" "kind" "I") (List.mem_of_getElem? (i := 1) rfl)) (fun _ h9 => h9) rfl dX10_isWord_1 ?_
  refine lv_iconst (v := 1) hx hb dX10_isWord_4 (by decide) ?_
  refine lv_icmp_ne (tgt := 19) hx hb dX10_isWord_5 (by decide) (fun hc_1 => ?_) (fun hc_1 => ?_)
  · rw [if_neg hc_1] at hf
    refine lv_iconst (v := 0) hx hb dX10_isWord_19 (by decide) ?_
    rw [← Option.some.inj hf]
    exact mx_retz (v := 0) (Nat.le_of_ble_eq_true rfl) (Nat.le_of_ble_eq_true rfl) hx hb hr rfl hlk hP hK hD hS dX10_isWord_20
  · rw [if_pos hc_1] at hf
    refine lv_aload_n hx hb dX10_isWord_8 rfl (lv_at hl 0 rfl) ?_
    refine va_get (D := D) (ci := 8) (v := .int (os_I o_this 9)) (C := RX10) (T := TX10) (N := 11) hx hb hUX10 (fun _ h9 => h9) hown hK hP 0 rfl rfl 9 (by decide) (hts (Cond.fieldLink RX10 62 "ReliefBuilder$Tokens" "size" "I") (List.mem_of_getElem? (i := 2) rfl)) (fun _ h9 => h9) rfl dX10_isWord_9 ?_
    refine lv_aload_n hx hb dX10_isWord_12 rfl (lv_at hl 1 rfl) ?_
    obtain ⟨hk_4, hf⟩ := os_if hf
    obtain ⟨u_2, he_3, hf⟩ := os_bd hf
    refine mx_callR ⟨hx, hb, hml, hown, hts⟩ (mm_J0_length_8abf5 l hst zz D kA N a1 u_2 he_3) (cwV 0 hts gX10_isWord_J0_length_8abf5 rfl rfl rfl (by decide +kernel) ⟨Nat.le_of_ble_eq_true rfl, Nat.le_of_ble_eq_true rfl⟩) (vs_recv hZ.2.2.2.1 hk_4 hS) (wc := []) rfl hl.1 (As := []) (rest := [.int (os_I o_this 9)]) rfl (Nat.le_of_ble_eq_true rfl) dX10_isWord_13 ⟨Nat.le_of_ble_eq_true rfl, Nat.le_of_ble_eq_true rfl⟩ hK hP hD hS hA hZ [] [0, 1, 2, 3, 4] [0, 1, 2, 3, 4] rfl (by decide) rfl (by decide) (by decide) rfl (by decide) (wr := (ce_X10 kA q_this o_this)) (w2 := (ce_X10 kA q_this o_this)) (fun hx9 H locs q9 ce hP hD hS h91 h92 h93 => ?_) (fun hx9 H locs hP hD hS => ?_)
    · rw [if_neg hx9] at hf
      rw [← Option.some.inj hf]
      exact mx_out hx9 hx0 hlk hP hK hD hS h91 h92 h93 (Nat.le_of_ble_eq_true rfl) (Nat.le_of_ble_eq_true rfl)
    · rw [if_pos hx9] at hf
      refine W.widen (k := 0) (n := 0) (Nat.le_of_ble_eq_true rfl) (Nat.le_of_ble_eq_true rfl) ?_
      have hP : va_P D vwCl (ce_X10 kA q_this o_this) H := hP
      refine lv_icmp_eq (tgt := 21) hx hb dX10_isWord_16 (by decide) (fun hc_5 => ?_) (fun hc_5 => ?_)
      · rw [if_pos hc_5] at hf
        refine lv_iconst (v := 0) hx hb dX10_isWord_21 (by decide) ?_
        refine lv_istore_n (lv' := [(2, .int (0 : Int32)), (0, .ref (q_this 0)), (1, .ref (zz 0 a1))]) hx hb dX10_isWord_22 rfl hl (by decide) rfl (fun ls hl => ?_)
        exact hL23 N a1 (0 : Int32) _ _ _ hP hD hS (lv_sub hl [1, 2, 0] rfl) hf
      · rw [if_neg hc_5] at hf
        refine lv_iconst (v := 0) hx hb dX10_isWord_19 (by decide) ?_
        rw [← Option.some.inj hf]
        exact mx_retz (v := 0) (Nat.le_of_ble_eq_true rfl) (Nat.le_of_ble_eq_true rfl) hx hb hr rfl hlk hP hK hD hS dX10_isWord_20
def ff_X10_isSign (N : Nat) (o_this : os_T) (a1 : Int32) : Option Int32 :=
  (if (os_I o_this 7) = (3 : Int32) then ((ff_X10_byteAt N o_this (os_I o_this 8)).bind fun u_2 => (if u_2 = a1 then some (1 : Int32) else some (0 : Int32))) else some (0 : Int32))
set_option maxHeartbeats 4000000 in
set_option maxRecDepth 100000 in
theorem mm_X10_isSign (l : Launch) (D : va_G) (kA : Nat → ClassId) (N : Nat) (q_this : Nat → Nat) (o_this : os_T) (a1 : Int32) (out : Int32) (hf : ff_X10_isSign N o_this a1 = some out) : mc_C l D kA yX10_isSign wsX10_isSign ({ frames := 1, cells := 0, slots := 0, locals := 21 } : Room) [.ref (q_this 0), .int a1] (ce_X10 kA q_this o_this) (some (.int out)) (ce_X10 kA q_this o_this) := by
  refine mc_of (cc := cX10_isSign) (maxL := 2) (ret := (some .boolean)) (by decide) rfl (Nat.le_of_ble_eq_true rfl) ?_
  intro p e s m below meth c A B hD hP hS ls hl
  obtain ⟨hx, hb, hr, hlk, hml, hown, hts, hK, hA, hnm⟩ := B
  have hown : s.vm.findClass RX10 = some m.cls := hown
  have hl : lv_has ls 2 [(0, .ref (q_this 0)), (1, .int a1)] := hl
  have hUX10 : ∀ w ∈ u_ws RX10 TX10 11, w.before [.ref (q_this 0), .int a1].toArray s = true := fun w h => hts w (List.mem_cons_of_mem _ (List.mem_append_right _ h))
  unfold ff_X10_isSign at hf
  refine lv_aload_n hx hb dX10_isSign_0 rfl (lv_at hl 0 rfl) ?_
  refine va_get (D := D) (ci := 8) (v := .int (os_I o_this 7)) (C := RX10) (T := TX10) (N := 11) hx hb hUX10 (fun _ h9 => h9) hown hK hP 0 rfl rfl 7 (by decide) (hts (Cond.fieldLink RX10 65 "ReliefBuilder$Tokens" "kind" "I") (List.mem_of_getElem? (i := 1) rfl)) (fun _ h9 => h9) rfl dX10_isSign_1 ?_
  refine lv_iconst (v := 3) hx hb dX10_isSign_4 (by decide) ?_
  refine lv_icmp_ne (tgt := 24) hx hb dX10_isSign_5 (by decide) (fun hc_1 => ?_) (fun hc_1 => ?_)
  · rw [if_neg hc_1] at hf
    refine lv_iconst (v := 0) hx hb dX10_isSign_24 (by decide) ?_
    rw [← Option.some.inj hf]
    exact mc_retz (v := 0) hx hb hr rfl hlk hP hK hD hS dX10_isSign_25
  · rw [if_pos hc_1] at hf
    refine lv_aload_n hx hb dX10_isSign_8 rfl (lv_at hl 0 rfl) ?_
    refine lv_aload_n hx hb dX10_isSign_9 rfl (lv_at hl 0 rfl) ?_
    refine va_get (D := D) (ci := 8) (v := .int (os_I o_this 8)) (C := RX10) (T := TX10) (N := 11) hx hb hUX10 (fun _ h9 => h9) hown hK hP 0 rfl rfl 8 (by decide) (hts (Cond.fieldLink RX10 59 "ReliefBuilder$Tokens" "start" "I") (List.mem_of_getElem? (i := 2) rfl)) (fun _ h9 => h9) rfl dX10_isSign_10 ?_
    obtain ⟨u_2, he_3, hf⟩ := os_bd hf
    refine mc_callV ⟨hx, hb, hml, hown, hts⟩ (mm_X10_byteAt l D kA N q_this o_this (os_I o_this 8) u_2 he_3) (cwV 1 hts gX10_isSign_X10_byteAt rfl rfl rfl (by decide +kernel) ⟨Nat.le_of_ble_eq_true rfl, Nat.le_of_ble_eq_true rfl⟩) (wc := (ce_X10 kA q_this o_this)) (ci := 8) (q0 := 0) rfl rfl rfl hl.1 (As := [.int (os_I o_this 8)]) (rest := []) rfl (Nat.le_of_ble_eq_true rfl) dX10_isSign_13 ⟨Nat.le_of_ble_eq_true rfl, Nat.le_of_ble_eq_true rfl⟩ hK hP hD hS hA [0, 1, 2, 3, 4] [] [0, 1, 2, 3, 4] rfl (by decide) rfl (by decide) (by decide) rfl (by decide) (wr := []) (w2 := (ce_X10 kA q_this o_this)) (fun H locs hP hD hS => ?_)
    have hP : va_P D vwCl (ce_X10 kA q_this o_this) H := hP
    refine lv_iload_n hx hb dX10_isSign_16 rfl (lv_at hl 1 rfl) ?_
    refine lv_icmp_ne (tgt := 24) hx hb dX10_isSign_17 (by decide) (fun hc_4 => ?_) (fun hc_4 => ?_)
    · rw [if_neg hc_4] at hf
      refine lv_iconst (v := 0) hx hb dX10_isSign_24 (by decide) ?_
      rw [← Option.some.inj hf]
      exact mc_retz (v := 0) hx hb hr rfl hlk hP hK hD hS dX10_isSign_25
    · rw [if_pos hc_4] at hf
      refine lv_iconst (v := 1) hx hb dX10_isSign_20 (by decide) ?_
      refine lv_goto (tgt := 25) hx hb dX10_isSign_21 (by decide) ?_
      rw [← Option.some.inj hf]
      exact mc_retz (v := 1) hx hb hr rfl hlk hP hK hD hS dX10_isSign_25
def ff_X10_fail (N : Nat) (o_this : os_T) (a1 : Int32) : Option (Int32 × os_T) :=
  some ((0 : Int32), ss_I o_this 10 a1)
set_option maxHeartbeats 4000000 in
set_option maxRecDepth 100000 in
theorem mm_X10_fail (l : Launch) (D : va_G) (kA : Nat → ClassId) (N : Nat) (q_this : Nat → Nat) (o_this : os_T) (a1 : Int32) (out : (Int32 × os_T)) (hf : ff_X10_fail N o_this a1 = some out) : mc_C l D kA yX10_fail wsX10_fail ({ frames := 0, cells := 0, slots := 0, locals := 0 } : Room) [.ref (q_this 0), .int a1] (ce_X10 kA q_this o_this) (some (.int out.1)) (ce_X10 kA q_this out.2) := by
  refine mc_of (cc := cX10_fail) (maxL := 2) (ret := (some .boolean)) (by decide) rfl (Nat.le_of_ble_eq_true rfl) ?_
  intro p e s m below meth c A B hD hP hS ls hl
  obtain ⟨hx, hb, hr, hlk, hml, hown, hts, hK, hA, hnm⟩ := B
  have hown : s.vm.findClass RX10 = some m.cls := hown
  have hl : lv_has ls 2 [(0, .ref (q_this 0)), (1, .int a1)] := hl
  have hUX10 : ∀ w ∈ u_ws RX10 TX10 11, w.before [.ref (q_this 0), .int a1].toArray s = true := fun w h => hts w (List.mem_cons_of_mem _ (List.mem_append_right _ h))
  unfold ff_X10_fail at hf
  refine lv_aload_n hx hb dX10_fail_0 rfl (lv_at hl 0 rfl) ?_
  refine lv_iload_n hx hb dX10_fail_1 rfl (lv_at hl 1 rfl) ?_
  refine va_put (D := D) (ci := 8) (v := .int a1) (ty := .int) (C := RX10) (T := TX10) (N := 11) hx hb hUX10 (fun _ h9 => h9) tyX10 tyX10_ok nmX10 hown hK hP hD hS 0 rfl rfl 10 (by decide) (hts (Cond.fieldLink RX10 33 "ReliefBuilder$Tokens" "code" "I") (List.mem_of_getElem? (i := 1) rfl)) (fun _ h9 => h9) rfl (tyX10_ok 10 (by decide)) rfl rfl (Nat.le_of_ble_eq_true rfl) dX10_fail_2 (fun H locs hP hD hS => ?_)
  have hP : va_P D vwCl (ce_X10 kA q_this (ss_I o_this 10 a1)) H := hP
  have hD : va_D A (ce_X10 kA q_this (ss_I o_this 10 a1)) := hD
  refine lv_iconst (v := 0) hx hb dX10_fail_5 (by decide) ?_
  rw [← Option.some.inj hf]
  exact mc_retz (v := 0) hx hb hr rfl hlk hP hK hD hS dX10_fail_6
def ff_X10_takeWord (N : Nat) (o_this : os_T) (a1 : Nat) : Option (Nat × Int32 × os_T) :=
  ((ff_X10_isWord N o_this a1).bind fun u_1 => (if u_1.1 = 0 then (if u_1.2 = 0 then ((ff_X10_fail N o_this (1 : Int32)).bind fun u_6 => (if os_z u_6.1 then some (0, u_6.1, u_6.2) else none)) else ((ff_X10_advance N o_this).bind fun u_4 => some (0, (1 : Int32), u_4))) else some (u_1.1, (0 : Int32), o_this)))
set_option maxHeartbeats 4000000 in
set_option maxRecDepth 100000 in
theorem mm_X10_takeWord (l : Launch) (hst : l.stackTraces = false) (zz : Nat → Nat → Nat) (D : va_G) (kA : Nat → ClassId) (N : Nat) (q_this : Nat → Nat) (o_this : os_T) (a1 : Nat) (out : (Nat × Int32 × os_T)) (hf : ff_X10_takeWord N o_this a1 = some out) : mx_C l zz D kA yX10_takeWord wsX10_takeWord ({ frames := 5, cells := 0, slots := 0, locals := 107 } : Room) [.ref (q_this 0), .ref (zz 0 a1)] (ce_X10 kA q_this o_this) out.1 (some (.int out.2.1)) (ce_X10 kA q_this out.2.2) := by
  refine mx_of (cc := cX10_takeWord) (maxL := 2) (ret := (some .boolean)) (by decide) rfl (Nat.le_of_ble_eq_true rfl) ?_
  intro p e s m below meth c A B hx0 hZ hD hP hS ls hl
  obtain ⟨hx, hb, hr, hlk, hml, hown, hts, hK, hA, hnm⟩ := B
  have hown : s.vm.findClass RX10 = some m.cls := hown
  have hl : lv_has ls 2 [(0, .ref (q_this 0)), (1, .ref (zz 0 a1))] := hl
  unfold ff_X10_takeWord at hf
  refine lv_aload_n hx hb dX10_takeWord_0 rfl (lv_at hl 0 rfl) ?_
  refine lv_aload_n hx hb dX10_takeWord_1 rfl (lv_at hl 1 rfl) ?_
  obtain ⟨u_1, he_2, hf⟩ := os_bd hf
  refine mx_callV ⟨hx, hb, hml, hown, hts⟩ (mm_X10_isWord l hst zz D kA N q_this o_this a1 u_1 he_2) (cwV 1 hts gX10_takeWord_X10_isWord rfl rfl rfl (by decide +kernel) ⟨Nat.le_of_ble_eq_true rfl, Nat.le_of_ble_eq_true rfl⟩) (wc := (ce_X10 kA q_this o_this)) (ci := 8) (q0 := 0) rfl rfl rfl hl.1 (As := [.ref (zz 0 a1)]) (rest := []) rfl (Nat.le_of_ble_eq_true rfl) dX10_takeWord_2 ⟨Nat.le_of_ble_eq_true rfl, Nat.le_of_ble_eq_true rfl⟩ hK hP hD hS hA hZ [0, 1, 2, 3, 4] [] [0, 1, 2, 3, 4] rfl (by decide) rfl (by decide) (by decide) rfl (by decide) (wr := []) (w2 := (ce_X10 kA q_this o_this)) (fun hx9 H locs q9 ce hP hD hS h91 h92 h93 => ?_) (fun hx9 H locs hP hD hS => ?_)
  · rw [if_neg hx9] at hf
    rw [← Option.some.inj hf]
    exact mx_out hx9 hx0 hlk hP hK hD hS h91 h92 h93 (Nat.le_of_ble_eq_true rfl) (Nat.le_of_ble_eq_true rfl)
  · rw [if_pos hx9] at hf
    refine W.widen (k := 0) (n := 0) (Nat.le_of_ble_eq_true rfl) (Nat.le_of_ble_eq_true rfl) ?_
    have hP : va_P D vwCl (ce_X10 kA q_this o_this) H := hP
    refine lv_if_ne (tgt := 14) hx hb dX10_takeWord_5 (by decide) (fun hc_3 => ?_) (fun hc_3 => ?_)
    · rw [if_neg hc_3] at hf
      refine lv_aload_n hx hb dX10_takeWord_14 rfl (lv_at hl 0 rfl) ?_
      obtain ⟨u_4, he_5, hf⟩ := os_bd hf
      refine mc_callV ⟨hx, hb, hml, hown, hts⟩ (mm_X10_advance l D kA N q_this o_this u_4 he_5) (cwV 0 hts gX10_takeWord_X10_advance rfl rfl rfl (by decide +kernel) ⟨Nat.le_of_ble_eq_true rfl, Nat.le_of_ble_eq_true rfl⟩) (wc := (ce_X10 kA q_this o_this)) (ci := 8) (q0 := 0) rfl rfl rfl hl.1 (As := []) (rest := []) rfl (Nat.le_of_ble_eq_true rfl) dX10_takeWord_15 ⟨Nat.le_of_ble_eq_true rfl, Nat.le_of_ble_eq_true rfl⟩ hK hP hD hS hA [0, 1, 2, 3, 4] [] [0, 1, 2, 3, 4] rfl (by decide) rfl (by decide) (by decide) rfl (by decide) (wr := []) (w2 := (ce_X10 kA q_this u_4)) (fun H locs hP hD hS => ?_)
      have hP : va_P D vwCl (ce_X10 kA q_this u_4) H := hP
      refine lv_iconst (v := 1) hx hb dX10_takeWord_18 (by decide) ?_
      rw [← Option.some.inj hf]
      exact mx_retz (v := 1) (Nat.le_of_ble_eq_true rfl) (Nat.le_of_ble_eq_true rfl) hx hb hr rfl hlk hP hK hD hS dX10_takeWord_19
    · rw [if_pos hc_3] at hf
      refine lv_aload_n hx hb dX10_takeWord_8 rfl (lv_at hl 0 rfl) ?_
      refine lv_iconst (v := 1) hx hb dX10_takeWord_9 (by decide) ?_
      obtain ⟨u_6, he_7, hf⟩ := os_bd hf
      refine mc_callV ⟨hx, hb, hml, hown, hts⟩ (mm_X10_fail l D kA N q_this o_this (1 : Int32) u_6 he_7) (cwV 1 hts gX10_takeWord_X10_fail rfl rfl rfl (by decide +kernel) ⟨Nat.le_of_ble_eq_true rfl, Nat.le_of_ble_eq_true rfl⟩) (wc := (ce_X10 kA q_this o_this)) (ci := 8) (q0 := 0) rfl rfl rfl hl.1 (As := [.int (1 : Int32)]) (rest := []) rfl (Nat.le_of_ble_eq_true rfl) dX10_takeWord_10 ⟨Nat.le_of_ble_eq_true rfl, Nat.le_of_ble_eq_true rfl⟩ hK hP hD hS hA [0, 1, 2, 3, 4] [] [0, 1, 2, 3, 4] rfl (by decide) rfl (by decide) (by decide) rfl (by decide) (wr := []) (w2 := (ce_X10 kA q_this u_6.2)) (fun H locs hP hD hS => ?_)
      have hP : va_P D vwCl (ce_X10 kA q_this u_6.2) H := hP
      obtain ⟨hz_8, hf⟩ := os_if hf
      rw [← Option.some.inj hf]
      exact mx_retz (Nat.le_of_ble_eq_true rfl) (Nat.le_of_ble_eq_true rfl) hx hb hr (os_z_n hz_8) hlk hP hK hD hS dX10_takeWord_13
def ff_X10_takeSign (N : Nat) (o_this : os_T) (a1 : Int32) : Option (Int32 × os_T) :=
  ((ff_X10_isSign N o_this a1).bind fun u_1 => (if u_1 = 0 then ((ff_X10_fail N o_this (1 : Int32)).bind fun u_6 => (if os_z u_6.1 then some (u_6.1, u_6.2) else none)) else ((ff_X10_advance N o_this).bind fun u_4 => some ((1 : Int32), u_4))))
set_option maxHeartbeats 4000000 in
set_option maxRecDepth 100000 in
theorem mm_X10_takeSign (l : Launch) (D : va_G) (kA : Nat → ClassId) (N : Nat) (q_this : Nat → Nat) (o_this : os_T) (a1 : Int32) (out : (Int32 × os_T)) (hf : ff_X10_takeSign N o_this a1 = some out) : mc_C l D kA yX10_takeSign wsX10_takeSign ({ frames := 2, cells := 0, slots := 0, locals := 42 } : Room) [.ref (q_this 0), .int a1] (ce_X10 kA q_this o_this) (some (.int out.1)) (ce_X10 kA q_this out.2) := by
  refine mc_of (cc := cX10_takeSign) (maxL := 2) (ret := (some .boolean)) (by decide) rfl (Nat.le_of_ble_eq_true rfl) ?_
  intro p e s m below meth c A B hD hP hS ls hl
  obtain ⟨hx, hb, hr, hlk, hml, hown, hts, hK, hA, hnm⟩ := B
  have hown : s.vm.findClass RX10 = some m.cls := hown
  have hl : lv_has ls 2 [(0, .ref (q_this 0)), (1, .int a1)] := hl
  unfold ff_X10_takeSign at hf
  refine lv_aload_n hx hb dX10_takeSign_0 rfl (lv_at hl 0 rfl) ?_
  refine lv_iload_n hx hb dX10_takeSign_1 rfl (lv_at hl 1 rfl) ?_
  obtain ⟨u_1, he_2, hf⟩ := os_bd hf
  refine mc_callV ⟨hx, hb, hml, hown, hts⟩ (mm_X10_isSign l D kA N q_this o_this a1 u_1 he_2) (cwV 1 hts gX10_takeSign_X10_isSign rfl rfl rfl (by decide +kernel) ⟨Nat.le_of_ble_eq_true rfl, Nat.le_of_ble_eq_true rfl⟩) (wc := (ce_X10 kA q_this o_this)) (ci := 8) (q0 := 0) rfl rfl rfl hl.1 (As := [.int a1]) (rest := []) rfl (Nat.le_of_ble_eq_true rfl) dX10_takeSign_2 ⟨Nat.le_of_ble_eq_true rfl, Nat.le_of_ble_eq_true rfl⟩ hK hP hD hS hA [0, 1, 2, 3, 4] [] [0, 1, 2, 3, 4] rfl (by decide) rfl (by decide) (by decide) rfl (by decide) (wr := []) (w2 := (ce_X10 kA q_this o_this)) (fun H locs hP hD hS => ?_)
  have hP : va_P D vwCl (ce_X10 kA q_this o_this) H := hP
  refine lv_if_ne (tgt := 14) hx hb dX10_takeSign_5 (by decide) (fun hc_3 => ?_) (fun hc_3 => ?_)
  · rw [if_neg hc_3] at hf
    refine lv_aload_n hx hb dX10_takeSign_14 rfl (lv_at hl 0 rfl) ?_
    obtain ⟨u_4, he_5, hf⟩ := os_bd hf
    refine mc_callV ⟨hx, hb, hml, hown, hts⟩ (mm_X10_advance l D kA N q_this o_this u_4 he_5) (cwV 0 hts gX10_takeSign_X10_advance rfl rfl rfl (by decide +kernel) ⟨Nat.le_of_ble_eq_true rfl, Nat.le_of_ble_eq_true rfl⟩) (wc := (ce_X10 kA q_this o_this)) (ci := 8) (q0 := 0) rfl rfl rfl hl.1 (As := []) (rest := []) rfl (Nat.le_of_ble_eq_true rfl) dX10_takeSign_15 ⟨Nat.le_of_ble_eq_true rfl, Nat.le_of_ble_eq_true rfl⟩ hK hP hD hS hA [0, 1, 2, 3, 4] [] [0, 1, 2, 3, 4] rfl (by decide) rfl (by decide) (by decide) rfl (by decide) (wr := []) (w2 := (ce_X10 kA q_this u_4)) (fun H locs hP hD hS => ?_)
    have hP : va_P D vwCl (ce_X10 kA q_this u_4) H := hP
    refine lv_iconst (v := 1) hx hb dX10_takeSign_18 (by decide) ?_
    rw [← Option.some.inj hf]
    exact mc_retz (v := 1) hx hb hr rfl hlk hP hK hD hS dX10_takeSign_19
  · rw [if_pos hc_3] at hf
    refine lv_aload_n hx hb dX10_takeSign_8 rfl (lv_at hl 0 rfl) ?_
    refine lv_iconst (v := 1) hx hb dX10_takeSign_9 (by decide) ?_
    obtain ⟨u_6, he_7, hf⟩ := os_bd hf
    refine mc_callV ⟨hx, hb, hml, hown, hts⟩ (mm_X10_fail l D kA N q_this o_this (1 : Int32) u_6 he_7) (cwV 1 hts gX10_takeSign_X10_fail rfl rfl rfl (by decide +kernel) ⟨Nat.le_of_ble_eq_true rfl, Nat.le_of_ble_eq_true rfl⟩) (wc := (ce_X10 kA q_this o_this)) (ci := 8) (q0 := 0) rfl rfl rfl hl.1 (As := [.int (1 : Int32)]) (rest := []) rfl (Nat.le_of_ble_eq_true rfl) dX10_takeSign_10 ⟨Nat.le_of_ble_eq_true rfl, Nat.le_of_ble_eq_true rfl⟩ hK hP hD hS hA [0, 1, 2, 3, 4] [] [0, 1, 2, 3, 4] rfl (by decide) rfl (by decide) (by decide) rfl (by decide) (wr := []) (w2 := (ce_X10 kA q_this u_6.2)) (fun H locs hP hD hS => ?_)
    have hP : va_P D vwCl (ce_X10 kA q_this u_6.2) H := hP
    obtain ⟨hz_8, hf⟩ := os_if hf
    rw [← Option.some.inj hf]
    exact mc_retz hx hb hr (os_z_n hz_8) hlk hP hK hD hS dX10_takeSign_13
def ff_X10_takeNumber_b65 (N : Nat) (o_this : os_T) : Option (Int32 × os_T) :=
  some ((-1 : Int32), ss_I o_this 10 (2 : Int32))
def ff_X10_takeNumber_c20 (N : Nat) (k20 : (os_T × Int32 × Int32 × Int32 × Int32) → Option (Int32 × os_T)) (o_this : os_T) (x1 : Int32) (x2 : Int32) (x3 : Int32) (x4 : Int32) : Option (Int32 × os_T) :=
  (if (os_I o_this 9) ≤ x4 then (if x3 < x1 then ff_X10_takeNumber_b65 N o_this else (if x3 ≤ x2 then ((ff_X10_advance N o_this).bind fun u_5 => some (x3, u_5)) else ff_X10_takeNumber_b65 N o_this)) else ((ff_X10_byteAt N o_this ((os_I o_this 8) + x4)).bind fun u_7 => k20 (o_this, x1, x2, (x3 * (10 : Int32)) + (u_7 - (48 : Int32)), x4 + 1)))
def ff_X10_takeNumber_l20 (N : Nat) : Nat → (os_T × Int32 × Int32 × Int32 × Int32) → Option (Int32 × os_T) := os_loop (fun k20 s1 => ff_X10_takeNumber_c20 N k20 s1.1 s1.2.1 s1.2.2.1 s1.2.2.2.1 s1.2.2.2.2)
def ff_X10_takeNumber (N : Nat) (o_this : os_T) (a1 : Int32) (a2 : Int32) : Option (Int32 × os_T) :=
  (if (os_I o_this 7) = (2 : Int32) then ff_X10_takeNumber_l20 N N (o_this, a1, a2, (0 : Int32), (0 : Int32)) else some ((-1 : Int32), ss_I o_this 10 (1 : Int32)))
set_option maxHeartbeats 4000000 in
set_option maxRecDepth 100000 in
theorem mm_X10_takeNumber (l : Launch) (D : va_G) (kA : Nat → ClassId) (N : Nat) (q_this : Nat → Nat) (o_this : os_T) (a1 : Int32) (a2 : Int32) (out : (Int32 × os_T)) (hf : ff_X10_takeNumber N o_this a1 a2 = some out) : mc_C l D kA yX10_takeNumber wsX10_takeNumber ({ frames := 1, cells := 0, slots := 0, locals := 21 } : Room) [.ref (q_this 0), .int a1, .int a2] (ce_X10 kA q_this o_this) (some (.int out.1)) (ce_X10 kA q_this out.2) := by
  refine mc_of (cc := cX10_takeNumber) (maxL := 5) (ret := (some .int)) (by decide) rfl (Nat.le_of_ble_eq_true rfl) ?_
  intro p e s m below meth c A B hD hP hS ls hl
  obtain ⟨hx, hb, hr, hlk, hml, hown, hts, hK, hA, hnm⟩ := B
  have hown : s.vm.findClass RX10 = some m.cls := hown
  have hl : lv_has ls 5 [(0, .ref (q_this 0)), (1, .int a1), (2, .int a2)] := hl
  have hUX10 : ∀ w ∈ u_ws RX10 TX10 11, w.before [.ref (q_this 0), .int a1, .int a2].toArray s = true := fun w h => hts w (List.mem_cons_of_mem _ (List.mem_append_right _ h))
  have hB65 : ∀ (o_this : os_T) (H : Heap) (locs : List Loc) (ls : Array Slot), va_P D vwCl (ce_X10 kA q_this o_this) H → va_D A (ce_X10 kA q_this o_this) → va_S A s.heap H locs → lv_has ls 5 [(0, .ref (q_this 0))] → ff_X10_takeNumber_b65 N o_this = some out → W p l e ({ frames := 1, cells := 0, slots := 0, locals := 21 } : Room) s m [.ref (q_this 0), .int a1, .int a2].toArray below meth c H locs 0 0 (MQ below (mc_Q D kA A (some (.int out.1)) (ce_X10 kA q_this out.2)) [.ref (q_this 0), .int a1, .int a2].toArray s 0 0 A) (F0 m 65 ls []) := by
    intro o_this H locs ls hP hD hS hl hf
    unfold ff_X10_takeNumber_b65 at hf
    refine lv_aload_n hx hb dX10_takeNumber_65 rfl (lv_at hl 0 rfl) ?_
    refine lv_iconst (v := 2) hx hb dX10_takeNumber_66 (by decide) ?_
    refine va_put (D := D) (ci := 8) (v := .int (2 : Int32)) (ty := .int) (C := RX10) (T := TX10) (N := 11) hx hb hUX10 (fun _ h9 => h9) tyX10 tyX10_ok nmX10 hown hK hP hD hS 0 rfl rfl 10 (by decide) (hts (Cond.fieldLink RX10 33 "ReliefBuilder$Tokens" "code" "I") (List.mem_of_getElem? (i := 2) rfl)) (fun _ h9 => h9) rfl (tyX10_ok 10 (by decide)) rfl rfl (Nat.le_of_ble_eq_true rfl) dX10_takeNumber_67 (fun H locs hP hD hS => ?_)
    have hP : va_P D vwCl (ce_X10 kA q_this (ss_I o_this 10 (2 : Int32))) H := hP
    have hD : va_D A (ce_X10 kA q_this (ss_I o_this 10 (2 : Int32))) := hD
    refine lv_iconst (v := (-1)) hx hb dX10_takeNumber_70 (by decide) ?_
    rw [← Option.some.inj hf]
    exact mc_reti hx hb hr hlk hP hK hD hS dX10_takeNumber_71
  have hL20 : ∀ (n : Nat) (o_this : os_T) (x1 : Int32) (x2 : Int32) (x3 : Int32) (x4 : Int32) (H : Heap) (locs : List Loc) (ls : Array Slot), va_P D vwCl (ce_X10 kA q_this o_this) H → va_D A (ce_X10 kA q_this o_this) → va_S A s.heap H locs → lv_has ls 5 [(0, .ref (q_this 0)), (1, .int x1), (2, .int x2), (3, .int x3), (4, .int x4)] → ff_X10_takeNumber_l20 N n (o_this, x1, x2, x3, x4) = some out → W p l e ({ frames := 1, cells := 0, slots := 0, locals := 21 } : Room) s m [.ref (q_this 0), .int a1, .int a2].toArray below meth c H locs 0 0 (MQ below (mc_Q D kA A (some (.int out.1)) (ce_X10 kA q_this out.2)) [.ref (q_this 0), .int a1, .int a2].toArray s 0 0 A) (F0 m 20 ls []) := by
    intro n
    induction n with
    | zero => intro o_this x1 x2 x3 x4 H locs ls _ _ _ _ hf; cases hf
    | succ n hk20 =>
      intro o_this x1 x2 x3 x4 H locs ls hP hD hS hl hf
      have hf : ff_X10_takeNumber_c20 N (ff_X10_takeNumber_l20 N n) o_this x1 x2 x3 x4 = some out := hf
      generalize hke : ff_X10_takeNumber_l20 N n = k20 at hk20 hf
      unfold ff_X10_takeNumber_c20 at hf
      refine lv_iload hx hb dX10_takeNumber_20 (lv_at hl 4 rfl) ?_
      refine lv_aload_n hx hb dX10_takeNumber_22 rfl (lv_at hl 0 rfl) ?_
      refine va_get (D := D) (ci := 8) (v := .int (os_I o_this 9)) (C := RX10) (T := TX10) (N := 11) hx hb hUX10 (fun _ h9 => h9) hown hK hP 0 rfl rfl 9 (by decide) (hts (Cond.fieldLink RX10 62 "ReliefBuilder$Tokens" "size" "I") (List.mem_of_getElem? (i := 3) rfl)) (fun _ h9 => h9) rfl dX10_takeNumber_23 ?_
      refine lv_icmp_ge (tgt := 55) hx hb dX10_takeNumber_26 (by decide) (fun hc_2 => ?_) (fun hc_2 => ?_)
      · rw [if_pos hc_2] at hf
        refine lv_iload_n hx hb dX10_takeNumber_55 rfl (lv_at hl 3 rfl) ?_
        refine lv_iload_n hx hb dX10_takeNumber_56 rfl (lv_at hl 1 rfl) ?_
        refine lv_icmp_lt (tgt := 65) hx hb dX10_takeNumber_57 (by decide) (fun hc_3 => ?_) (fun hc_3 => ?_)
        · rw [if_pos hc_3] at hf
          exact hB65 o_this _ _ _ hP hD hS (lv_sub hl [0] rfl) hf
        · rw [if_neg hc_3] at hf
          refine lv_iload_n hx hb dX10_takeNumber_60 rfl (lv_at hl 3 rfl) ?_
          refine lv_iload_n hx hb dX10_takeNumber_61 rfl (lv_at hl 2 rfl) ?_
          refine lv_icmp_le (tgt := 72) hx hb dX10_takeNumber_62 (by decide) (fun hc_4 => ?_) (fun hc_4 => ?_)
          · rw [if_pos hc_4] at hf
            refine lv_aload_n hx hb dX10_takeNumber_72 rfl (lv_at hl 0 rfl) ?_
            obtain ⟨u_5, he_6, hf⟩ := os_bd hf
            refine mc_callV ⟨hx, hb, hml, hown, hts⟩ (mm_X10_advance l D kA N q_this o_this u_5 he_6) (cwV 0 hts gX10_takeNumber_X10_advance rfl rfl rfl (by decide +kernel) ⟨Nat.le_of_ble_eq_true rfl, Nat.le_of_ble_eq_true rfl⟩) (wc := (ce_X10 kA q_this o_this)) (ci := 8) (q0 := 0) rfl rfl rfl hl.1 (As := []) (rest := []) rfl (Nat.le_of_ble_eq_true rfl) dX10_takeNumber_73 ⟨Nat.le_of_ble_eq_true rfl, Nat.le_of_ble_eq_true rfl⟩ hK hP hD hS hA [0, 1, 2, 3, 4] [] [0, 1, 2, 3, 4] rfl (by decide) rfl (by decide) (by decide) rfl (by decide) (wr := []) (w2 := (ce_X10 kA q_this u_5)) (fun H locs hP hD hS => ?_)
            have hP : va_P D vwCl (ce_X10 kA q_this u_5) H := hP
            refine lv_iload_n hx hb dX10_takeNumber_76 rfl (lv_at hl 3 rfl) ?_
            rw [← Option.some.inj hf]
            exact mc_reti hx hb hr hlk hP hK hD hS dX10_takeNumber_77
          · rw [if_neg hc_4] at hf
            exact hB65 o_this _ _ _ hP hD hS (lv_sub hl [0] rfl) hf
      · rw [if_neg hc_2] at hf
        refine lv_iload_n hx hb dX10_takeNumber_29 rfl (lv_at hl 3 rfl) ?_
        refine lv_bipush (v := 10) hx hb dX10_takeNumber_30 (by decide) ?_
        refine lv_imul hx hb dX10_takeNumber_32 ?_
        refine lv_aload_n hx hb dX10_takeNumber_33 rfl (lv_at hl 0 rfl) ?_
        refine lv_aload_n hx hb dX10_takeNumber_34 rfl (lv_at hl 0 rfl) ?_
        refine va_get (D := D) (ci := 8) (v := .int (os_I o_this 8)) (C := RX10) (T := TX10) (N := 11) hx hb hUX10 (fun _ h9 => h9) hown hK hP 0 rfl rfl 8 (by decide) (hts (Cond.fieldLink RX10 59 "ReliefBuilder$Tokens" "start" "I") (List.mem_of_getElem? (i := 4) rfl)) (fun _ h9 => h9) rfl dX10_takeNumber_35 ?_
        refine lv_iload hx hb dX10_takeNumber_38 (lv_at hl 4 rfl) ?_
        refine lv_iadd hx hb dX10_takeNumber_40 ?_
        obtain ⟨u_7, he_8, hf⟩ := os_bd hf
        refine mc_callV ⟨hx, hb, hml, hown, hts⟩ (mm_X10_byteAt l D kA N q_this o_this ((os_I o_this 8) + x4) u_7 he_8) (cwV 1 hts gX10_takeNumber_X10_byteAt rfl rfl rfl (by decide +kernel) ⟨Nat.le_of_ble_eq_true rfl, Nat.le_of_ble_eq_true rfl⟩) (wc := (ce_X10 kA q_this o_this)) (ci := 8) (q0 := 0) rfl rfl rfl hl.1 (As := [.int ((os_I o_this 8) + x4)]) (rest := [.int (x3 * (10 : Int32))]) rfl (Nat.le_of_ble_eq_true rfl) dX10_takeNumber_41 ⟨Nat.le_of_ble_eq_true rfl, Nat.le_of_ble_eq_true rfl⟩ hK hP hD hS hA [0, 1, 2, 3, 4] [] [0, 1, 2, 3, 4] rfl (by decide) rfl (by decide) (by decide) rfl (by decide) (wr := []) (w2 := (ce_X10 kA q_this o_this)) (fun H locs hP hD hS => ?_)
        have hP : va_P D vwCl (ce_X10 kA q_this o_this) H := hP
        refine lv_bipush (v := 48) hx hb dX10_takeNumber_44 (by decide) ?_
        refine lv_isub hx hb dX10_takeNumber_46 ?_
        refine lv_iadd hx hb dX10_takeNumber_47 ?_
        refine lv_istore_n (lv' := [(3, .int ((x3 * (10 : Int32)) + (u_7 - (48 : Int32)))), (0, .ref (q_this 0)), (1, .int x1), (2, .int x2), (4, .int x4)]) hx hb dX10_takeNumber_48 rfl hl (by decide) rfl (fun ls hl => ?_)
        refine lv_iinc (v := x4 + 1) (lv' := [(4, .int (x4 + 1)), (3, .int ((x3 * (10 : Int32)) + (u_7 - (48 : Int32)))), (0, .ref (q_this 0)), (1, .int x1), (2, .int x2)]) hx hb dX10_takeNumber_49 hl (k := 4) rfl rfl (by decide) rfl (fun ls hl => ?_)
        refine lv_goto (tgt := 20) hx hb dX10_takeNumber_52 (by decide) ?_
        exact hk20 o_this x1 x2 ((x3 * (10 : Int32)) + (u_7 - (48 : Int32))) (x4 + 1) _ _ _ hP hD hS (lv_sub hl [2, 3, 4, 1, 0] rfl) hf
  unfold ff_X10_takeNumber at hf
  refine lv_aload_n hx hb dX10_takeNumber_0 rfl (lv_at hl 0 rfl) ?_
  refine va_get (D := D) (ci := 8) (v := .int (os_I o_this 7)) (C := RX10) (T := TX10) (N := 11) hx hb hUX10 (fun _ h9 => h9) hown hK hP 0 rfl rfl 7 (by decide) (hts (Cond.fieldLink RX10 65 "ReliefBuilder$Tokens" "kind" "I") (List.mem_of_getElem? (i := 1) rfl)) (fun _ h9 => h9) rfl dX10_takeNumber_1 ?_
  refine lv_iconst (v := 2) hx hb dX10_takeNumber_4 (by decide) ?_
  refine lv_icmp_eq (tgt := 15) hx hb dX10_takeNumber_5 (by decide) (fun hc_1 => ?_) (fun hc_1 => ?_)
  · rw [if_pos hc_1] at hf
    refine lv_iconst (v := 0) hx hb dX10_takeNumber_15 (by decide) ?_
    refine lv_istore_n (lv' := [(3, .int (0 : Int32)), (0, .ref (q_this 0)), (1, .int a1), (2, .int a2)]) hx hb dX10_takeNumber_16 rfl hl (by decide) rfl (fun ls hl => ?_)
    refine lv_iconst (v := 0) hx hb dX10_takeNumber_17 (by decide) ?_
    refine lv_istore (lv' := [(4, .int (0 : Int32)), (3, .int (0 : Int32)), (0, .ref (q_this 0)), (1, .int a1), (2, .int a2)]) hx hb dX10_takeNumber_18 hl (by decide) rfl (fun ls hl => ?_)
    exact hL20 N o_this a1 a2 (0 : Int32) (0 : Int32) _ _ _ hP hD hS (lv_sub hl [2, 3, 4, 1, 0] rfl) hf
  · rw [if_neg hc_1] at hf
    refine lv_aload_n hx hb dX10_takeNumber_8 rfl (lv_at hl 0 rfl) ?_
    refine lv_iconst (v := 1) hx hb dX10_takeNumber_9 (by decide) ?_
    refine va_put (D := D) (ci := 8) (v := .int (1 : Int32)) (ty := .int) (C := RX10) (T := TX10) (N := 11) hx hb hUX10 (fun _ h9 => h9) tyX10 tyX10_ok nmX10 hown hK hP hD hS 0 rfl rfl 10 (by decide) (hts (Cond.fieldLink RX10 33 "ReliefBuilder$Tokens" "code" "I") (List.mem_of_getElem? (i := 2) rfl)) (fun _ h9 => h9) rfl (tyX10_ok 10 (by decide)) rfl rfl (Nat.le_of_ble_eq_true rfl) dX10_takeNumber_10 (fun H locs hP hD hS => ?_)
    have hP : va_P D vwCl (ce_X10 kA q_this (ss_I o_this 10 (1 : Int32))) H := hP
    have hD : va_D A (ce_X10 kA q_this (ss_I o_this 10 (1 : Int32))) := hD
    refine lv_iconst (v := (-1)) hx hb dX10_takeNumber_13 (by decide) ?_
    rw [← Option.some.inj hf]
    exact mc_reti hx hb hr hlk hP hK hD hS dX10_takeNumber_14
