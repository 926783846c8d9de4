/-! LAYER 2. Numbers in a text that grows; the text itself -/
def dg (n : Nat) : List Nat := if n < 10 then [48 + n] else if n < 100 then [48 + n / 10, 48 + n % 10] else [48 + n / 100, 48 + n / 10 % 10, 48 + n % 10]
theorem dg_ok {n : Nat} (h : n < 1000) : (∀ x ∈ dg n, ub_ok x) ∧ 1 ≤ (dg n).length ∧ (dg n).length ≤ 3 := by
  unfold dg
  split
  · exact ⟨fun x hx => by simp at hx; omega, by simp, by simp⟩
  · split
    · exact ⟨fun x hx => by simp at hx; omega, by simp, by simp⟩
    · exact ⟨fun x hx => by simp at hx; omega, by simp, by simp⟩
section Num
variable {N : Nat} {b v : os_T} {L : List Nat}
theorem up_e {f : Nat → Int32} {k : Nat} {x : Int32} : upd f k x k = x := by unfold upd; rw [if_pos rfl]
theorem up_n {f : Nat → Int32} {k j : Nat} {x : Int32} (h : j ≠ k) : upd f k x j = f j := by unfold upd; rw [if_neg h]
theorem st_size (hN : 1000 < N) {n : Nat} (h : n < 1000) : ff_J6_stringSize_0f7a4 N (Int32.ofInt (n : Int)) = some (Int32.ofInt ((dg n).length : Int)) := by
  unfold ff_J6_stringSize_0f7a4
  simp only [i0_lt (show ib (n : Int) by omega)]
  rw [if_neg (by omega)]
  unfold ff_J6_stringSize_0f7a4_b11 ff_J6_stringSize_0f7a4_l16
  have e0 : (0 : Int32) - Int32.ofInt (n : Int) = Int32.ofInt (-(n : Int)) := by rw [ii_0, ia_sub, Int.zero_sub]
  rw [e0]
  have step : ∀ (r : (Int32 × Int32 × Int32 × Int32) → Option Int32) (m j : Int), 1 ≤ j → j < 10 → -100000 ≤ m → m ≤ 0 → ff_J6_stringSize_0f7a4_c16 N r (Int32.ofInt (-(n : Int))) (0 : Int32) (Int32.ofInt m) (Int32.ofInt j) = if -(n : Int) ≤ m then r (Int32.ofInt (-(n : Int)), (0 : Int32), Int32.ofInt (10 * m), Int32.ofInt (j + 1)) else some (Int32.ofInt j) := fun r m j h1 h2 h3 h4 => by
    unfold ff_J6_stringSize_0f7a4_c16
    rw [ii_10, ii_le (by omega) (by omega), if_neg (by omega), ii_le (by omega) (by omega), ia_mul, ii_1, ia_add]
    by_cases c : -(n : Int) ≤ m
    · rw [if_pos c, if_pos c]
    · rw [if_neg c, if_neg c, ii_0, ia_add, Int.add_zero]
  have key : ∀ k : Nat, k ≤ 2 → (∀ j : Nat, j < k → -(n : Int) ≤ -(10 ^ (j + 1) : Int)) → ¬ (-(n : Int) ≤ -(10 ^ (k + 1) : Int)) → os_loop (fun k16 s1 => ff_J6_stringSize_0f7a4_c16 N k16 s1.1 s1.2.1 s1.2.2.1 s1.2.2.2) N (Int32.ofInt (-(n : Int)), (0 : Int32), (-10 : Int32), (1 : Int32)) = some (Int32.ofInt ((k + 1 : Nat) : Int)) := fun k hk hlt hge => by
    have hp : ∀ j : Nat, j ≤ 2 → (10 : Int) ^ (j + 1) ≤ 1000 ∧ 0 ≤ (10 : Int) ^ (j + 1) := fun j hj => by
      obtain rfl | rfl | rfl : j = 0 ∨ j = 1 ∨ j = 2 := by omega
      · decide
      · decide
      · decide
    refine lo_run (N := N) (step := fun k16 s1 => ff_J6_stringSize_0f7a4_c16 N k16 s1.1 s1.2.1 s1.2.2.1 s1.2.2.2) (fun j : Nat => (Int32.ofInt (-(n : Int)), (0 : Int32), Int32.ofInt (-(10 ^ (j + 1) : Int)), Int32.ofInt ((j + 1 : Nat) : Int))) k ?_ ?_ (by omega)
    · intro j hj r
      have := hp j (by omega)
      refine (step r (-(10 ^ (j + 1) : Int)) ((j + 1 : Nat) : Int) (by omega) (by omega) (by omega) (by omega)).trans ?_
      rw [if_pos (hlt j hj), show 10 * -(10 : Int) ^ (j + 1) = -(10 ^ (j + 1 + 1) : Int) by rw [Int.pow_succ 10 (j + 1)]; omega]
      rfl
    · intro r
      have := hp k hk
      refine (step r (-(10 ^ (k + 1) : Int)) ((k + 1 : Nat) : Int) (by omega) (by omega) (by omega) (by omega)).trans ?_
      rw [if_neg hge]
  unfold dg
  by_cases c1 : n < 10
  · rw [if_pos c1]
    exact key 0 (by decide) (fun j hj => absurd hj (Nat.not_lt_zero j)) (by show ¬ (-(n : Int) ≤ -10); omega)
  · rw [if_neg c1]
    by_cases c2 : n < 100
    · rw [if_pos c2]
      exact key 1 (by decide) (fun j hj => by
        obtain rfl : j = 0 := (by omega)
        show -(n : Int) ≤ -10
        omega) (by show ¬ (-(n : Int) ≤ -100); omega)
    · rw [if_neg c2]
      exact key 2 (by decide) (fun j hj => by
        obtain rfl | rfl : j = 0 ∨ j = 1 := by omega
        · show -(n : Int) ≤ -10; omega
        · show -(n : Int) ≤ -100; omega) (by show ¬ (-(n : Int) ≤ -1000); omega)
/-- the digits, written from behind -/
def gc (f : Nat → Int32) (at_ n : Nat) : Nat → Int32 := fun i => if at_ ≤ i ∧ i < at_ + (dg n).length then Int32.ofInt ((dg n).getD (i - at_) 0 : Nat) else f i
theorem gc_in {f : Nat → Int32} {a n i : Nat} (h : i < (dg n).length) : gc f a n (a + i) = Int32.ofInt ((dg n).getD i 0 : Nat) := by
  unfold gc
  rw [if_pos (by omega), Nat.add_sub_cancel_left]
theorem gc_out {f : Nat → Int32} {a n i : Nat} (h : i < a) : gc f a n i = f i := by
  unfold gc
  rw [if_neg (by omega)]
theorem cc_n {a : Int} (h0 : 0 ≤ a) (h1 : a ≤ 100000) : Int32.toNatClampNeg (Int32.ofInt a) = a.toNat := ia_nat (by omega) (by omega)
theorem get_chars (hN : 1000 < N) {n c at_ : Nat} (h : n < 1000) (hc : os_I v 0 = Int32.ofInt (c : Int)) (hc2 : c ≤ 1000) (hle : at_ + (dg n).length ≤ c) : ∃ w : os_T, ff_J6_getChars_ba4f3 N v (Int32.ofInt (n : Int)) (Int32.ofInt ((at_ + (dg n).length : Nat) : Int)) = some (Int32.ofInt (at_ : Int), w) ∧ os_I w 0 = os_I v 0 ∧ ∀ i, os_A w 0 i = gc (os_A v 0) at_ n i := by
  have hn3 := (dg_ok h).2
  have eci : ∀ w : os_T, os_I w 0 = Int32.ofInt (c : Int) → ci_n w = c := fun w hw => ub_c hw (by omega)
  have e0 : (0 : Int32) - Int32.ofInt (n : Int) = Int32.ofInt (-(n : Int)) := by rw [ii_0, ia_sub, Int.zero_sub]
  have em1 : ∀ a : Int, Int32.ofInt a + (-1 : Int32) = Int32.ofInt (a - 1) := fun a => by
    rw [ii_m1, ia_add]; rfl
  have eneg : ∀ a : Int, (0 : Int32) - Int32.ofInt (-a) = Int32.ofInt a := fun a => by rw [ii_0, ia_sub]; congr 1; omega
  have dgt : ∀ m : Nat, m < 10 → vp_nar .byte (Int32.ofNat (48 + m)) = Int32.ofInt ((48 + m : Nat) : Int) := fun m hm => by rw [ia_on]; exact nar_n (by omega)
  unfold ff_J6_getChars_ba4f3
  rw [ii_0, ii_le (by omega) (by omega), if_pos (by omega)]
  unfold ff_J6_getChars_ba4f3_b12
  rw [if_pos (show Int32.ofInt 0 = 0 from rfl), e0]
  unfold ff_J6_getChars_ba4f3_l22
  -- the last one or two digits
  have fin : ∀ (r : _ → Option (Int32 × os_T)) (w : os_T) (m e : Nat), os_I w 0 = Int32.ofInt (c : Int) → m < 100 → e ≤ c → (if m < 10 then 1 else 2) ≤ e → ff_J6_getChars_ba4f3_c22 N r w (Int32.ofInt (-(m : Int))) (Int32.ofInt (e : Int)) (Int32.ofInt 0) = if m < 10 then some (Int32.ofInt ((e - 1 : Nat) : Int), ss_A w 0 (upd (os_A w 0) (e - 1) (Int32.ofInt ((48 + m : Nat) : Int)))) else some (Int32.ofInt ((e - 2 : Nat) : Int), ss_A w 0 (upd (upd (os_A w 0) (e - 1) (Int32.ofInt ((48 + m % 10 : Nat) : Int))) (e - 2) (Int32.ofInt ((48 + m / 10 : Nat) : Int)))) := fun r w m e hw hm he hme => by
    have he1 : 1 ≤ e := by split at hme <;> omega
    have ee1 : (e : Int) - 1 = ((e - 1 : Nat) : Int) := by omega
    unfold ff_J6_getChars_ba4f3_c22 ff_J6_getChars_ba4f3_b104
    have w1 : ∀ g, ci_n (ss_A w 0 g) = c := fun g => eci _ hw
    rw [show (-100 : Int32) = Int32.ofInt (-100) from rfl, ii_lt (by omega) (by omega), if_pos (by omega), eneg, eci w hw, if_pos (ia_in (by omega) (by omega) (by omega)), em1, ee1, if_pos (ia_in (by omega) (by omega) (by omega)), show (-9 : Int32) = Int32.ofInt (-9) from rfl, ii_le (by omega) (by omega)]
    have t1 : Int32.toNatClampNeg (Int32.ofInt (m : Int)) = m := by rw [cc_n (by omega) (by omega)]; exact Int.toNat_natCast _
    have t2 : Int32.toNatClampNeg (Int32.ofInt ((e - 1 : Nat) : Int)) = e - 1 := by rw [cc_n (by omega) (by omega)]; exact Int.toNat_natCast _
    have t3 : Int32.toNatClampNeg (Int32.ofInt ((e - 2 : Nat) : Int)) = e - 2 := by rw [cc_n (by omega) (by omega)]; exact Int.toNat_natCast _
    by_cases c1 : m < 10
    · rw [if_pos (by omega), if_pos c1, if_pos (show Int32.ofInt 0 = 0 from rfl), t1, t2, Nat.mod_eq_of_lt c1, dgt m c1]
    · rw [if_neg c1] at hme
      have ee2 : ((e - 1 : Nat) : Int) - 1 = ((e - 2 : Nat) : Int) := by omega
      rw [if_neg (by omega), if_neg c1, if_pos (ia_in (by omega) (by omega) (by omega)), em1, ee2]
      have hin : os_in (Int32.ofInt ((e - 2 : Nat) : Int)) c := ia_in (by omega) (by omega) (by omega)
      simp only [w1, t1, t2, t3]
      rw [if_pos hin, if_pos (show Int32.ofInt 0 = 0 from rfl), dgt _ (by omega), dgt _ (by omega)]
  by_cases c2 : n < 100
  · obtain ⟨N', rfl⟩ : ∃ N', N = N' + 1 := ⟨N - 1, by omega⟩
    have hrun : os_loop (fun k22 s1 => ff_J6_getChars_ba4f3_c22 (N' + 1) k22 s1.1 s1.2.1 s1.2.2.1 s1.2.2.2) (N' + 1) (v, Int32.ofInt (-(n : Int)), Int32.ofInt ((at_ + (dg n).length : Nat) : Int), Int32.ofInt 0) = ff_J6_getChars_ba4f3_c22 (N' + 1) (os_loop (fun k22 s1 => ff_J6_getChars_ba4f3_c22 (N' + 1) k22 s1.1 s1.2.1 s1.2.2.1 s1.2.2.2) N') v (Int32.ofInt (-(n : Int))) (Int32.ofInt ((at_ + (dg n).length : Nat) : Int)) (Int32.ofInt 0) := rfl
    have hl : (dg n).length = if n < 10 then 1 else 2 := by
      unfold dg
      by_cases c1 : n < 10
      · rw [if_pos c1, if_pos c1]; rfl
      · rw [if_neg c1, if_neg c1, if_pos c2]; rfl
    rw [hrun, fin _ v n _ hc c2 hle (by rw [← hl]; omega)]
    by_cases c1 : n < 10
    · rw [if_pos c1] at hl
      rw [if_pos c1, hl, show at_ + 1 - 1 = at_ by omega]
      refine ⟨_, rfl, rfl, fun i => ?_⟩
      have hd : dg n = [48 + n] := by unfold dg; rw [if_pos c1]
      unfold gc
      rw [hl, hd]
      show upd (os_A v 0) at_ _ i = _
      by_cases ci : i = at_
      · subst ci
        rw [up_e, if_pos (by omega), Nat.sub_self]; rfl
      · rw [up_n ci, if_neg (by omega)]
    · rw [if_neg c1] at hl
      rw [if_neg c1, hl, show at_ + 2 - 1 = at_ + 1 by omega, show at_ + 2 - 2 = at_ by omega]
      refine ⟨_, rfl, rfl, fun i => ?_⟩
      have hd : dg n = [48 + n / 10, 48 + n % 10] := by unfold dg; rw [if_neg c1, if_pos c2]
      unfold gc
      rw [hl, hd]
      show upd (upd (os_A v 0) (at_ + 1) _) at_ _ i = _
      by_cases ci : i = at_
      · subst ci
        rw [up_e, if_pos (by omega), Nat.sub_self]; rfl
      · rw [up_n ci]
        by_cases ci2 : i = at_ + 1
        · subst ci2
          rw [up_e, if_pos (by omega), Nat.add_sub_cancel_left]; rfl
        · rw [up_n ci2, if_neg (by omega)]
  · obtain ⟨N', rfl⟩ : ∃ N', N = N' + 2 := ⟨N - 2, by omega⟩
    have hl : (dg n).length = 3 := by
      unfold dg
      rw [if_neg (by omega), if_neg c2]; rfl
    rw [hl] at hle ⊢
    have hrun : os_loop (fun k22 s1 => ff_J6_getChars_ba4f3_c22 (N' + 2) k22 s1.1 s1.2.1 s1.2.2.1 s1.2.2.2) (N' + 2) (v, Int32.ofInt (-(n : Int)), Int32.ofInt ((at_ + 3 : Nat) : Int), Int32.ofInt 0) = ff_J6_getChars_ba4f3_c22 (N' + 2) (fun s1 => ff_J6_getChars_ba4f3_c22 (N' + 2) (os_loop (fun k22 s1 => ff_J6_getChars_ba4f3_c22 (N' + 2) k22 s1.1 s1.2.1 s1.2.2.1 s1.2.2.2) N') s1.1 s1.2.1 s1.2.2.1 s1.2.2.2) v (Int32.ofInt (-(n : Int))) (Int32.ofInt ((at_ + 3 : Nat) : Int)) (Int32.ofInt 0) := rfl
    rw [hrun]
    generalize os_loop (fun k22 s1 => ff_J6_getChars_ba4f3_c22 (N' + 2) k22 s1.1 s1.2.1 s1.2.2.1 s1.2.2.2) N' = R0
    generalize hR1 : (fun s1 : os_T × Int32 × Int32 × Int32 => ff_J6_getChars_ba4f3_c22 (N' + 2) R0 s1.1 s1.2.1 s1.2.2.1 s1.2.2.2) = R1
    have ediv : Int32.ofInt (-(n : Int)) / Int32.ofInt 100 = Int32.ofInt (-((n / 100 : Nat) : Int)) := by
      rw [← Int32.ofInt_tdiv (by rw [ia_min]; omega) (by rw [ia_max]; omega) (by rw [ia_min]; omega) (by rw [ia_max]; omega), Int.neg_tdiv, Int.tdiv_eq_ediv_of_nonneg (by omega)]
      rfl
    have emod : -((n / 100 : Nat) : Int) * 100 - -(n : Int) = ((n % 100 : Nat) : Int) := by omega
    have w1 : ∀ g, ci_n (ss_A v 0 g) = c := fun g => eci _ hc
    have ee1 : ((at_ + 3 : Nat) : Int) - 1 = ((at_ + 2 : Nat) : Int) := by omega
    have ee2 : ((at_ + 2 : Nat) : Int) - 1 = ((at_ + 1 : Nat) : Int) := by omega
    unfold ff_J6_getChars_ba4f3_c22
    rw [show (-100 : Int32) = Int32.ofInt (-100) from rfl, ii_lt (by omega) (by omega), if_neg (by omega), ii_100, ediv, ia_mul, ia_sub, emod, eci v hc, if_pos (ia_in (by omega) (by omega) (by omega)), em1, ee1, if_pos (ia_in (by omega) (by omega) (by omega)), if_pos (ia_in (by omega) (by omega) (by omega)), em1, ee2]
    have t1 : Int32.toNatClampNeg (Int32.ofInt ((n % 100 : Nat) : Int)) = n % 100 := by rw [cc_n (by omega) (by omega)]; exact Int.toNat_natCast _
    have t2 : Int32.toNatClampNeg (Int32.ofInt ((at_ + 2 : Nat) : Int)) = at_ + 2 := by rw [cc_n (by omega) (by omega)]; exact Int.toNat_natCast _
    have t3 : Int32.toNatClampNeg (Int32.ofInt ((at_ + 1 : Nat) : Int)) = at_ + 1 := by rw [cc_n (by omega) (by omega)]; exact Int.toNat_natCast _
    have hin : os_in (Int32.ofInt ((at_ + 1 : Nat) : Int)) c := ia_in (by omega) (by omega) (by omega)
    simp only [w1, t1, t2, t3]
    rw [if_pos hin, dgt _ (by omega), dgt _ (by omega), ← hR1]
    show ∃ w, ff_J6_getChars_ba4f3_c22 (N' + 2) R0 (ss_A v 0 (upd (upd (os_A v 0) (at_ + 2) (Int32.ofInt ((48 + n % 100 % 10 : Nat) : Int))) (at_ + 1) (Int32.ofInt ((48 + n % 100 / 10 : Nat) : Int)))) (Int32.ofInt (-((n / 100 : Nat) : Int))) (Int32.ofInt ((at_ + 1 : Nat) : Int)) (Int32.ofInt 0) = _ ∧ _
    rw [fin R0 (ss_A v 0 (upd (upd (os_A v 0) (at_ + 2) (Int32.ofInt ((48 + n % 100 % 10 : Nat) : Int))) (at_ + 1) (Int32.ofInt ((48 + n % 100 / 10 : Nat) : Int)))) (n / 100) (at_ + 1) hc (by omega) (by omega) (by rw [if_pos (by omega)]; omega), if_pos (by omega), Nat.add_sub_cancel]
    refine ⟨_, rfl, rfl, fun i => ?_⟩
    have hd : dg n = [48 + n / 100, 48 + n / 10 % 10, 48 + n % 10] := by unfold dg; rw [if_neg (by omega), if_neg c2]
    unfold gc
    rw [hl, hd]
    show upd (upd (upd (os_A v 0) (at_ + 2) _) (at_ + 1) _) at_ _ i = _
    by_cases ci : i = at_
    · subst ci
      rw [up_e, if_pos (by omega), Nat.sub_self]; rfl
    · rw [up_n ci]
      by_cases ci1 : i = at_ + 1
      · subst ci1
        rw [up_e, if_pos (by omega), Nat.add_sub_cancel_left, show n % 100 / 10 = n / 10 % 10 by omega]; rfl
      · rw [up_n ci1]
        by_cases ci2 : i = at_ + 2
        · subst ci2
          rw [up_e, if_pos (by omega), Nat.add_sub_cancel_left, show n % 100 % 10 = n % 10 by omega]; rfl
        · rw [up_n ci2, if_neg (by omega)]
theorem ub_num (hN : 1000 < N) (h : ub b v L) {n : Nat} (hn : n < 1000) (hL : L.length + 3 ≤ 574) : ∃ b' v', ff_J4_append_bf812 N b v (Int32.ofInt (n : Int)) = some (b', v') ∧ ub b' v' (L ++ dg n) := by
  obtain ⟨d1, d2, d3⟩ := dg_ok hn
  obtain ⟨v', c, ee, h', hc, hcap, hle⟩ := ub_ensure (N := N) h (n := (dg n).length) (by omega) (by omega)
  obtain ⟨h1, -, h4, h5, h6⟩ := h'
  have hc2 : c ≤ 574 := by unfold ub_cap at hcap; omega
  obtain ⟨w, eg, hw0, hf⟩ := get_chars (N := N) (v := v') (at_ := L.length) hN hn hc (by omega) hle
  refine ⟨ss_I b 3 (Int32.ofInt ((L.length + (dg n).length : Nat) : Int)), w, ?_, ?_, ⟨c, hw0.trans hc, hcap, ?_⟩, fun i hi => ?_, fun i => ?_, fun x hx => ?_⟩
  · unfold ff_J4_append_bf812 ff_J5_append_c97b9 ff_J5_append_c97b9_b48
    rw [st_size hN hn, Option.bind_some, h.1, ia_add, show (L.length : Int) + ((dg n).length : Int) = ((L.length + (dg n).length : Nat) : Int) from rfl, ee, Option.bind_some]
    simp only [ff_J5_isLatin1_aae02, Option.bind_some]
    rw [if_neg (by decide), eg, Option.bind_some]
    rfl
  · show Int32.ofInt _ = _
    rw [List.length_append]
  · rw [List.length_append]; exact hle
  · rw [hf]
    rw [List.length_append] at hi
    by_cases ci : i < L.length
    · rw [gc_out ci, getD_app1 ci]; exact h4 i ci
    · rw [getD_app2 (by omega)]
      have := gc_in (f := os_A v' 0) (a := L.length) (n := n) (i := i - L.length) (by omega)
      rwa [show L.length + (i - L.length) = i by omega] at this
  · rw [hf]
    unfold gc
    split
    · exact fit_n (getD_ok d1 (by omega)).2
    · exact h5 i
  · rcases List.mem_append.mp hx with z | z
    · exact h6 x z
    · exact d1 x z
/-- a text that is no longer built -/
def us (s v : os_T) (L : List Nat) : Prop := ci_n v = L.length ∧ (∀ i, i < L.length → os_A v 0 i = Int32.ofInt (L.getD i 0 : Nat)) ∧ ∀ x ∈ L, ub_ok x
theorem ub_str (h : ub b v L) : ∃ s w, ff_J4_toString_0e30d N b v = some (s, w) ∧ us s w L := by
  obtain ⟨h1, ⟨c, hc, hcap, hle⟩, h4, h5, h6⟩ := h
  have hc2 : c ≤ 574 := by unfold ub_cap at hcap; omega
  have ec := ub_c hc (by omega)
  have key : ∃ w, ff_J7_copyOfRange_39247 N v (0 : Int32) (Int32.ofInt (L.length : Int)) = some w ∧ us b w L := by
    unfold ff_J7_copyOfRange_39247
    rw [if_pos rfl, ec, ia_on, ii_eq (by omega) (by omega)]
    by_cases cl : (L.length : Int) = (c : Int)
    · rw [if_pos cl, if_pos ⟨by omega, fun i _ => h5 i⟩]
      exact ⟨v, rfl, by rw [ec]; omega, h4, h6⟩
    · rw [if_neg cl]
      unfold ff_J7_copyOfRange_39247_b10 ff_J7_copyOfRangeByte_39247 ff_J7_checkLength_df160
      have emin : (if Int32.ofInt (L.length : Int) < Int32.ofInt (c : Int) then Int32.ofInt (L.length : Int) else Int32.ofInt (c : Int)) = Int32.ofInt (L.length : Int) := by
        rw [ii_lt (by omega) (by omega), if_pos (by omega)]
      have en : Int32.toNatClampNeg (Int32.ofInt (L.length : Int)) = L.length := by rw [ia_nat (by omega) (by omega)]; exact Int.toNat_natCast _
      have en3 : ci_n (ss_I os_zero 0 (Int32.ofInt (L.length : Int))) = L.length := en
      have zs : ∀ a : Int, Int32.ofInt a - (0 : Int32) = Int32.ofInt a := fun a => by rw [ii_0, ia_sub, Int.sub_zero]
      have zle : (0 : Int32) ≤ Int32.ofInt (L.length : Int) := by rw [ii_0, ia_le (by omega) (by omega) (by omega) (by omega)]; omega
      have e0 : Int32.toNatClampNeg (0 : Int32) = 0 := rfl
      rw [if_pos zle, Option.bind_some, ec, ia_on, zs, zs, emin]
      simp only [en, en3, e0]
      rw [if_pos ⟨by rw [i0_lt (by omega)]; omega, by omega⟩, if_pos ⟨⟨⟨by decide, by decide⟩, by rw [i0_lt (by omega)]; omega⟩, ⟨by omega, by omega⟩, fun i _ => h5 _⟩, Option.bind_some]
      refine ⟨_, rfl, en, fun i hi => ?_, h6⟩
      show va_cpy (os_A v 0) (os_A (ss_I os_zero 0 (Int32.ofInt (L.length : Int))) 0) 0 0 L.length i = _
      unfold va_cpy
      rw [if_pos (by omega), show 0 + (i - 0) = i by omega]
      exact h4 i hi
  obtain ⟨w, ew, hw⟩ := key
  refine ⟨os_zero, w, ?_, hw⟩
  unfold ff_J4_toString_0e30d ff_J0_init_81219 ff_J0_init_db425 ff_J5_getValue_6d5f1 ff_J4_length_8abf5 ff_J5_length_8abf5
  simp only [ff_J5_isLatin1_aae02, Option.bind_some]
  rw [if_neg (by decide), h1, ew]
  rfl
end Num
