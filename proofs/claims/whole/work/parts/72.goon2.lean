/-! LAYER 2. The reference goes on to a token -/
section GoOn2
variable {N L : Nat} {m : os_T} {B : Nat → Int} {st sz : Nat → Nat} {ky : Nat → Int} {C p : Nat}
theorem kk_ge (h : ¬ p < C) : kk st sz ky C p = 0 := by unfold kk; rw [if_neg h]
theorem kk_lt (h : p < C) : kk st sz ky C p = if (ky p = 1 ∧ 8 < sz p) ∨ (ky p = 2 ∧ 4 < sz p) then 5 else ky p := by unfold kk; rw [if_pos h]
theorem rc_goOn (hN : 1000 < N) (h : my m L B) (ht : tp B st sz ky C L) (hp : p ≤ C) (e4 : os_I m 4 = Int32.ofInt (pe st sz p : Int)) : ∃ m', ff_X13_goOn N m = some m' ∧ mt m' B L st sz ky C p ∧ sq kg kn m m' := by
  have hL := h.1
  have hsp : pe st sz p ≤ (if p < C then st p else L) ∧ (if p < C then st p else L) ≤ L ∧ ∀ i, pe st sz p ≤ i → i < (if p < C then st p else L) → kd (B i) = 4 := by
    by_cases c : p < C
    · obtain ⟨b1, b2, b3, b4, b5, b6, b7⟩ := ht.1 p c
      rw [if_pos c]
      exact ⟨b1, by omega, b5⟩
    · have e : p = C := by omega
      subst e
      rw [if_neg c]
      exact ⟨ht.2.1, Nat.le_refl _, ht.2.2.1⟩
  obtain ⟨hs1, hs2, hs3⟩ := hsp
  have key := lo_cnt (N := N) (step := fun k0 s1 => ff_X13_goOn_c0 N k0 s1)
    (fun n s => os_I s 4 = Int32.ofInt ((pe st sz p + n : Nat) : Int) ∧ sq kg kn m s)
    (fun v => ∃ m', v = some m' ∧ mt m' B L st sz ky C p ∧ sq kg kn m m')
    ((if p < C then st p else L) - pe st sz p) ?_ ?_ (by omega) (s := m) ⟨e4, sq.rf⟩
  · obtain ⟨v, ⟨m', rfl, h⟩, e⟩ := key
    exact ⟨m', e, h⟩
  · intro n s hn hI
    obtain ⟨f4, fq⟩ := hI
    have hm := h.sq fq (by decide) (by decide)
    have eh : ff_X13_here N s (0 : Int32) = some (Int32.ofInt (B (pe st sz p + n))) := by
      rw [ii_0, rc_here hm f4 (by omega) (by omega) (by omega) (by omega), if_pos (by omega)]
      congr 3
    have hk := kd_4.1 (hs3 (pe st sz p + n) (by omega) (by omega))
    refine ⟨ss_I s 4 (Int32.ofInt ((pe st sz p + (n + 1) : Nat) : Int)), ⟨rfl, fq.tr (sq_I (Or.inl rfl))⟩, fun k => ?_⟩
    have g : ff_X13_goOn_b20 N k s = k (ss_I s 4 (Int32.ofInt ((pe st sz p + (n + 1) : Nat) : Int))) := by
      unfold ff_X13_goOn_b20
      rw [f4, ii_1, ia_add]; rfl
    show ff_X13_goOn_c0 N k s = _
    unfold ff_X13_goOn_c0
    rw [eh, Option.bind_some, Option.bind_some, g]
    rcases hk with hk | hk
    · rw [hk, if_pos (show Int32.ofInt 32 = (32 : Int32) from rfl)]
    · rw [hk, if_neg (show ¬ (Int32.ofInt 10 = (32 : Int32)) by decide), if_pos (show Int32.ofInt 10 = (10 : Int32) from rfl)]
  · intro s hI
    obtain ⟨f4, fq⟩ := hI
    have hm := h.sq fq (by decide) (by decide)
    have f4 : os_I s 4 = Int32.ofInt ((if p < C then st p else L : Nat) : Int) := by
      rw [f4]; congr 2; omega
    have q2 : sq kg kn s (ss_I (ss_I (ss_L s 12 (0 : Int64)) 5 (os_I s 4)) 7 (0 : Int32)) := ((show sq kg kn s (ss_L s 12 (0 : Int64)) from sq_L).tr (sq_I (Or.inr (Or.inl rfl)))).tr (sq_I (Or.inr (Or.inr (Or.inr rfl))))
    have hm2 := hm.sq q2 (by decide) (by decide)
    have eh : ∀ o : os_T, my o L B → os_I o 4 = Int32.ofInt ((if p < C then st p else L : Nat) : Int) → ff_X13_here N o (0 : Int32) = some (Int32.ofInt (if p < C then B (st p) else -1)) := fun o ho h4 => by
      rw [ii_0, rc_here ho h4 (by omega) (by omega) (by omega) (by omega)]
      by_cases c : p < C
      · obtain ⟨b1, b2, b3, -⟩ := ht.1 p c
        rw [if_pos c, if_pos c, if_pos (by omega)]
        congr 3
      · rw [if_neg c, if_neg c, if_neg (by omega)]
    have e1 := eh s hm f4
    have e2 := eh (ss_I (ss_I (ss_L s 12 (0 : Int64)) 5 (os_I s 4)) 7 (0 : Int32)) hm2 f4
    by_cases c : p < C
    · obtain ⟨b1, b2, b3, b4, b5, b6, b7⟩ := ht.1 p c
      have hB := (hm.2.2 (st p) (by omega)).1
      have hk : kd (B (st p)) = ky p := b6 (st p) (Nat.le_refl _) (by omega)
      have n4 : ¬ (B (st p) = 32 ∨ B (st p) = 10) := fun z => by
        have := kd_4.2 z
        omega
      rw [if_pos c] at e1 e2 f4
      have f5 : os_I (ss_I (ss_I (ss_L s 12 (0 : Int64)) 5 (os_I s 4)) 7 (0 : Int32)) 5 = Int32.ofInt (st p : Int) := f4
      have g0 : ∀ k, ff_X13_goOn_c0 N k s = (if kd (B (st p)) = 1 then ff_X13_goOn_l76 N N (ss_I (ss_I (ss_L s 12 (0 : Int64)) 5 (os_I s 4)) 7 (0 : Int32), (0 : Int32)) else if kd (B (st p)) = 2 then ff_X13_goOn_l146 N N (ss_I (ss_I (ss_L s 12 (0 : Int64)) 5 (os_I s 4)) 7 (0 : Int32), (0 : Int32)) else ff_X13_goOn_b229 N (ss_I (ss_I (ss_L s 12 (0 : Int64)) 5 (os_I s 4)) 7 (0 : Int32)) (Int32.ofInt (B (st p))) (if kd (B (st p)) = 3 then 3 else 4)) := fun k => by
        have e59 : (Int32.ofInt (B (st p)) = (59 : Int32)) = (B (st p) = 59) := ia_eq (b := 59) (by omega) (by omega) (by omega) (by omega)
        have e40 : (Int32.ofInt (B (st p)) = (40 : Int32)) = (B (st p) = 40) := ia_eq (b := 40) (by omega) (by omega) (by omega) (by omega)
        have e41 : (Int32.ofInt (B (st p)) = (41 : Int32)) = (B (st p) = 41) := ia_eq (b := 41) (by omega) (by omega) (by omega) (by omega)
        have e32 : (Int32.ofInt (B (st p)) = (32 : Int32)) = (B (st p) = 32) := ia_eq (b := 32) (by omega) (by omega) (by omega) (by omega)
        have e10 : (Int32.ofInt (B (st p)) = (10 : Int32)) = (B (st p) = 10) := ia_eq (b := 10) (by omega) (by omega) (by omega) (by omega)
        have ege : (0 ≤ Int32.ofInt (B (st p))) = (0 ≤ B (st p)) := ia_le (a := 0) (by omega) (by omega) (by omega) (by omega)
        unfold ff_X13_goOn_c0 ff_X13_goOn_b224
        rw [e1, Option.bind_some, Option.bind_some, e2, Option.bind_some, rc_isLetter (by omega), Option.bind_some, rc_isDigit (by omega), Option.bind_some, oz_ite, oz_ite]
        simp only [e32, e10, ege, e59, e40, e41]
        rw [if_neg (by omega), if_neg (by omega), if_pos (by omega)]
        by_cases c1 : kd (B (st p)) = 1
        · rw [if_pos c1, if_pos c1]
        · rw [if_neg c1, if_neg c1]
          by_cases c2 : kd (B (st p)) = 2
          · rw [if_pos c2, if_pos c2]
          · rw [if_neg c2, if_neg c2]
            by_cases c3 : kd (B (st p)) = 3
            · rw [if_pos c3]
              rcases kd_3.1 c3 with z | z | z
              · rw [if_pos z]
              · rw [if_neg (by omega), if_pos z]
              · rw [if_neg (by omega), if_neg (by omega), if_pos z]
            · have : ¬ (B (st p) = 59 ∨ B (st p) = 40 ∨ B (st p) = 41) := fun z => c3 (kd_3.2 z)
              rw [if_neg c3, if_neg (by omega), if_neg (by omega), if_neg (by omega)]
      have ek := kk_lt (st := st) (sz := sz) (ky := ky) c
      by_cases c1 : ky p = 1
      · obtain ⟨m', w, w4, w6, w12, w5, wq⟩ := rc_word (N := N) hN hm2 ht c c1 f4 rfl
        have ek2 : kk st sz ky C p = if 8 < sz p then 5 else 1 := by
          rw [ek]
          by_cases c8 : 8 < sz p
          · rw [if_pos (by omega), if_pos c8]
          · rw [if_neg (by omega), if_neg c8, c1]
        refine ⟨some m', ⟨m', rfl, ⟨?_, ?_, ?_, fun _ => w12, fun z => ?_, fun z => ?_⟩, (fq.tr q2).tr wq⟩, fun k => ?_⟩
        · rw [if_pos c]; exact w4
        · rw [if_pos c, w5]; exact f5
        · rw [w6, ek2]; split <;> rfl
        · rw [ek2] at z; split at z <;> omega
        · rw [ek2] at z; split at z <;> omega
        · rw [g0 k, if_pos (by omega), w]
      · by_cases c2 : ky p = 2
        · obtain ⟨m', w, w4, w6, w7, w5, wq⟩ := rc_digits (N := N) hN hm2 ht c c2 f4 rfl
          have ek2 : kk st sz ky C p = if 4 < sz p then 5 else 2 := by
            rw [ek]
            by_cases c8 : 4 < sz p
            · rw [if_pos (by omega), if_pos c8]
            · rw [if_neg (by omega), if_neg c8, c2]
          refine ⟨some m', ⟨m', rfl, ⟨?_, ?_, ?_, fun z => ?_, fun _ => w7, fun z => ?_⟩, (fq.tr q2).tr wq⟩, fun k => ?_⟩
          · rw [if_pos c]; exact w4
          · rw [if_pos c, w5]; exact f5
          · rw [w6, ek2]; split <;> rfl
          · rw [ek2] at z; split at z <;> omega
          · rw [ek2] at z; split at z <;> omega
          · rw [g0 k, if_neg (by omega), if_pos (by omega), w]
        · have ek2 : kk st sz ky C p = ky p := by rw [ek, if_neg (by omega)]
          have hs : sz p = 1 := by omega
          refine ⟨some (ss_I (ss_I (ss_I (ss_I (ss_I (ss_L s 12 (0 : Int64)) 5 (os_I s 4)) 7 (0 : Int32)) 6 (if kd (B (st p)) = 3 then 3 else 4)) 7 (Int32.ofInt (B (st p)))) 4 (os_I s 4 + (1 : Int32))), ⟨_, rfl, ⟨?_, ?_, ?_, fun z => ?_, fun z => ?_, fun z => rfl⟩, (fq.tr q2).tr (((show sq kg kn _ (ss_I (ss_I (ss_I (ss_L s 12 (0 : Int64)) 5 (os_I s 4)) 7 (0 : Int32)) 6 (if kd (B (st p)) = 3 then 3 else 4)) from sq_I (Or.inr (Or.inr (Or.inl rfl)))).tr (sq_I (Or.inr (Or.inr (Or.inr rfl))))).tr (sq_I (Or.inl rfl)))⟩, fun k => ?_⟩
          · show os_I s 4 + (1 : Int32) = _
            rw [if_pos c, f4, ii_1, ia_add, hs]; rfl
          · rw [if_pos c]; exact f4
          · show (if kd (B (st p)) = 3 then (3 : Int32) else 4) = _
            rw [ek2, hk]
            by_cases c3 : ky p = 3
            · rw [if_pos c3, if_neg (by omega), c3]; rfl
            · rw [if_neg c3, if_pos (by omega)]; rfl
          · omega
          · omega
          · rw [g0 k, if_neg (by omega), if_neg (by omega)]
            rfl
    · have ek := kk_ge (st := st) (sz := sz) (ky := ky) c
      rw [if_neg c] at e1 e2 f4
      refine ⟨some (ss_I (ss_I (ss_I (ss_L s 12 (0 : Int64)) 5 (os_I s 4)) 6 (0 : Int32)) 7 (0 : Int32)), ⟨_, rfl, ⟨?_, ?_, ?_, fun z => ?_, fun z => ?_, fun z => ?_⟩, fq.tr (((show sq kg kn s (ss_L s 12 (0 : Int64)) from sq_L).tr (sq_I (Or.inr (Or.inl rfl)))).tr (show sq kg kn _ (ss_I (ss_I (ss_I (ss_L s 12 (0 : Int64)) 5 (os_I s 4)) 6 (0 : Int32)) 7 (0 : Int32)) from (show sq kg kn _ (ss_I (ss_I (ss_L s 12 (0 : Int64)) 5 (os_I s 4)) 6 (0 : Int32)) from sq_I (Or.inr (Or.inr (Or.inl rfl)))).tr (sq_I (Or.inr (Or.inr (Or.inr rfl))))))⟩, fun k => ?_⟩
      · rw [if_neg c]; exact f4
      · rw [if_neg c]; exact f4
      · rw [ek]; rfl
      · omega
      · omega
      · omega
      · show ff_X13_goOn_c0 N k s = _
        unfold ff_X13_goOn_c0
        rw [e1, Option.bind_some, Option.bind_some, e2, Option.bind_some, if_neg (show ¬ (Int32.ofInt (-1) = (32 : Int32)) by decide), if_neg (show ¬ (Int32.ofInt (-1) = (10 : Int32)) by decide), if_neg (show ¬ (0 ≤ Int32.ofInt (-1)) by decide)]
end GoOn2
