/-! LAYER 2. The law's picture: repair -/
section WR
variable {N : Nat} {o p q : os_T} {S : Nat → Nat} {T H F G : Int → Int → Int}
def q_lw1 (S : Nat → Nat) (G : Int → Int → Int) : Int → Int → Int := fun x y => bif q_th S G x y then 1 else 0
theorem wc_marks (hN : 1000 < N) (hS : sv S) (h : wh o S) (hp : wm p S G) (hG : wv S G) {n : Int32} : ∃ l, wm l S (q_lw1 S G) ∧ ∀ k4 : (os_T × Int32 × Int32) → Option (Int32 × os_T), ff_X13_repair_l26 N o k4 N (p, ss_I (ss_I (ss_I os_zero 0 (os_I o 1)) 1 (os_I o 0)) 2 (os_I o 1), n, (0 : Int32), (0 : Int32)) = ff_X13_repair_l106 N o k4 N (p, l, n, oz (decide (0 < q_cnt S (q_th S G))), (0 : Int32)) := by
  have hs := sv_a hS
  unfold ff_X13_repair_l26
  refine lo_gridP (N := N) (M := N) (step1 := fun (K : (os_T × Int32 × Int32) → Option (Int32 × os_T)) k26 s1 => ff_X13_repair_c26 N o K k26 s1.1 s1.2.1 s1.2.2.1 s1.2.2.2.1 s1.2.2.2.2) (step2 := fun K k26 k38 s1 => ff_X13_repair_c38 N o K k26 k38 s1.1 s1.2.1 s1.2.2.1 s1.2.2.2.1 s1.2.2.2.2.1 s1.2.2.2.2.2) (fun K (l : os_T) => ff_X13_repair_l106 N o K N (p, l, n, oz (decide (0 < q_cnt S (q_th S G))), (0 : Int32))) (fun y s => ∃ l, s = (p, l, n, oz (decide (0 < q_cn S G (S 0 * y))), Int32.ofInt (y : Int)) ∧ wm l S (q_vg S (fun _ _ => 0) (q_lw1 S G) y 0)) (fun y x s => ∃ l, s = (p, l, n, oz (decide (0 < q_cn S G (S 0 * y + x))), Int32.ofInt (y : Int), Int32.ofInt (x : Int)) ∧ wm l S (q_vg S (fun _ _ => 0) (q_lw1 S G) y x)) (fun l => wm l S (q_lw1 S G)) (S 0) (S 1) ?_ ?_ ?_ ?_ (by omega) (by omega) ⟨_, rfl, ⟨⟨h 1 (by decide), h 0 (by decide), h 1 (by decide)⟩, fun x y c => by rw [q_vg_0]; rfl⟩⟩
  · rintro y s hy ⟨l, rfl, hl⟩
    refine ⟨_, ⟨l, rfl, hl⟩, fun k r => ?_⟩
    show ff_X13_repair_c26 N o k r p l n (oz (decide (0 < q_cn S G (S 0 * y)))) (Int32.ofInt (y : Int)) = _
    unfold ff_X13_repair_c26
    simp only [ww_r hS h hy, if_false]
    rfl
  · rintro x y s hx hy ⟨l, rfl, hl⟩
    have hc : ic S (x : Int) (y : Int) := ic_n hx hy
    obtain ⟨k1, k2, k3, k4⟩ := wg hS hl hc
    have h2 := wm_hu hS hl hc (v := q_lw1 S G x y)
    obtain ⟨m1, m2, m3, m4⟩ := wg hS h2 hc
    rw [hu_at] at m4
    have hcn := q_cn_b (S := S) (H := G) (S 0 * y + x)
    refine ⟨_, ⟨_, rfl, by rw [← q_vg_s hc]; exact h2⟩, fun k r r2 => ?_⟩
    show ff_X13_repair_c38 N o k r r2 p l n (oz (decide (0 < q_cn S G (S 0 * y + x)))) (Int32.ofInt (y : Int)) (Int32.ofInt (x : Int)) = _
    unfold ff_X13_repair_c38
    simp only [ww_w hS h hx, k1, k2, if_true, if_false]
    rw [wc_thin hN hS h hp hG hc, Option.bind_some, show S 0 * y + (x + 1) = S 0 * y + x + 1 from rfl, q_cn_s, thk_at hx]
    unfold ff_X13_repair_b69 ff_X13_repair_b85 ff_X13_repair_b90
    unfold q_lw1 at m1 m2 m3 m4 ⊢
    cases ht : q_th S G x y with
    | true =>
      rw [ht] at m1 m2 m3 m4
      rw [oz_bt rfl]
      have e1 : (1 : Int32) = Int32.ofInt (bif true then 1 else 0) := rfl
      have ed : decide (0 < q_cn S G (S 0 * y + x) + (bif true then 1 else 0)) = true := decide_eq_true (by show 0 < _ + (1 : Int); omega)
      rw [ed]
      simp only [k3, if_true]
      by_cases cm : 0 < q_cn S G (S 0 * y + x)
      · rw [decide_eq_true cm, if_neg (show ¬ (oz true = 0) by decide), ii_1, ia_s]
        rfl
      · rw [decide_eq_false cm, if_pos (show oz false = 0 from rfl)]
        rw [e1]
        simp only [m1, m2, m3, m4, if_true]
        rw [show Int32.ofInt (bif true then 1 else 0) = Int32.ofInt 1 from rfl, ia_s]
        rfl
    | false =>
      rw [ht] at m1 m2 m3 m4
      rw [oz_bf rfl]
      have e1 : (0 : Int32) = Int32.ofInt (bif false then 1 else 0) := rfl
      have ed : decide (0 < q_cn S G (S 0 * y + x) + (bif false then 1 else 0)) = decide (0 < q_cn S G (S 0 * y + x)) := by show decide (0 < _ + (0 : Int)) = _; rw [Int.add_zero]
      rw [ed]
      simp only [k3, if_true]
      by_cases cm : 0 < q_cn S G (S 0 * y + x)
      · rw [decide_eq_true cm, if_neg (show ¬ (oz true = 0) by decide), ii_1, ia_s]
        rfl
      · rw [decide_eq_false cm, if_pos (show oz false = 0 from rfl)]
        have e2 : ((0 : Int32) = 1) = False := eq_false (by decide)
        have e0 : Int32.ofInt (bif false then 1 else 0) = 0 := rfl
        rw [e0] at m1 m2 m3 m4 ⊢
        simp only [m1, m2, m3, m4, e2, if_true, if_false]
        rw [ii_1, ia_s]
        rfl
  · rintro y s hy ⟨l, rfl, hl⟩
    refine ⟨_, ⟨l, rfl, by rw [← q_vg_r]; exact hl⟩, fun k r r2 => ?_⟩
    show ff_X13_repair_c38 N o k r r2 p l n (oz (decide (0 < q_cn S G (S 0 * y + S 0)))) (Int32.ofInt (y : Int)) (Int32.ofInt (S 0 : Int)) = _
    unfold ff_X13_repair_c38
    simp only [ww_W h, if_true]
    rw [ii_1, ia_s, Nat.mul_succ]
  · rintro s ⟨l, rfl, hl⟩
    rw [q_vg_f] at hl
    refine ⟨l, hl.cg fun x y c => q_vf_in c, fun k r => ?_⟩
    show ff_X13_repair_c26 N o k r p l n (oz (decide (0 < q_cn S G (S 0 * S 1)))) (Int32.ofInt (S 1 : Int)) = _
    unfold ff_X13_repair_c26
    simp only [ww_R h, if_true]
    rw [q_cn_all]
theorem q_ps_s {x y : Nat} (hx : x < S 0) : hu (fo (q_ps S H) (S 0 * y + x) H) x y (fo (q_ps S H) (S 0 * y + x) H x y - (bif q_th S H x y then 1 else 0)) = fo (q_ps S H) (S 0 * y + (x + 1)) H := by
  rw [show S 0 * y + (x + 1) = S 0 * y + x + 1 from rfl, fo_s]
  show _ = q_ps S H (S 0 * y + x) (fo (q_ps S H) (S 0 * y + x) H)
  generalize fo (q_ps S H) (S 0 * y + x) H = W
  unfold q_ps
  rw [thk_at hx, fg_mod hx, fg_div hx]
theorem wc_lower (hN : 1000 < N) (hS : sv S) (h : wh o S) (hp : wm p S G) {l : os_T} (hl : wm l S (q_lw1 S G)) {n : Int32} {b : Bool} : ∃ p', wm p' S (q_pass S G) ∧ ∀ k4 : (os_T × Int32 × Int32) → Option (Int32 × os_T), ff_X13_repair_l106 N o k4 N (p, l, n, oz b, (0 : Int32)) = k4 (p', n + oz b, oz b) := by
  have hs := sv_a hS
  unfold ff_X13_repair_l106
  refine lo_gridP (N := N) (M := N) (step1 := fun (K : (os_T × Int32 × Int32) → Option (Int32 × os_T)) k106 s1 => ff_X13_repair_c106 N o K k106 s1.1 s1.2.1 s1.2.2.1 s1.2.2.2.1 s1.2.2.2.2) (step2 := fun K k106 k118 s1 => ff_X13_repair_c118 N o K k106 k118 s1.1 s1.2.1 s1.2.2.1 s1.2.2.2.1 s1.2.2.2.2.1 s1.2.2.2.2.2) (fun K (p' : os_T) => K (p', n + oz b, oz b)) (fun y s => ∃ p', s = (p', l, n, oz b, Int32.ofInt (y : Int)) ∧ wm p' S (fo (q_ps S G) (S 0 * y) G)) (fun y x s => ∃ p', s = (p', l, n, oz b, Int32.ofInt (y : Int), Int32.ofInt (x : Int)) ∧ wm p' S (fo (q_ps S G) (S 0 * y + x) G)) (fun p' => wm p' S (q_pass S G)) (S 0) (S 1) ?_ ?_ ?_ ?_ (by omega) (by omega) ⟨p, rfl, hp⟩
  · rintro y s hy ⟨p', rfl, h'⟩
    refine ⟨_, ⟨p', rfl, h'⟩, fun k r => ?_⟩
    show ff_X13_repair_c106 N o k r p' l n (oz b) (Int32.ofInt (y : Int)) = _
    unfold ff_X13_repair_c106
    simp only [ww_r hS h hy, if_false]
    rfl
  · rintro x y s hx hy ⟨p', rfl, h'⟩
    have hc : ic S (x : Int) (y : Int) := ic_n hx hy
    obtain ⟨k1, k2, k3, k4⟩ := wg hS h' hc
    obtain ⟨m1, m2, m3, m4⟩ := wg hS hl hc
    refine ⟨_, ⟨_, rfl, by rw [← q_ps_s hx]; exact wm_hu hS h' hc⟩, fun k r r2 => ?_⟩
    show ff_X13_repair_c118 N o k r r2 p' l n (oz b) (Int32.ofInt (y : Int)) (Int32.ofInt (x : Int)) = _
    unfold ff_X13_repair_c118
    simp only [ww_w hS h hx, k1, k2, k3, k4, m1, m2, m3, m4, if_true, if_false]
    rw [ia_sub, ii_1, ia_s]
    rfl
  · rintro y s hy ⟨p', rfl, h'⟩
    refine ⟨_, ⟨p', rfl, by rw [Nat.mul_succ]; exact h'⟩, fun k r r2 => ?_⟩
    show ff_X13_repair_c118 N o k r r2 p' l n (oz b) (Int32.ofInt (y : Int)) (Int32.ofInt (S 0 : Int)) = _
    unfold ff_X13_repair_c118
    simp only [ww_W h, if_true]
    rw [ii_1, ia_s]
  · rintro s ⟨p', rfl, h'⟩
    refine ⟨p', h', fun k r => ?_⟩
    show ff_X13_repair_c106 N o k r p' l n (oz b) (Int32.ofInt (S 1 : Int)) = _
    unfold ff_X13_repair_c106 ff_X13_repair_b169
    simp only [ww_R h, if_true]
    cases b <;> rfl
theorem q_sumz (hS : sv S) (hz : wz S) (hH : hv S H) : 0 ≤ q_sum S H ∧ q_sum S H ≤ 960 := by
  have hs := sv_a hS
  have hwh : S 0 * S 1 ≤ 8 * 6 := Nat.mul_le_mul hz.1 hz.2
  have : 0 ≤ q_sum S H ∧ q_sum S H ≤ 20 * (S 0 * S 1 : Nat) := gr_inv (fun n a => 0 ≤ a ∧ a ≤ 20 * (n : Int)) ⟨Int.le_refl _, by decide⟩ fun x y hx hy a ha => by
    have h0 := hH x y (ic_n hx hy)
    show 0 ≤ a + H x y ∧ a + H x y ≤ 20 * ((S 0 * y + x + 1 : Nat) : Int)
    omega
  omega
/-- each pass lowers the volume -/
theorem q_np_sum (hS : sv S) (hH : hv S H) : ∀ k : Nat, k ≤ q_np S H → q_sum S (q_hs S H k) ≤ q_sum S H - k := by
  obtain ⟨i1, -, -⟩ := q_nps hS hH
  intro k
  induction k with
  | zero => intro _; show q_sum S H ≤ _; omega
  | succ k ih =>
    intro hk
    have := i1 k (by omega)
    rw [q_hs_s, q_sump hS]
    have := ih (by omega)
    omega
theorem q_npz (hS : sv S) (hz : wz S) (hH : hv S H) : q_np S H ≤ 960 := by
  have := q_np_sum hS hH _ (Nat.le_refl _)
  have h1 := q_sumz hS hz hH
  have h2 := q_sumz hS hz (q_hsv hS hH (q_np S H))
  omega
theorem wc_repair (hN : 1000 < N) (hS : sv S) (hz : wz S) (h : wh o S) (hp : wm p S H) (hH : hv S H) : ∃ p', ff_X13_repair N o p = some (Int32.ofInt (q_np S H : Nat), p') ∧ wm p' S (q_hs S H (q_np S H)) := by
  have hs := sv_a hS
  obtain ⟨z0, z1⟩ := id hz
  obtain ⟨i1, i2, -⟩ := q_nps hS hH
  have hn := q_npz hS hz hH
  unfold ff_X13_repair ff_X13_repair_l4
  have g : ((¬ os_I o 1 < 0 ∧ ¬ os_I o 0 < 0) ∧ Int32.toNatClampNeg (os_I o 1) ≤ 8 ∧ Int32.toNatClampNeg (os_I o 0) ≤ 8) = True := by
    rw [h 1 (by decide), h 0 (by decide), i0_lt (by omega), i0_lt (by omega), ia_nat (by omega) (by omega), ia_nat (by omega) (by omega)]
    exact eq_true (by omega)
  have pass : ∀ (k : Nat) (p' : os_T), k ≤ q_np S H → wm p' S (q_hs S H k) → ∃ p2, wm p2 S (q_hs S H (k + 1)) ∧ ∀ r : (os_T × Int32 × Int32) → Option (Int32 × os_T), ff_X13_repair_c4 N o r p' (Int32.ofInt (k : Int)) (1 : Int32) = r (p2, Int32.ofInt (k : Int) + oz (decide (0 < q_cnt S (q_th S (q_hs S H k)))), oz (decide (0 < q_cnt S (q_th S (q_hs S H k))))) := fun k p' hk h' => by
    obtain ⟨l, hl, e1⟩ := wc_marks (N := N) (n := Int32.ofInt (k : Int)) hN hS h h' ((q_hsv hS hH k).wv hS)
    obtain ⟨p2, h2, e2⟩ := wc_lower (N := N) (n := Int32.ofInt (k : Int)) (b := decide (0 < q_cnt S (q_th S (q_hs S H k)))) hN hS h h' hl
    refine ⟨p2, h2, fun r => ?_⟩
    unfold ff_X13_repair_c4
    simp only [g, if_true]
    rw [if_neg (by decide), e1, e2]
  have key : ∃ v, (∃ p', v = some (Int32.ofInt (q_np S H : Nat), p') ∧ wm p' S (q_hs S H (q_np S H))) ∧ os_loop (fun k4 s1 => ff_X13_repair_c4 N o k4 s1.1 s1.2.1 s1.2.2) 1000 (p, Int32.ofInt ((0 : Nat) : Int), (1 : Int32)) = v := by
    refine lo_cnt (fun k s => ∃ p', (k ≤ q_np S H ∧ s = (p', Int32.ofInt (k : Int), (1 : Int32)) ∧ wm p' S (q_hs S H k)) ∨ (k = q_np S H + 1 ∧ s = (p', Int32.ofInt (q_np S H : Nat), (0 : Int32)) ∧ wm p' S (q_hs S H (q_np S H)))) (fun v => ∃ p', v = some (Int32.ofInt (q_np S H : Nat), p') ∧ wm p' S (q_hs S H (q_np S H))) (q_np S H + 1) ?_ ?_ (by omega) ⟨p, Or.inl ⟨Nat.zero_le _, rfl, hp⟩⟩
    · rintro k s hk ⟨p', ⟨hk2, rfl, h'⟩ | ⟨hk2, -, -⟩⟩
      · obtain ⟨p2, h2, e⟩ := pass k p' hk2 h'
        by_cases ce : k = q_np S H
        · refine ⟨(p2, Int32.ofInt (q_np S H : Nat), (0 : Int32)), ⟨p2, Or.inr ⟨by omega, rfl, ?_⟩⟩, fun r => ?_⟩
          · refine h2.cg fun x y c => ?_
            have hno : q_th S (q_hs S H k) x y = false := by
              cases ht : q_th S (q_hs S H k) x y with
              | false => rfl
              | true => exact absurd (q_cnt_pos c ht) (by rw [ce]; exact i2)
            rw [q_hs_s, q_psc hS c, hno, ce]
            exact Int.sub_zero _
          · refine (e r).trans ?_
            rw [decide_eq_false (by rw [ce]; exact i2), ce, oz_f, ii_0, ia_add, Int.add_zero]
        · refine ⟨_, ⟨p2, Or.inl ⟨by omega, rfl, h2⟩⟩, fun r => ?_⟩
          refine (e r).trans ?_
          rw [decide_eq_true (i1 k (by omega)), oz_t, ii_1, ia_s]
      · omega
    · rintro s ⟨p', ⟨hk2, -, -⟩ | ⟨-, rfl, h'⟩⟩
      · omega
      · refine ⟨_, ⟨p', rfl, h'⟩, fun r => ?_⟩
        show ff_X13_repair_c4 N o r p' (Int32.ofInt (q_np S H : Nat)) (0 : Int32) = _
        unfold ff_X13_repair_c4
        rw [if_pos rfl]
  obtain ⟨v, ⟨p', rfl, hm⟩, e⟩ := key
  exact ⟨p', e, hm⟩
end WR
