/-! LAYER 2. The law's picture: runs, thin cells -/
section WRun
variable {N : Nat} {o p q : os_T} {S : Nat → Nat} {T H F : Int → Int → Int}
theorem wr_step {k22 : (Int32 × Int32 × Int32 × Int32 × Int32 × Int32 × Int32 × Int32) → Option Int32} {x1 x2 x3 : Int32} {h n la k t ps : Int} {he : Bool} (hh : ib h) (ht : ib t) (hk : ib k) (hps : ib ps) (hpos : (x3 = 0 ∧ x2 = Int32.ofInt ps) ∨ (x3 ≠ 0 ∧ x1 = Int32.ofInt ps)) : ff_X13_run_b67 N o p k22 x1 x2 x3 (Int32.ofInt h) (Int32.ofInt n) (Int32.ofInt la) (oz he) (Int32.ofInt k) (Int32.ofInt t) = k22 (x1, x2, x3, Int32.ofInt h, Int32.ofInt (if h ≤ t ∧ (he = true ∨ k = ps) then la + 1 else n), Int32.ofInt (if h ≤ t then la + 1 else 0), oz (decide (h ≤ t ∧ (he = true ∨ k = ps))), Int32.ofInt (k + 1)) := by
  unfold ff_X13_run_b67 ff_X13_run_b77
  rw [ii_lt ht hh]
  by_cases c : h ≤ t
  · rw [if_neg (by omega), if_neg (by decide)]
    unfold ff_X13_run_b92
    rw [if_neg (by decide), if_pos c, ii_1, ia_add]
    have f118 : ff_X13_run_b118 N o p k22 x1 x2 x3 (Int32.ofInt h) (Int32.ofInt n) (Int32.ofInt (la + 1)) (Int32.ofInt k) = k22 (x1, x2, x3, Int32.ofInt h, Int32.ofInt (la + 1), Int32.ofInt (la + 1), oz true, Int32.ofInt (k + 1)) := by
      unfold ff_X13_run_b118 ff_X13_run_b123 ff_X13_run_b137
      rw [if_neg (by decide), ii_1, ia_add]; rfl
    have f122 : ff_X13_run_b122 N o p k22 x1 x2 x3 (Int32.ofInt h) (Int32.ofInt n) (Int32.ofInt (la + 1)) (Int32.ofInt k) = k22 (x1, x2, x3, Int32.ofInt h, Int32.ofInt n, Int32.ofInt (la + 1), oz false, Int32.ofInt (k + 1)) := by
      unfold ff_X13_run_b122 ff_X13_run_b123 ff_X13_run_b137
      rw [if_pos rfl, ii_1, ia_add]; rfl
    have f115 : ff_X13_run_b115 N o p k22 x1 x2 x3 (Int32.ofInt h) (Int32.ofInt n) (Int32.ofInt (la + 1)) (Int32.ofInt k) (Int32.ofInt ps) (Int32.ofInt k) = if k = ps then k22 (x1, x2, x3, Int32.ofInt h, Int32.ofInt (la + 1), Int32.ofInt (la + 1), oz true, Int32.ofInt (k + 1)) else k22 (x1, x2, x3, Int32.ofInt h, Int32.ofInt n, Int32.ofInt (la + 1), oz false, Int32.ofInt (k + 1)) := by
      unfold ff_X13_run_b115
      rw [ii_eq hk hps, f118, f122]
    cases he with
    | true => rw [if_neg (by decide), f118, if_pos ⟨c, Or.inl rfl⟩, decide_eq_true ⟨c, Or.inl rfl⟩]
    | false =>
      rw [if_pos (show oz false = 0 from rfl)]
      have e : (if x3 = 0 then ff_X13_run_b115 N o p k22 x1 x2 x3 (Int32.ofInt h) (Int32.ofInt n) (Int32.ofInt (la + 1)) (Int32.ofInt k) x2 (Int32.ofInt k) else ff_X13_run_b115 N o p k22 x1 x2 x3 (Int32.ofInt h) (Int32.ofInt n) (Int32.ofInt (la + 1)) (Int32.ofInt k) x1 (Int32.ofInt k)) = ff_X13_run_b115 N o p k22 x1 x2 x3 (Int32.ofInt h) (Int32.ofInt n) (Int32.ofInt (la + 1)) (Int32.ofInt k) (Int32.ofInt ps) (Int32.ofInt k) := by
        rcases hpos with ⟨h3, e2⟩ | ⟨h3, e1⟩
        · rw [if_pos h3, ← e2]
        · rw [if_neg h3, ← e1]
      rw [e, f115]
      by_cases c2 : k = ps
      · rw [if_pos c2, if_pos ⟨c, Or.inr c2⟩, decide_eq_true ⟨c, Or.inr c2⟩]
      · have hno : ¬ (h ≤ t ∧ (false = true ∨ k = ps)) := fun z => by
          rcases z.2 with z | z
          · cases z
          · exact c2 z
        rw [if_neg c2, if_neg hno, decide_eq_false hno]
  · rw [if_pos (by omega), if_pos rfl]
    unfold ff_X13_run_b92 ff_X13_run_b122 ff_X13_run_b123 ff_X13_run_b137
    rw [if_pos rfl, if_pos rfl, if_neg (fun z => c z.1), if_neg c, decide_eq_false (fun z => c z.1), ii_1, ia_add]
    rfl
/-- what the numbers are after k cells: s where the run begins, e one behind its end -/
def wr_I (ps s e : Int) (k : Int) (n la : Int) (he : Bool) : Prop := 0 ≤ la ∧ la ≤ k ∧ 0 ≤ n ∧ n ≤ k ∧ (k ≤ ps → n = 0 ∧ he = false ∧ (s ≤ k → la = k - s)) ∧ (ps < k → k ≤ e → n = k - s ∧ he = true ∧ la = k - s) ∧ (e < k → n = e - s ∧ he = false)
theorem wr_I0 {ps s e : Int} (h0 : 0 ≤ s) (h1 : s ≤ ps) (h2 : ps < e) : wr_I ps s e 0 0 0 false :=
  ⟨Int.le_refl _, Int.le_refl _, Int.le_refl _, Int.le_refl _, fun _ => ⟨rfl, rfl, fun _ => by omega⟩, fun _ _ => by omega, fun _ => by omega⟩
theorem wr_Is {ps s e k n la h t : Int} {he : Bool} (h0 : 0 ≤ s) (h1 : s ≤ ps) (h2 : ps < e) (hk : 0 ≤ k) (hI : wr_I ps s e k n la he) (hin : s ≤ k → k < e → h ≤ t) (hb : k = s - 1 → ¬ h ≤ t) (ha : k = e → ¬ h ≤ t) : wr_I ps s e (k + 1) (if h ≤ t ∧ (he = true ∨ k = ps) then la + 1 else n) (if h ≤ t then la + 1 else 0) (decide (h ≤ t ∧ (he = true ∨ k = ps))) := by
  obtain ⟨i1, i2, i3, i4, i5, i6, i7⟩ := hI
  by_cases c : h ≤ t
  · by_cases c2 : he = true ∨ k = ps
    · rw [if_pos ⟨c, c2⟩, if_pos c, decide_eq_true ⟨c, c2⟩]
      have hle : ps ≤ k := by
        rcases c2 with c2 | c2
        · refine Int.not_lt.mp fun z => ?_
          have := (i5 (by omega)).2.1
          rw [c2] at this; cases this
        · omega
      have hke : k < e := by
        refine Int.not_le.mp fun z => ?_
        rcases Int.lt_or_eq_of_le z with z | z
        · have := (i7 z).2
          rcases c2 with c2 | c2
          · rw [c2] at this; cases this
          · omega
        · exact ha z.symm c
      have hla : la = k - s := by
        rcases Int.lt_or_eq_of_le hle with z | z
        · exact (i6 z (by omega)).2.2
        · exact (i5 (by omega)).2.2 (by omega)
      exact ⟨by omega, by omega, by omega, by omega, fun _ => by omega, fun _ _ => ⟨by omega, rfl, by omega⟩, fun _ => by omega⟩
    · have hno : ¬ (h ≤ t ∧ (he = true ∨ k = ps)) := fun z => c2 z.2
      have hf : he = false := by cases he with | true => exact absurd (Or.inl rfl) c2 | false => rfl
      rw [if_neg hno, if_pos c, decide_eq_false hno]
      refine ⟨by omega, by omega, by omega, by omega, fun z => ⟨(i5 (by omega)).1, rfl, fun z2 => ?_⟩, fun z z2 => ?_, fun z => ?_⟩
      · by_cases c3 : s ≤ k
        · have := (i5 (by omega)).2.2 c3
          omega
        · exact absurd c (hb (by omega))
      · exfalso
        have : ps < k := by have := fun z => c2 (Or.inr z); omega
        have := (i6 this (by omega)).2.1
        rw [hf] at this; cases this
      · by_cases c3 : e = k
        · exact absurd c (ha c3.symm)
        · exact ⟨(i7 (by omega)).1, rfl⟩
  · have hno : ¬ (h ≤ t ∧ (he = true ∨ k = ps)) := fun z => c z.1
    rw [if_neg hno, if_neg c, decide_eq_false hno]
    have hx : ¬ (s ≤ k ∧ k < e) := fun z => c (hin z.1 z.2)
    refine ⟨Int.le_refl _, by omega, by omega, by omega, fun z => ⟨(i5 (by omega)).1, rfl, fun z2 => by omega⟩, fun z z2 => by omega, fun z => ⟨?_, rfl⟩⟩
    by_cases c3 : e < k
    · exact (i7 c3).1
    · exact (i6 (by omega) (by omega)).1.trans (by omega)
theorem wc_run1 (hN : 1000 < N) (hS : sv S) (h : wh o S) (hm : wm p S H) (hH : wv S H) {x y : Int} (c : ic S x y) : ff_X13_run N o p (Int32.ofInt x) (Int32.ofInt y) (1 : Int32) = some (Int32.ofInt ((1 + q_uh S H x y + q_wh S H x y : Nat) : Int)) := by
  have hs := sv_a hS
  have hr := ic_r hS c
  have h0 := hH x y c
  obtain ⟨u1, u2, u3⟩ := q_uhs hS (H := H) c
  obtain ⟨w1, w2, w3⟩ := q_whs hS (H := H) c
  obtain ⟨g1, g2, g3, g4⟩ := wg hS hm c
  have hu : x + q_uh S H x y < S 0 := by
    rcases Nat.eq_zero_or_pos (q_uh S H x y) with z | z
    · omega
    · have := (u1 (q_uh S H x y - 1) (by omega)).1; omega
  have hw : 0 ≤ x - q_wh S H x y := by
    rcases Nat.eq_zero_or_pos (q_wh S H x y) with z | z
    · omega
    · have := (w1 (q_wh S H x y - 1) (by omega)).1; omega
  unfold ff_X13_run ff_X13_run_l22
  simp only [g1, g2, g3, g4, if_true]
  have key := lo_cnt (N := N) (step := fun k22 s1 => ff_X13_run_c22 N o p k22 s1.1 s1.2.1 s1.2.2.1 s1.2.2.2.1 s1.2.2.2.2.1 s1.2.2.2.2.2.1 s1.2.2.2.2.2.2.1 s1.2.2.2.2.2.2.2) (fun k s => ∃ (n la : Int) (he : Bool), s = (Int32.ofInt x, Int32.ofInt y, (1 : Int32), Int32.ofInt (H x y), Int32.ofInt n, Int32.ofInt la, oz he, Int32.ofInt (k : Int)) ∧ wr_I x (x - q_wh S H x y) (x + 1 + q_uh S H x y) k n la he) (fun v => v = some (Int32.ofInt ((1 + q_uh S H x y + q_wh S H x y : Nat) : Int))) (S 0) ?_ ?_ (by omega) (s := (Int32.ofInt x, Int32.ofInt y, (1 : Int32), Int32.ofInt (H x y), (0 : Int32), (0 : Int32), (0 : Int32), (0 : Int32))) ⟨0, 0, false, rfl, wr_I0 (by omega) (by omega) (by omega)⟩
  · obtain ⟨v, hv, e⟩ := key
    rw [e, hv]
  · rintro k s hk ⟨n, la, he, rfl, hI⟩
    have hc : ic S (k : Int) y := ⟨by omega, by omega, c.2.2⟩
    have ht := hH _ _ hc
    obtain ⟨k1, k2, k3, k4⟩ := wg hS hm hc
    refine ⟨_, ⟨_, _, _, rfl, wr_Is (h := H x y) (t := H k y) (by omega) (by omega) (by omega) (by omega) hI ?_ ?_ ?_⟩, fun r => ?_⟩
    · intro z1 z2
      by_cases e : (k : Int) = x
      · rw [e]; omega
      · by_cases e2 : x < (k : Int)
        · have := (u1 ((k : Int) - x - 1).toNat (by omega)).2
          rwa [show x + (1 + ((((k : Int) - x - 1).toNat : Nat) : Int)) * 1 = (k : Int) by omega, show y + (1 + ((((k : Int) - x - 1).toNat : Nat) : Int)) * 0 = y by omega] at this
        · have := (w1 (x - (k : Int) - 1).toNat (by omega)).2
          rwa [show x - (1 + (((x - (k : Int) - 1).toNat : Nat) : Int)) * 1 = (k : Int) by omega, show y - (1 + (((x - (k : Int) - 1).toNat : Nat) : Int)) * 0 = y by omega] at this
    · intro z z2
      refine w2 ⟨?_, ?_⟩
      · rw [show x - (1 + (q_wh S H x y : Int)) * 1 = (k : Int) by omega, show y - (1 + (q_wh S H x y : Int)) * 0 = y by omega]; exact hc
      · rw [show x - (1 + (q_wh S H x y : Int)) * 1 = (k : Int) by omega, show y - (1 + (q_wh S H x y : Int)) * 0 = y by omega]; exact z2
    · intro z z2
      refine u2 ⟨?_, ?_⟩
      · rw [show x + (1 + (q_uh S H x y : Int)) * 1 = (k : Int) by omega, show y + (1 + (q_uh S H x y : Int)) * 0 = y by omega]; exact hc
      · rw [show x + (1 + (q_uh S H x y : Int)) * 1 = (k : Int) by omega, show y + (1 + (q_uh S H x y : Int)) * 0 = y by omega]; exact z2
    · show ff_X13_run_c22 N o p r (Int32.ofInt x) (Int32.ofInt y) (1 : Int32) (Int32.ofInt (H x y)) (Int32.ofInt n) (Int32.ofInt la) (oz he) (Int32.ofInt (k : Int)) = _
      unfold ff_X13_run_c22 ff_X13_run_b39
      simp only [ww_w hS h hk, k1, k2, k3, k4, if_true, if_false, show ((1 : Int32) = 0) = False from eq_false (by decide)]
      rw [wr_step (ps := x) (by omega) (by omega) (by omega) (by omega) (Or.inr ⟨by decide, rfl⟩)]
      rfl
  · rintro s ⟨n, la, he, rfl, hI⟩
    refine ⟨_, rfl, fun r => ?_⟩
    show ff_X13_run_c22 N o p r (Int32.ofInt x) (Int32.ofInt y) (1 : Int32) (Int32.ofInt (H x y)) (Int32.ofInt n) (Int32.ofInt la) (oz he) (Int32.ofInt (S 0 : Int)) = _
    unfold ff_X13_run_c22 ff_X13_run_b39
    simp only [ww_W h, if_true, if_false, show ((1 : Int32) = 0) = False from eq_false (by decide)]
    obtain ⟨i1, i2, i3, i4, i5, i6, i7⟩ := hI
    have : n = 1 + q_uh S H x y + q_wh S H x y := by
      by_cases c3 : x + 1 + q_uh S H x y < (S 0 : Int)
      · have := (i7 c3).1; omega
      · have := (i6 (by omega) (by omega)).1; omega
    rw [this]
    congr 2
theorem wc_run0 (hN : 1000 < N) (hS : sv S) (h : wh o S) (hm : wm p S H) (hH : wv S H) {x y : Int} (c : ic S x y) : ff_X13_run N o p (Int32.ofInt x) (Int32.ofInt y) (0 : Int32) = some (Int32.ofInt ((1 + q_uv S H x y + q_wv S H x y : Nat) : Int)) := by
  have hs := sv_a hS
  have hr := ic_r hS c
  have h0 := hH x y c
  obtain ⟨u1, u2, u3⟩ := q_uvs hS (H := H) c
  obtain ⟨w1, w2, w3⟩ := q_wvs hS (H := H) c
  obtain ⟨g1, g2, g3, g4⟩ := wg hS hm c
  have hu : y + q_uv S H x y < S 1 := by
    rcases Nat.eq_zero_or_pos (q_uv S H x y) with z | z
    · omega
    · have := (u1 (q_uv S H x y - 1) (by omega)).1; omega
  have hw : 0 ≤ y - q_wv S H x y := by
    rcases Nat.eq_zero_or_pos (q_wv S H x y) with z | z
    · omega
    · have := (w1 (q_wv S H x y - 1) (by omega)).1; omega
  unfold ff_X13_run ff_X13_run_l22
  simp only [g1, g2, g3, g4, if_true]
  have key := lo_cnt (N := N) (step := fun k22 s1 => ff_X13_run_c22 N o p k22 s1.1 s1.2.1 s1.2.2.1 s1.2.2.2.1 s1.2.2.2.2.1 s1.2.2.2.2.2.1 s1.2.2.2.2.2.2.1 s1.2.2.2.2.2.2.2) (fun k s => ∃ (n la : Int) (he : Bool), s = (Int32.ofInt x, Int32.ofInt y, (0 : Int32), Int32.ofInt (H x y), Int32.ofInt n, Int32.ofInt la, oz he, Int32.ofInt (k : Int)) ∧ wr_I y (y - q_wv S H x y) (y + 1 + q_uv S H x y) k n la he) (fun v => v = some (Int32.ofInt ((1 + q_uv S H x y + q_wv S H x y : Nat) : Int))) (S 1) ?_ ?_ (by omega) (s := (Int32.ofInt x, Int32.ofInt y, (0 : Int32), Int32.ofInt (H x y), (0 : Int32), (0 : Int32), (0 : Int32), (0 : Int32))) ⟨0, 0, false, rfl, wr_I0 (by omega) (by omega) (by omega)⟩
  · obtain ⟨v, hv, e⟩ := key
    rw [e, hv]
  · rintro k s hk ⟨n, la, he, rfl, hI⟩
    have hc : ic S x (k : Int) := ⟨c.1, c.2.1, by omega, by omega⟩
    have ht := hH _ _ hc
    obtain ⟨k1, k2, k3, k4⟩ := wg hS hm hc
    refine ⟨_, ⟨_, _, _, rfl, wr_Is (h := H x y) (t := H x k) (by omega) (by omega) (by omega) (by omega) hI ?_ ?_ ?_⟩, fun r => ?_⟩
    · intro z1 z2
      by_cases e : (k : Int) = y
      · rw [e]; omega
      · by_cases e2 : y < (k : Int)
        · have := (u1 ((k : Int) - y - 1).toNat (by omega)).2
          rwa [show y + (1 + ((((k : Int) - y - 1).toNat : Nat) : Int)) * 1 = (k : Int) by omega, show x + (1 + ((((k : Int) - y - 1).toNat : Nat) : Int)) * 0 = x by omega] at this
        · have := (w1 (y - (k : Int) - 1).toNat (by omega)).2
          rwa [show y - (1 + (((y - (k : Int) - 1).toNat : Nat) : Int)) * 1 = (k : Int) by omega, show x - (1 + (((y - (k : Int) - 1).toNat : Nat) : Int)) * 0 = x by omega] at this
    · intro z z2
      refine w2 ⟨?_, ?_⟩
      · rw [show y - (1 + (q_wv S H x y : Int)) * 1 = (k : Int) by omega, show x - (1 + (q_wv S H x y : Int)) * 0 = x by omega]; exact hc
      · rw [show y - (1 + (q_wv S H x y : Int)) * 1 = (k : Int) by omega, show x - (1 + (q_wv S H x y : Int)) * 0 = x by omega]; exact z2
    · intro z z2
      refine u2 ⟨?_, ?_⟩
      · rw [show y + (1 + (q_uv S H x y : Int)) * 1 = (k : Int) by omega, show x + (1 + (q_uv S H x y : Int)) * 0 = x by omega]; exact hc
      · rw [show y + (1 + (q_uv S H x y : Int)) * 1 = (k : Int) by omega, show x + (1 + (q_uv S H x y : Int)) * 0 = x by omega]; exact z2
    · show ff_X13_run_c22 N o p r (Int32.ofInt x) (Int32.ofInt y) (0 : Int32) (Int32.ofInt (H x y)) (Int32.ofInt n) (Int32.ofInt la) (oz he) (Int32.ofInt (k : Int)) = _
      unfold ff_X13_run_c22 ff_X13_run_b39
      simp only [ww_r hS h hk, k1, k2, k3, k4, if_true, if_false]
      rw [wr_step (ps := y) (by omega) (by omega) (by omega) (by omega) (Or.inl ⟨rfl, rfl⟩)]
      rfl
  · rintro s ⟨n, la, he, rfl, hI⟩
    refine ⟨_, rfl, fun r => ?_⟩
    show ff_X13_run_c22 N o p r (Int32.ofInt x) (Int32.ofInt y) (0 : Int32) (Int32.ofInt (H x y)) (Int32.ofInt n) (Int32.ofInt la) (oz he) (Int32.ofInt (S 1 : Int)) = _
    unfold ff_X13_run_c22 ff_X13_run_b39
    simp only [ww_R h, if_true]
    obtain ⟨i1, i2, i3, i4, i5, i6, i7⟩ := hI
    have : n = 1 + q_uv S H x y + q_wv S H x y := by
      by_cases c3 : y + 1 + q_uv S H x y < (S 1 : Int)
      · have := (i7 c3).1; omega
      · have := (i6 (by omega) (by omega)).1; omega
    rw [this]
    congr 2
theorem wc_thin (hN : 1000 < N) (hS : sv S) (h : wh o S) (hm : wm p S H) (hH : wv S H) {x y : Int} (c : ic S x y) : ff_X13_isThin N o p (Int32.ofInt x) (Int32.ofInt y) = some (oz (q_th S H x y)) := by
  have hs := sv_a hS
  have h0 := hH x y c
  have u3 := (q_uhs hS (H := H) c).2.2
  have w3 := (q_whs hS (H := H) c).2.2
  have u4 := (q_uvs hS (H := H) c).2.2
  have w4 := (q_wvs hS (H := H) c).2.2
  obtain ⟨g1, g2, g3, g4⟩ := wg hS hm c
  unfold ff_X13_isThin
  simp only [g1, g2, g3, g4, if_true]
  rw [h 4 (by decide), h 5 (by decide), wc_run1 hN hS h hm hH c, wc_run0 hN hS h hm hH c, ii_le (by omega) (by omega)]
  simp only [Option.bind_some]
  rw [ii_le (by omega) (by omega), ii_le (by omega) (by omega)]
  unfold q_th
  by_cases ct : (S 4 : Int) < H x y ∧ 1 + q_uh S H x y + q_wh S H x y < S 5 ∧ 1 + q_uv S H x y + q_wv S H x y < S 5
  · rw [decide_eq_true ct, if_neg (by omega), if_neg (by omega), if_neg (by omega)]; rfl
  · rw [decide_eq_false ct]
    repeat' split
    all_goals first | rfl | (exfalso; omega)
end WRun
