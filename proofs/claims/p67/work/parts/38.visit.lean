/-! LAYER 2. Loops that visit each cell once; how many cells differ -/
section Visit
variable {N : Nat} {o : os_T} {S : Nat → Nat} {T H : Int → Int → Int}
theorem q_df_self (G : Int → Int → Int) : q_df S G G = 0 := by
  have : ∀ n, fo (fg (S 0) (fun x y a => a + (bif decide (G x y ≠ G x y) then 1 else 0))) n (0 : Int) = 0 := by
    intro n
    induction n with
    | zero => rfl
    | succ n ih =>
      rw [fo_s, ih]
      show (0 : Int) + (bif decide (G ((n % S 0 : Nat) : Int) ((n / S 0 : Nat) : Int) ≠ G ((n % S 0 : Nat) : Int) ((n / S 0 : Nat) : Int)) then 1 else 0) = 0
      rw [decide_eq_false (fun z => z rfl)]
      rfl
  exact this _
theorem q_df_cg {G G2 : Int → Int → Int} (hS : sv S) (h : ∀ x y, ic S x y → G x y = G2 x y) : q_df S H G = q_df S H G2 := by
  refine gr_congr fun x y hx hy a => ?_
  show a + (bif decide (H x y ≠ G x y) then 1 else 0) = a + (bif decide (H x y ≠ G2 x y) then 1 else 0)
  rw [h x y (ic_n hx hy)]
theorem q_df_b {G : Int → Int → Int} (hS : sv S) : 0 ≤ q_df S H G ∧ q_df S H G ≤ 192 := by
  have hwh := sv_wh hS
  have : 0 ≤ q_df S H G ∧ q_df S H G ≤ (S 0 * S 1 : Nat) := gr_inv (fun n a => 0 ≤ a ∧ a ≤ (n : Int)) ⟨Int.le_refl _, by decide⟩ fun x y hx hy a ha => by
    show 0 ≤ a + (bif decide (H x y ≠ G x y) then 1 else 0) ∧ a + (bif decide (H x y ≠ G x y) then 1 else 0) ≤ ((S 0 * y + x + 1 : Nat) : Int)
    cases decide (H x y ≠ G x y) <;> simp only [cond_true, cond_false] <;> omega
  omega
/-- a cell that was as at first gets another height -/
theorem q_df_hu {G : Int → Int → Int} {x y v : Int} (c : ic S x y) (e : G x y = H x y) : q_df S H (hu G x y v) = q_df S H G + (if H x y = v then 0 else 1) := by
  obtain ⟨k0, hk0, rfl, rfl⟩ := ck_of c
  have key : ∀ n, fo (fg (S 0) (fun x y a => a + (bif decide (H x y ≠ hu G ((k0 % S 0 : Nat) : Int) ((k0 / S 0 : Nat) : Int) v x y) then 1 else 0))) n (0 : Int) = fo (fg (S 0) (fun x y a => a + (bif decide (H x y ≠ G x y) then 1 else 0))) n (0 : Int) + (if k0 < n then (if H ((k0 % S 0 : Nat) : Int) ((k0 / S 0 : Nat) : Int) = v then 0 else 1) else 0) := by
    intro n
    induction n with
    | zero => rw [if_neg (Nat.not_lt_zero k0)]; rfl
    | succ n ih =>
      rw [fo_s, fo_s]
      show fo _ n 0 + (bif decide (H ((n % S 0 : Nat) : Int) ((n / S 0 : Nat) : Int) ≠ hu G ((k0 % S 0 : Nat) : Int) ((k0 / S 0 : Nat) : Int) v ((n % S 0 : Nat) : Int) ((n / S 0 : Nat) : Int)) then 1 else 0) = fo _ n 0 + (bif decide (H ((n % S 0 : Nat) : Int) ((n / S 0 : Nat) : Int) ≠ G ((n % S 0 : Nat) : Int) ((n / S 0 : Nat) : Int)) then 1 else 0) + _
      rw [ih]
      by_cases en : n = k0
      · subst en
        rw [hu_at, if_neg (Nat.lt_irrefl n), if_pos (Nat.lt_succ_self n), e, decide_eq_false (fun z => z rfl : ¬ (H ((n % S 0 : Nat) : Int) ((n / S 0 : Nat) : Int) ≠ H ((n % S 0 : Nat) : Int) ((n / S 0 : Nat) : Int)))]
        by_cases cv : H ((n % S 0 : Nat) : Int) ((n / S 0 : Nat) : Int) = v
        · rw [decide_eq_false (fun z => z cv), if_pos cv]; rfl
        · rw [decide_eq_true cv, if_neg cv]; simp only [cond_true, cond_false]
      · rw [hu_ne (fun z => en (ck_inj (Int.ofNat_inj.mp z.1) (Int.ofNat_inj.mp z.2)))]
        generalize fo (fg (S 0) (fun x y a => a + (bif decide (H x y ≠ G x y) then 1 else 0))) n (0 : Int) = u at *
        generalize (bif decide (H ((n % S 0 : Nat) : Int) ((n / S 0 : Nat) : Int) ≠ G ((n % S 0 : Nat) : Int) ((n / S 0 : Nat) : Int)) then (1 : Int) else 0) = w
        generalize (if H ((k0 % S 0 : Nat) : Int) ((k0 / S 0 : Nat) : Int) = v then (0 : Int) else 1) = q
        clear ih
        by_cases l : k0 < n
        · rw [if_pos l, if_pos (by omega)]; omega
        · rw [if_neg l, if_neg (by omega)]; omega
  have := key (S 0 * S 1)
  rw [if_pos hk0] at this
  exact this
def q_vg (S : Nat → Nat) (H V : Int → Int → Int) (y x : Nat) : Int → Int → Int := fun a b => if ic S a b ∧ (b < y ∨ (b = y ∧ a < x)) then V a b else H a b
theorem q_vg_s {V : Int → Int → Int} {x y : Nat} (c : ic S (x : Int) (y : Int)) : hu (q_vg S H V y x) x y (V x y) = q_vg S H V y (x + 1) := by
  funext a b
  unfold hu q_vg
  by_cases e : a = x ∧ b = y
  · rw [if_pos e, e.1, e.2, if_pos ⟨c, Or.inr ⟨rfl, by omega⟩⟩]
  · rw [if_neg e]
    by_cases d : ic S a b ∧ (b < y ∨ (b = y ∧ a < x))
    · rw [if_pos d, if_pos ⟨d.1, by omega⟩]
    · rw [if_neg d, if_neg (fun z => d ⟨z.1, by omega⟩)]
theorem q_vg_r {V : Int → Int → Int} {y : Nat} : q_vg S H V y (S 0) = q_vg S H V (y + 1) 0 := by
  funext a b
  unfold q_vg
  by_cases d : ic S a b ∧ (b < y ∨ (b = y ∧ a < (S 0 : Nat)))
  · rw [if_pos d, if_pos ⟨d.1, by omega⟩]
  · rw [if_neg d, if_neg (fun z => d ⟨z.1, by omega⟩)]
theorem q_vg_at {V : Int → Int → Int} {x y : Nat} : q_vg S H V y x x y = H x y := if_neg (fun z => by omega)
def q_vf (S : Nat → Nat) (H V : Int → Int → Int) : Int → Int → Int := fun a b => if ic S a b then V a b else H a b
theorem q_vf_in {V : Int → Int → Int} {x y : Int} (c : ic S x y) : q_vf S H V x y = V x y := if_pos c
theorem q_vf_out {V : Int → Int → Int} {x y : Int} (c : ¬ ic S x y) : q_vf S H V x y = H x y := if_neg c
theorem q_vg_f {V : Int → Int → Int} : q_vg S H V (S 1) 0 = q_vf S H V := by
  funext a b
  unfold q_vg q_vf
  by_cases d : ic S a b
  · rw [if_pos ⟨d, by omega⟩, if_pos d]
  · rw [if_neg (fun z => d z.1), if_neg d]
theorem q_vg_wv {V : Int → Int → Int} (hH : wv S H) (hV : wv S V) (y x : Nat) : wv S (q_vg S H V y x) := fun a b c => by
  unfold q_vg
  split
  · exact hV a b c
  · exact hH a b c
theorem vis_grid {step1 : ((os_T × Int32 × Int32) → Option (Int32 × os_T)) → (os_T × Int32 × Int32) → Option (Int32 × os_T)} {step2 : ((os_T × Int32 × Int32) → Option (Int32 × os_T)) → ((os_T × Int32 × Int32 × Int32) → Option (Int32 × os_T)) → (os_T × Int32 × Int32 × Int32) → Option (Int32 × os_T)} (hN : 1000 < N) (hS : sv S) (h : cp o S T H) (V : Int → Int → Int) (y0 : Nat) (hy0 : y0 ≤ S 1) (hV0 : ∀ a b, ic S a b → b < y0 → V a b = H a b)
    (h1 : ∀ (y : Nat) o' c r G, y < S 1 → cp o' S T G → step1 r (o', c, Int32.ofInt (y : Int)) = os_loop (step2 r) N (o', c, Int32.ofInt (y : Int), Int32.ofInt 0))
    (h2 : ∀ (x y : Nat) o' c, x < S 0 → y < S 1 → y0 ≤ y → cp o' S T (q_vg S H V y x) → ∃ o2, cp o2 S T (hu (q_vg S H V y x) x y (V x y)) ∧ ∀ k r, step2 k r (o', c, Int32.ofInt (y : Int), Int32.ofInt (x : Int)) = r (o2, c + Int32.ofInt (if H x y = V x y then 0 else 1), Int32.ofInt (y : Int), Int32.ofInt ((x + 1 : Nat) : Int)))
    (h3 : ∀ (y : Nat) o' c k r G, y < S 1 → cp o' S T G → step2 k r (o', c, Int32.ofInt (y : Int), Int32.ofInt (S 0 : Int)) = k (o', c, Int32.ofInt ((y + 1 : Nat) : Int)))
    (h4 : ∀ o' c r G, cp o' S T G → step1 r (o', c, Int32.ofInt (S 1 : Int)) = some (c, o')) :
    ∃ o', os_loop step1 N (o, Int32.ofInt 0, Int32.ofInt (y0 : Int)) = some (Int32.ofInt (q_df S H (q_vf S H V)), o') ∧ cp o' S T (q_vf S H V) := by
  have hs := sv_a hS
  have e0 : q_vg S H V y0 0 = q_vf S H (fun a b => if b < y0 then V a b else H a b) := by
    funext a b
    unfold q_vg q_vf
    show _ = if ic S a b then (if b < y0 then V a b else H a b) else H a b
    by_cases d : ic S a b
    · rw [if_pos d]
      by_cases l : b < y0
      · rw [if_pos ⟨d, Or.inl l⟩, if_pos l]
      · rw [if_neg (fun z => by omega), if_neg l]
    · rw [if_neg (fun z => d z.1), if_neg d]
  have hc0 : cp o S T (q_vg S H V y0 0) := h.cg (fun _ _ _ => rfl) fun x y c => by
    unfold q_vg
    split
    · rename_i z; exact (hV0 x y c (by omega)).symm
    · rfl
  have hd0 : q_df S H (q_vg S H V y0 0) = 0 := by
    rw [q_df_cg hS (G2 := H) fun x y c => by
      unfold q_vg
      split
      · rename_i z; exact hV0 x y c (by omega)
      · rfl]
    exact q_df_self H
  have key : ∃ v, (∃ o', v = some (Int32.ofInt (q_df S H (q_vf S H V)), o') ∧ cp o' S T (q_vf S H V)) ∧ os_loop step1 N (o, Int32.ofInt 0, Int32.ofInt ((y0 + 0 : Nat) : Int)) = v := by
    refine lo_gridI (N := N) (step2 := step2) (fun y s => ∃ o', s = (o', Int32.ofInt (q_df S H (q_vg S H V (y0 + y) 0)), Int32.ofInt ((y0 + y : Nat) : Int)) ∧ cp o' S T (q_vg S H V (y0 + y) 0)) (fun y x s => ∃ o', s = (o', Int32.ofInt (q_df S H (q_vg S H V (y0 + y) x)), Int32.ofInt ((y0 + y : Nat) : Int), Int32.ofInt (x : Int)) ∧ cp o' S T (q_vg S H V (y0 + y) x)) (fun v => ∃ o', v = some (Int32.ofInt (q_df S H (q_vf S H V)), o') ∧ cp o' S T (q_vf S H V)) (S 0) (S 1 - y0) ?_ ?_ ?_ ?_ (by omega) (by omega) ⟨o, by rw [Nat.add_zero, hd0], hc0⟩
    · rintro y s hy ⟨o', rfl, h'⟩
      exact ⟨_, ⟨o', rfl, h'⟩, fun r => h1 _ _ _ r _ (by omega) h'⟩
    · rintro x y s hx hy ⟨o', rfl, h'⟩
      have hc : ic S (x : Int) ((y0 + y : Nat) : Int) := ic_n hx (by omega)
      obtain ⟨o2, h2', e2⟩ := h2 x (y0 + y) o' (Int32.ofInt (q_df S H (q_vg S H V (y0 + y) x))) hx (by omega) (by omega) h'
      refine ⟨_, ⟨o2, rfl, ?_⟩, fun k r => ?_⟩
      · rw [← q_vg_s hc]; exact h2'
      · rw [e2, ia_add, ← q_vg_s hc, q_df_hu hc q_vg_at]
    · rintro y s hy ⟨o', rfl, h'⟩
      refine ⟨_, ⟨o', rfl, ?_⟩, fun k r => ?_⟩
      · rw [← Nat.add_assoc, ← q_vg_r]; exact h'
      · rw [h3 _ _ _ k r _ (by omega) h', ← Nat.add_assoc, ← q_vg_r]
    · rintro s ⟨o', rfl, h'⟩
      rw [show y0 + (S 1 - y0) = S 1 by omega, q_vg_f] at h'
      refine ⟨_, ⟨o', rfl, h'⟩, fun r => ?_⟩
      rw [show y0 + (S 1 - y0) = S 1 by omega, q_vg_f]
      exact h4 _ _ r _ h'
  obtain ⟨v, ⟨o', rfl, hm⟩, e⟩ := key
  exact ⟨o', e, hm⟩
/-! the heights for the tones -/
def q_fol (S : Nat → Nat) (T : Int → Int → Int) : Int → Int → Int := fun a b => (sh S (fl_w (T a b).toNat) : Int)
theorem fl_w200 {t : Nat} (ht : t ≤ 255) : fw_m 200 (fl_w t) := fw_le (fl_wm ht) (by decide)
theorem q_fol_hv (hS : sv S) (hT : tv S T) : hv S (q_fol S T) := fun x y c => by
  have ht := hT x y c
  have := sh_r hS (fl_w200 (t := (T x y).toNat) (by omega))
  show (S 4 : Int) ≤ (sh S (fl_w (T x y).toNat) : Int) ∧ (sh S (fl_w (T x y).toNat) : Int) ≤ S 2
  omega
theorem pc_follow (hN : 1000 < N) (hS : sv S) (h : cp o S T H) (hH : wv S H) (hT : tv S T) : ∃ o', ff_X5_followTones N o = some (Int32.ofInt (q_df S H (q_vf S H (q_fol S T))), o') ∧ cp o' S T (q_vf S H (q_fol S T)) := by
  have hs := sv_a hS
  unfold ff_X5_followTones ff_X5_followTones_l4
  refine vis_grid (step2 := fun k2 r2 s1 => ff_X5_followTones_c14 N k2 r2 s1.1 s1.2.1 s1.2.2.1 s1.2.2.2) hN hS h (q_fol S T) 0 (by omega) (fun a b c l => by omega) ?_ ?_ ?_ ?_
  · intro y o' c r G hy h'
    show ff_X5_followTones_c4 N r o' c (Int32.ofInt (y : Int)) = _
    unfold ff_X5_followTones_c4
    rw [if_neg (pc_rN hS h' hy)]
    rfl
  · intro x y o' c hx hy _ h'
    have hc : ic S (x : Int) (y : Int) := ic_n hx hy
    have ht := hT _ _ hc
    have hv := (q_fol_hv hS hT) _ _ hc
    have hw := q_vg_wv hH ((q_fol_hv hS hT).wv hS) y x
    obtain ⟨o2, eb, h2⟩ := pc_build (N := N) hS h' hw hc (v := q_fol S T x y) (by omega)
    refine ⟨o2, h2, fun k r => ?_⟩
    rw [q_vg_at] at eb
    show ff_X5_followTones_c14 N k r o' c (Int32.ofInt (y : Int)) (Int32.ofInt (x : Int)) = _
    unfold ff_X5_followTones_c14
    rw [if_neg (pc_wN hS h' hx), pc_wishAt hS h' hT hc, Option.bind_some, pc_stepFor hN hS h' (fl_w200 (by omega)), Option.bind_some]
    show ((ff_X5_build N o' (Int32.ofInt (x : Int)) (Int32.ofInt (y : Int)) (Int32.ofInt (q_fol S T x y))).bind _) = _
    rw [eb, Option.bind_some, ii_1, ia_s]
  · intro y o' c k r G hy h'
    show ff_X5_followTones_c14 N k r o' c (Int32.ofInt (y : Int)) (Int32.ofInt (S 0 : Int)) = _
    unfold ff_X5_followTones_c14
    rw [if_pos (pc_wE h'), ii_1, ia_s]
  · intro o' c r G h'
    show ff_X5_followTones_c4 N r o' c (Int32.ofInt (S 1 : Int)) = _
    unfold ff_X5_followTones_c4
    rw [if_pos (pc_rE h')]
end Visit
