/-! LAYER 2. Groups of cells: the labels of the reference -/
section RefG
variable {N : Nat} {o w : os_T} {S : Nat → Nat} {T H : Int → Int → Int} {d : Int} {b : Bool} {P : Int → Int → Bool} {L : Nat → Int}
def q_L (o : os_T) (L : Nat → Int) : Prop := ∀ k, k < 192 → os_A o 9 k = Int32.ofInt (L k) ∧ 0 ≤ L k ∧ L k ≤ 191
def q_Q (B : Int → Int → Prop) (L : Nat → Int) : Prop := ∀ x y, B x y → (∃ u v, q_rg B x y u v ∧ L (16 * y + x).toNat = 16 * v + u) ∧ L (16 * y + x).toNat ≤ 16 * y + x
def q_ga (S : Nat → Nat) (H : Int → Int → Int) (d : Int) (b : Bool) (L : Nat → Int) (x y : Int) : Int := if ic S x y ∧ decide (d ≤ H x y) = b then L (16 * y + x).toNat else 192
def q_gu (S : Nat → Nat) (H : Int → Int → Int) (d : Int) (b : Bool) (L : Nat → Int) (x y : Int) : Int := min (min (q_ga S H d b L (x - 1) y) (q_ga S H d b L (x + 1) y)) (min (q_ga S H d b L x (y - 1)) (q_ga S H d b L x (y + 1)))
def q_Fx (S : Nat → Nat) (H : Int → Int → Int) (d : Int) (b : Bool) (L : Nat → Int) : Prop := ∀ x y, q_in S H d b x y → L (16 * y + x).toNat ≤ q_gu S H d b L x y
theorem rc_in (hS : sv S) (h : rp o S T H) (hH : wv S H) {x y : Int} (c : ic S x y) (hd : ib d) : ff_X13_isOf N o (Int32.ofInt d) (Int32.ofInt x) (Int32.ofInt y) = some (oz (decide (d ≤ H x y))) := by
  have hr := ic_r hS c
  have hxy : 0 ≤ x ∧ 0 ≤ y := by unfold ic at c; omega
  rw [rc_isOf hS h hH (by omega) (by omega) hd]
  by_cases e : d ≤ H x y
  · rw [decide_eq_true (show ic S x y ∧ d ≤ H x y from ⟨c, e⟩), decide_eq_true e]
  · rw [decide_eq_false (fun z : ic S x y ∧ d ≤ H x y => e z.2), decide_eq_false e]
theorem q_ga_b (hS : sv S) (hL : q_L o L) {x y : Int} : 0 ≤ q_ga S H d b L x y ∧ q_ga S H d b L x y ≤ 192 := by
  unfold q_ga
  split
  · rename_i c
    have hr := ic_r hS c.1
    have := (hL (16 * y + x).toNat (by omega)).2
    omega
  · omega
theorem q_gu_b (hS : sv S) (hL : q_L o L) {x y : Int} : 0 ≤ q_gu S H d b L x y ∧ q_gu S H d b L x y ≤ 192 := by
  have h1 := q_ga_b (H := H) (d := d) (b := b) hS hL (x := x - 1) (y := y)
  have h2 := q_ga_b (H := H) (d := d) (b := b) hS hL (x := x + 1) (y := y)
  have h3 := q_ga_b (H := H) (d := d) (b := b) hS hL (x := x) (y := y - 1)
  have h4 := q_ga_b (H := H) (d := d) (b := b) hS hL (x := x) (y := y + 1)
  unfold q_gu; omega
theorem q_gu_n {x y : Int} (h : q_gu S H d b L x y < 192) : ∃ u v, q_nb x y u v ∧ q_in S H d b u v ∧ q_gu S H d b L x y = L (16 * v + u).toNat := by
  have key : ∀ u v, q_ga S H d b L u v < 192 → q_in S H d b u v ∧ q_ga S H d b L u v = L (16 * v + u).toNat := fun u v hl => by
    unfold q_ga at hl ⊢
    by_cases c : ic S u v ∧ decide (d ≤ H u v) = b
    · rw [if_pos c]; exact ⟨c, rfl⟩
    · rw [if_neg c] at hl; omega
  have hc : q_gu S H d b L x y = q_ga S H d b L (x - 1) y ∨ q_gu S H d b L x y = q_ga S H d b L (x + 1) y ∨ q_gu S H d b L x y = q_ga S H d b L x (y - 1) ∨ q_gu S H d b L x y = q_ga S H d b L x (y + 1) := by unfold q_gu; omega
  rcases hc with e | e | e | e
  · obtain ⟨h1, h2⟩ := key (x - 1) y (by omega); exact ⟨_, _, Or.inl ⟨rfl, rfl⟩, h1, by omega⟩
  · obtain ⟨h1, h2⟩ := key (x + 1) y (by omega); exact ⟨_, _, Or.inr (Or.inl ⟨rfl, rfl⟩), h1, by omega⟩
  · obtain ⟨h1, h2⟩ := key x (y - 1) (by omega); exact ⟨_, _, Or.inr (Or.inr (Or.inl ⟨rfl, rfl⟩)), h1, by omega⟩
  · obtain ⟨h1, h2⟩ := key x (y + 1) (by omega); exact ⟨_, _, Or.inr (Or.inr (Or.inr ⟨rfl, rfl⟩)), h1, by omega⟩
theorem q_gu_l {x y u v : Int} (hn : q_nb x y u v) (hb : q_in S H d b u v) : q_gu S H d b L x y ≤ L (16 * v + u).toNat := by
  have e : q_ga S H d b L u v = L (16 * v + u).toNat := if_pos hb
  rw [← e]
  unfold q_gu
  rcases hn with ⟨rfl, rfl⟩ | ⟨rfl, rfl⟩ | ⟨rfl, rfl⟩ | ⟨rfl, rfl⟩ <;> omega
theorem rc_groupAt (hS : sv S) (h : rp o S T H) (hH : wv S H) (hL : q_L o L) (hd : ib d) {x y : Int} (hx : ib x) (hy : ib y) : ff_X13_groupAt N o (Int32.ofInt x) (Int32.ofInt y) (oz b) (Int32.ofInt d) = some (Int32.ofInt (q_ga S H d b L x y)) := by
  unfold ff_X13_groupAt ff_X13_groupAt_b35 q_ga
  rw [rc_isCell hS h hx hy, Option.bind_some, oz_ite]
  by_cases c : ic S x y
  · have hr := ic_r hS c
    rw [if_pos c, rc_in hS h hH c hd, Option.bind_some]
    simp only [oz_inj]
    by_cases e : decide (d ≤ H x y) = b
    · rw [if_pos e, if_pos (rp_in hS c), rp_na hS c, (hL _ (by omega)).1, if_pos ⟨c, e⟩]
    · rw [if_neg e, if_neg (fun z => e z.2)]; rfl
  · rw [if_neg c, if_neg (fun z => c z.1)]; rfl
/-! the sum of the labels falls -/
def q_ls (L : Nat → Int) (n : Nat) : Nat := fo (fun k a => a + (L k).toNat) n 0
theorem q_ls_s (L : Nat → Int) (n : Nat) : q_ls L (n + 1) = q_ls L n + (L n).toNat := rfl
theorem q_ls_le {L M : Nat → Int} (n : Nat) (h : ∀ k, k < n → M k ≤ L k) : q_ls M n ≤ q_ls L n := by
  induction n with
  | zero => exact Nat.le_refl _
  | succ n ih =>
    have h1 := ih (fun k hk => h k (by omega))
    have h2 := h n (by omega)
    rw [q_ls_s, q_ls_s]; omega
theorem q_ls_lt {L M : Nat → Int} (n : Nat) (h : ∀ k, k < n → M k ≤ L k) {k0 : Nat} (hk : k0 < n) (h0 : 0 ≤ M k0) (hlt : M k0 < L k0) : q_ls M n < q_ls L n := by
  induction n with
  | zero => omega
  | succ n ih =>
    have h2 := h n (by omega)
    rw [q_ls_s, q_ls_s]
    by_cases e : k0 = n
    · have h1 := q_ls_le (L := L) (M := M) n (fun k hk => h k (by omega))
      subst e; omega
    · have h1 := ih (fun k hk => h k (by omega)) (by omega)
      omega
theorem q_ls_cg {L M : Nat → Int} (n : Nat) (h : ∀ k, k < n → M k = L k) : q_ls M n = q_ls L n := Nat.le_antisymm (q_ls_le n fun k hk => Int.le_of_eq (h k hk)) (q_ls_le n fun k hk => Int.le_of_eq (h k hk).symm)
theorem q_ls_b {L : Nat → Int} (n : Nat) (h : ∀ k, k < n → L k ≤ 191) : q_ls L n ≤ 191 * n := by
  induction n with
  | zero => exact Nat.le_refl _
  | succ n ih =>
    have h1 := ih (fun k hk => h k (by omega))
    have h2 := h n (by omega)
    rw [q_ls_s]; omega
def q_lu (L : Nat → Int) (k : Nat) (v : Int) : Nat → Int := fun j => if j = k then v else L j
theorem q_lu_at {k : Nat} {v : Int} : q_lu L k v k = v := if_pos rfl
theorem q_lu_ne {k j : Nat} {v : Int} (h : j ≠ k) : q_lu L k v j = L j := if_neg h
theorem q_L_up (hL : q_L o L) {k : Nat} {v : Int} (hv : 0 ≤ v ∧ v ≤ 191) : q_L (ss_A o 9 (upd (os_A o 9) k (Int32.ofInt v))) (q_lu L k v) := fun j hj => by
  show upd (os_A o 9) k (Int32.ofInt v) j = _ ∧ _
  by_cases e : j = k
  · rw [e, up_eq, q_lu_at]; exact ⟨rfl, hv⟩
  · rw [up_ne e, q_lu_ne e]; exact hL j hj
/-- one round over the cells -/
theorem rc_round (hN : 1000 < N) (hS : sv S) (h : rp o S T H) (hH : wv S H) (hd : ib d) (hL : q_L o L) (hQ : q_Q (q_in S H d b) L) : ∃ (o2 : os_T) (fl : Bool) (M : Nat → Int), (∀ k24, ff_X13_groups_l33 N k24 N (o, Int32.ofInt d, oz b, (0 : Int32), Int32.ofInt ((0 : Nat) : Int)) = k24 (o2, Int32.ofInt d, oz b, oz fl)) ∧ sx (fun j => j = 9) o o2 ∧ q_L o2 M ∧ q_Q (q_in S H d b) M ∧ q_ls M 192 ≤ q_ls L 192 ∧ (fl = true → q_ls M 192 < q_ls L 192) ∧ (fl = false → q_Fx S H d b M) := by
  have hs := sv_a hS
  have hwh := sv_wh hS
  have key : ∃ t, (∃ (o2 : os_T) (fl : Bool) (M : Nat → Int), t = (o2, Int32.ofInt d, oz b, oz fl) ∧ sx (fun j => j = 9) o o2 ∧ q_L o2 M ∧ q_Q (q_in S H d b) M ∧ q_ls M 192 ≤ q_ls L 192 ∧ (fl = true → q_ls M 192 < q_ls L 192) ∧ (fl = false → q_Fx S H d b M)) ∧ ∀ k24, os_loop (fun k33 s1 => ff_X13_groups_c33 N k24 k33 s1.1 s1.2.1 s1.2.2.1 s1.2.2.2.1 s1.2.2.2.2) N (o, Int32.ofInt d, oz b, oz false, Int32.ofInt ((0 : Nat) : Int)) = k24 t := by
    refine lo_cntK (N := N) (step := fun k24 k33 s1 => ff_X13_groups_c33 N k24 k33 s1.1 s1.2.1 s1.2.2.1 s1.2.2.2.1 s1.2.2.2.2) (fun k s => ∃ (o2 : os_T) (fl : Bool) (M : Nat → Int), s = (o2, Int32.ofInt d, oz b, oz fl, Int32.ofInt (k : Int)) ∧ sx (fun j => j = 9) o o2 ∧ q_L o2 M ∧ q_Q (q_in S H d b) M ∧ q_ls M 192 ≤ q_ls L 192 ∧ (fl = true → q_ls M 192 < q_ls L 192) ∧ (fl = false → M = L ∧ ∀ j, j < k → q_in S H d b ((j % S 0 : Nat) : Int) ((j / S 0 : Nat) : Int) → L (16 * ((j / S 0 : Nat) : Int) + ((j % S 0 : Nat) : Int)).toNat ≤ q_gu S H d b L ((j % S 0 : Nat) : Int) ((j / S 0 : Nat) : Int))) _ (S 0 * S 1) ?_ ?_ (by omega) ⟨o, false, L, rfl, sx.rf, hL, hQ, Nat.le_refl _, (fun z => by cases z), fun _ => ⟨rfl, fun j hj => absurd hj (Nat.not_lt_zero j)⟩⟩
    · rintro k s hk ⟨o2, fl, M, rfl, hx, hM, hQM, hle, hlt, hfx⟩
      have h' := h.sx hx (by decide) (by decide) (by decide)
      have hc := ic_k hS hk
      have hr := ic_r hS hc
      have hcall : ∀ k24 r, ff_X13_groups_c33 N k24 r o2 (Int32.ofInt d) (oz b) (oz fl) (Int32.ofInt (k : Int)) = (if decide (d ≤ H ((k % S 0 : Nat) : Int) ((k / S 0 : Nat) : Int)) = b then (if oz fl = 0 then (if M (16 * ((k / S 0 : Nat) : Int) + ((k % S 0 : Nat) : Int)).toNat ≤ q_gu S H d b M ((k % S 0 : Nat) : Int) ((k / S 0 : Nat) : Int) then ff_X13_groups_b166 N k24 r o2 (Int32.ofInt d) (oz b) (Int32.ofInt (k : Int)) (Int32.ofInt ((k % S 0 : Nat) : Int)) (Int32.ofInt ((k / S 0 : Nat) : Int)) (Int32.ofInt (q_gu S H d b M ((k % S 0 : Nat) : Int) ((k / S 0 : Nat) : Int))) (0 : Int32) else ff_X13_groups_b161 N k24 r o2 (Int32.ofInt d) (oz b) (Int32.ofInt (k : Int)) (Int32.ofInt ((k % S 0 : Nat) : Int)) (Int32.ofInt ((k / S 0 : Nat) : Int)) (Int32.ofInt (q_gu S H d b M ((k % S 0 : Nat) : Int) ((k / S 0 : Nat) : Int)))) else ff_X13_groups_b161 N k24 r o2 (Int32.ofInt d) (oz b) (Int32.ofInt (k : Int)) (Int32.ofInt ((k % S 0 : Nat) : Int)) (Int32.ofInt ((k / S 0 : Nat) : Int)) (Int32.ofInt (q_gu S H d b M ((k % S 0 : Nat) : Int) ((k / S 0 : Nat) : Int)))) else ff_X13_groups_b198 N k24 r o2 (Int32.ofInt d) (oz b) (oz fl) (Int32.ofInt (k : Int))) := by
        intro k24 r
        unfold ff_X13_groups_c33
        rw [rc_cellMany h', Option.bind_some, ii_le (by omega) (by omega), if_neg (by omega)]
        simp only [if_pos nw_0]
        rw [rs_0 h']
        simp only [if_pos (sv_nz hS)]
        rw [ia_modN (by omega) (by omega) (by omega), ia_divN (by omega) (by omega) (by omega)]
        have hb := q_gu_b (H := H) (d := d) (b := b) hS hM (x := ((k % S 0 : Nat) : Int)) (y := ((k / S 0 : Nat) : Int))
        have hb1 := q_ga_b (H := H) (d := d) (b := b) hS hM (x := ((k % S 0 : Nat) : Int) - 1) (y := ((k / S 0 : Nat) : Int))
        have hb2 := q_ga_b (H := H) (d := d) (b := b) hS hM (x := ((k % S 0 : Nat) : Int) + 1) (y := ((k / S 0 : Nat) : Int))
        have hb3 := q_ga_b (H := H) (d := d) (b := b) hS hM (x := ((k % S 0 : Nat) : Int)) (y := ((k / S 0 : Nat) : Int) - 1)
        have hb4 := q_ga_b (H := H) (d := d) (b := b) hS hM (x := ((k % S 0 : Nat) : Int)) (y := ((k / S 0 : Nat) : Int) + 1)
        have hM1 := hM (16 * ((k / S 0 : Nat) : Int) + ((k % S 0 : Nat) : Int)).toNat (by omega)
        have hin := rp_in hS hc
        have hna := rp_na hS hc
        have e0 := rc_in (N := N) hS h' hH hc hd
        have g1 := rc_groupAt (N := N) (b := b) hS h' hH hM hd (x := ((k % S 0 : Nat) : Int) - 1) (y := ((k / S 0 : Nat) : Int)) (by omega) (by omega)
        have g2 := rc_groupAt (N := N) (b := b) hS h' hH hM hd (x := ((k % S 0 : Nat) : Int) + 1) (y := ((k / S 0 : Nat) : Int)) (by omega) (by omega)
        have g3 := rc_groupAt (N := N) (b := b) hS h' hH hM hd (x := ((k % S 0 : Nat) : Int)) (y := ((k / S 0 : Nat) : Int) - 1) (by omega) (by omega)
        have g4 := rc_groupAt (N := N) (b := b) hS h' hH hM hd (x := ((k % S 0 : Nat) : Int)) (y := ((k / S 0 : Nat) : Int) + 1) (by omega) (by omega)
        unfold q_gu at hb ⊢
        generalize ((k % S 0 : Nat) : Int) = x at *
        generalize ((k / S 0 : Nat) : Int) = y at *
        rw [e0, Option.bind_some]
        simp only [oz_inj]
        by_cases e : decide (d ≤ H x y) = b
        · rw [if_pos e, if_pos e]
          rw [ii_1, ia_sub, g1, Option.bind_some, ia_add, g2, Option.bind_some, rc_less (by omega) (by omega), Option.bind_some, ia_sub, g3, Option.bind_some, ia_add, g4, Option.bind_some, rc_less (by omega) (by omega), Option.bind_some, rc_less (by omega) (by omega), Option.bind_some]
          simp only [if_pos hin]
          rw [hna, hM1.1, ii_le (by omega) (by omega)]
        · rw [if_neg e, if_neg e]
      have hnext : ∀ k24 r o3 (f : Bool), ff_X13_groups_b198 N k24 r o3 (Int32.ofInt d) (oz b) (oz f) (Int32.ofInt (k : Int)) = r (o3, Int32.ofInt d, oz b, oz f, Int32.ofInt ((k + 1 : Nat) : Int)) := by
        intro k24 r o3 f
        unfold ff_X13_groups_b198
        rw [ii_1, ia_s]
      have hM1 := hM (16 * ((k / S 0 : Nat) : Int) + ((k % S 0 : Nat) : Int)).toNat (by omega)
      have hub := q_gu_b (H := H) (d := d) (b := b) hS hM (x := ((k % S 0 : Nat) : Int)) (y := ((k / S 0 : Nat) : Int))
      have h166 : ∀ k24 r (f : Bool), ff_X13_groups_b166 N k24 r o2 (Int32.ofInt d) (oz b) (Int32.ofInt (k : Int)) (Int32.ofInt ((k % S 0 : Nat) : Int)) (Int32.ofInt ((k / S 0 : Nat) : Int)) (Int32.ofInt (q_gu S H d b M ((k % S 0 : Nat) : Int) ((k / S 0 : Nat) : Int))) (oz f) = r (ss_A o2 9 (upd (os_A o2 9) (16 * ((k / S 0 : Nat) : Int) + ((k % S 0 : Nat) : Int)).toNat (Int32.ofInt (min (q_gu S H d b M ((k % S 0 : Nat) : Int) ((k / S 0 : Nat) : Int)) (M (16 * ((k / S 0 : Nat) : Int) + ((k % S 0 : Nat) : Int)).toNat)))), Int32.ofInt d, oz b, oz f, Int32.ofInt ((k + 1 : Nat) : Int)) := by
        intro k24 r f
        unfold ff_X13_groups_b166
        simp only [if_pos (rp_in hS hc)]
        rw [rp_na hS hc, hM1.1, rc_less (by omega) (by omega), Option.bind_some, hnext]
      have h161 : ∀ k24 r, ff_X13_groups_b161 N k24 r o2 (Int32.ofInt d) (oz b) (Int32.ofInt (k : Int)) (Int32.ofInt ((k % S 0 : Nat) : Int)) (Int32.ofInt ((k / S 0 : Nat) : Int)) (Int32.ofInt (q_gu S H d b M ((k % S 0 : Nat) : Int) ((k / S 0 : Nat) : Int))) = r (ss_A o2 9 (upd (os_A o2 9) (16 * ((k / S 0 : Nat) : Int) + ((k % S 0 : Nat) : Int)).toNat (Int32.ofInt (min (q_gu S H d b M ((k % S 0 : Nat) : Int) ((k / S 0 : Nat) : Int)) (M (16 * ((k / S 0 : Nat) : Int) + ((k % S 0 : Nat) : Int)).toNat)))), Int32.ofInt d, oz b, oz true, Int32.ofInt ((k + 1 : Nat) : Int)) := fun k24 r => h166 k24 r true
      by_cases e : decide (d ≤ H ((k % S 0 : Nat) : Int) ((k / S 0 : Nat) : Int)) = b
      · have hB : q_in S H d b ((k % S 0 : Nat) : Int) ((k / S 0 : Nat) : Int) := ⟨hc, e⟩
        have hQu : ∀ v : Int, v = min (q_gu S H d b M ((k % S 0 : Nat) : Int) ((k / S 0 : Nat) : Int)) (M (16 * ((k / S 0 : Nat) : Int) + ((k % S 0 : Nat) : Int)).toNat) → q_Q (q_in S H d b) (q_lu M (16 * ((k / S 0 : Nat) : Int) + ((k % S 0 : Nat) : Int)).toNat v) := by
          rintro v hv a c hac
          by_cases ek : (16 * c + a).toNat = (16 * ((k / S 0 : Nat) : Int) + ((k % S 0 : Nat) : Int)).toNat
          · obtain ⟨rfl, rfl⟩ := ic_inj hS hc hac.1 ek
            obtain ⟨⟨u, v2, hr1, he1⟩, hl1⟩ := hQM _ _ hB
            rw [q_lu_at]
            refine ⟨?_, by omega⟩
            by_cases lt : q_gu S H d b M ((k % S 0 : Nat) : Int) ((k / S 0 : Nat) : Int) < M (16 * ((k / S 0 : Nat) : Int) + ((k % S 0 : Nat) : Int)).toNat
            · obtain ⟨u3, v3, hn3, hb3, he3⟩ := q_gu_n (S := S) (H := H) (d := d) (b := b) (L := M) (x := ((k % S 0 : Nat) : Int)) (y := ((k / S 0 : Nat) : Int)) (by omega)
              obtain ⟨⟨u4, v4, hr4, he4⟩, _⟩ := hQM _ _ hb3
              exact ⟨u4, v4, q_rg_tr (q_rg_1 hB hb3 hn3) hr4, by omega⟩
            · exact ⟨u, v2, hr1, by omega⟩
          · rw [q_lu_ne ek]; exact hQM a c hac
        have hLu := q_L_up (k := (16 * ((k / S 0 : Nat) : Int) + ((k % S 0 : Nat) : Int)).toNat) (v := min (q_gu S H d b M ((k % S 0 : Nat) : Int) ((k / S 0 : Nat) : Int)) (M (16 * ((k / S 0 : Nat) : Int) + ((k % S 0 : Nat) : Int)).toNat)) hM (by omega)
        have hmono : ∀ j, j < 192 → q_lu M (16 * ((k / S 0 : Nat) : Int) + ((k % S 0 : Nat) : Int)).toNat (min (q_gu S H d b M ((k % S 0 : Nat) : Int) ((k / S 0 : Nat) : Int)) (M (16 * ((k / S 0 : Nat) : Int) + ((k % S 0 : Nat) : Int)).toNat)) j ≤ M j := fun j hj => by
          by_cases ek : j = (16 * ((k / S 0 : Nat) : Int) + ((k % S 0 : Nat) : Int)).toNat
          · rw [ek, q_lu_at]; omega
          · rw [q_lu_ne ek]; exact Int.le_refl _
        have hsum := q_ls_le 192 hmono
        cases hf : fl with
        | true =>
          refine ⟨_, ⟨_, true, _, rfl, hx.tr (sx_A rfl), hLu, hQu _ rfl, by omega, fun _ => by have := hlt hf; omega, (fun z => by cases z)⟩, fun k24 r => ?_⟩
          have := hcall k24 r
          rw [hf] at this
          refine this.trans ?_
          rw [if_pos e, oz_bt rfl, h161]
        | false =>
          by_cases lt : M (16 * ((k / S 0 : Nat) : Int) + ((k % S 0 : Nat) : Int)).toNat ≤ q_gu S H d b M ((k % S 0 : Nat) : Int) ((k / S 0 : Nat) : Int)
          · obtain ⟨hML, hj⟩ := hfx hf
            refine ⟨_, ⟨ss_A o2 9 (upd (os_A o2 9) (16 * ((k / S 0 : Nat) : Int) + ((k % S 0 : Nat) : Int)).toNat (Int32.ofInt (min (q_gu S H d b M ((k % S 0 : Nat) : Int) ((k / S 0 : Nat) : Int)) (M (16 * ((k / S 0 : Nat) : Int) + ((k % S 0 : Nat) : Int)).toNat)))), false, M, rfl, hx.tr (sx_A rfl), ?_, hQM, hle, (fun z => by cases z), fun _ => ⟨hML, fun j hjk hbj => ?_⟩⟩, fun k24 r => ?_⟩
            · intro j hj2
              have := hLu j hj2
              by_cases ek : j = (16 * ((k / S 0 : Nat) : Int) + ((k % S 0 : Nat) : Int)).toNat
              · rw [ek, q_lu_at] at this
                rw [ek]
                rw [show min (q_gu S H d b M ((k % S 0 : Nat) : Int) ((k / S 0 : Nat) : Int)) (M (16 * ((k / S 0 : Nat) : Int) + ((k % S 0 : Nat) : Int)).toNat) = M (16 * ((k / S 0 : Nat) : Int) + ((k % S 0 : Nat) : Int)).toNat by omega] at this ⊢
                exact this
              · rw [q_lu_ne ek] at this; exact this
            · by_cases ejk : j = k
              · subst ejk
                rw [← hML]; exact lt
              · exact hj j (by omega) hbj
            · have := hcall k24 r
              rw [hf] at this
              refine this.trans ?_
              rw [if_pos e, oz_bf rfl, if_pos lt]
              exact h166 k24 r false
          · have hst := q_ls_lt 192 hmono (k0 := (16 * ((k / S 0 : Nat) : Int) + ((k % S 0 : Nat) : Int)).toNat) (by omega) (by rw [q_lu_at]; omega) (by rw [q_lu_at]; omega)
            refine ⟨_, ⟨_, true, _, rfl, hx.tr (sx_A rfl), hLu, hQu _ rfl, by omega, fun _ => by omega, (fun z => by cases z)⟩, fun k24 r => ?_⟩
            have := hcall k24 r
            rw [hf] at this
            refine this.trans ?_
            rw [if_pos e, oz_bf rfl, if_neg lt, h161]
      · refine ⟨_, ⟨o2, fl, M, rfl, hx, hM, hQM, hle, hlt, fun hf => ⟨(hfx hf).1, fun j hj hbj => ?_⟩⟩, fun k24 r => ?_⟩
        · by_cases ejk : j = k
          · subst ejk; exact absurd hbj.2 e
          · exact (hfx hf).2 j (by omega) hbj
        · refine (hcall k24 r).trans ?_
          rw [if_neg e, hnext]
    · rintro s ⟨o2, fl, M, rfl, hx, hM, hQM, hle, hlt, hfx⟩
      have h' := h.sx hx (by decide) (by decide) (by decide)
      refine ⟨_, ⟨o2, fl, M, rfl, hx, hM, hQM, hle, hlt, fun hf => ?_⟩, fun k24 r => ?_⟩
      · obtain ⟨rfl, hj⟩ := hfx hf
        intro x y hb
        obtain ⟨k, hk, rfl, rfl⟩ := ck_of hb.1
        exact hj k hk hb
      · show ff_X13_groups_c33 N k24 r o2 _ _ _ (Int32.ofInt ((S 0 * S 1 : Nat) : Int)) = _
        unfold ff_X13_groups_c33
        rw [rc_cellMany h', Option.bind_some, if_pos (Int32.le_refl _)]
  obtain ⟨t, ⟨o2, fl, M, rfl, hm⟩, e⟩ := key
  exact ⟨o2, fl, M, e, hm⟩
theorem rc_groups (hN : 100000 < N) (hS : sv S) (h : rp o S T H) (hH : wv S H) (hd : ib d) : ∃ (o2 : os_T) (M : Nat → Int), ff_X13_groups N o (Int32.ofInt d) (oz b) = some o2 ∧ sx (fun j => j = 9) o o2 ∧ q_L o2 M ∧ q_Q (q_in S H d b) M ∧ q_Fx S H d b M := by
  have hs := sv_a hS
  unfold ff_X13_groups
  have key2 : ∀ o1, sx (fun j => j = 9) o o1 → ∀ L, q_L o1 L → q_Q (q_in S H d b) L → ∃ v, (∃ (o2 : os_T) (M : Nat → Int), v = some o2 ∧ sx (fun j => j = 9) o o2 ∧ q_L o2 M ∧ q_Q (q_in S H d b) M ∧ q_Fx S H d b M) ∧ ff_X13_groups_l24 N N (o1, Int32.ofInt d, oz b, oz true) = v := by
    intro o1 hx1 L hL hQ
    have hb := q_ls_b (L := L) 192 (fun k hk => (hL k hk).2.2)
    have hcg : ∀ {o' : os_T} {M : Nat → Int}, q_L o' M → q_ls (fun k => (os_A o' 9 k).toInt) 192 = q_ls M 192 := fun {o' M} hM => q_ls_cg 192 fun k hk => by
      have := hM k hk
      rw [this.1, ia_v (by omega) (by omega)]
    unfold ff_X13_groups_l24
    refine lo_mea (fun s => ∃ (o2 : os_T) (fl : Bool) (M : Nat → Int), s = (o2, Int32.ofInt d, oz b, oz fl) ∧ sx (fun j => j = 9) o o2 ∧ q_L o2 M ∧ q_Q (q_in S H d b) M ∧ (fl = false → q_Fx S H d b M)) (fun s => q_ls (fun k => (os_A s.1 9 k).toInt) 192 + (if s.2.2.2 = 0 then 0 else 1)) (fun v => ∃ (o2 : os_T) (M : Nat → Int), v = some o2 ∧ sx (fun j => j = 9) o o2 ∧ q_L o2 M ∧ q_Q (q_in S H d b) M ∧ q_Fx S H d b M) ?_ N _ ?_ ⟨o1, true, L, rfl, hx1, hL, hQ, (fun z => by cases z)⟩
    · rintro s ⟨o2, fl, M, rfl, hx, hM, hQM, hfx⟩
      cases hf : fl with
      | true =>
        have h' := h.sx hx (by decide) (by decide) (by decide)
        obtain ⟨o3, fl3, M3, e3, hx3, hM3, hQ3, hle3, hlt3, hfx3⟩ := rc_round (N := N) (by omega) hS h' hH hd hM hQM
        refine Or.inl ⟨_, ⟨o3, fl3, M3, rfl, hx.tr hx3, hM3, hQ3, hfx3⟩, ?_, fun r => ?_⟩
        · show q_ls (fun k => (os_A o3 9 k).toInt) 192 + (if oz fl3 = 0 then 0 else 1) < q_ls (fun k => (os_A o2 9 k).toInt) 192 + (if oz true = 0 then 0 else 1)
          rw [hcg hM3, hcg hM, oz_bt rfl]
          cases hf3 : fl3 with
          | true => rw [oz_bt rfl]; have := hlt3 hf3; omega
          | false => rw [oz_bf rfl]; omega
        · show ff_X13_groups_c24 N r o2 (Int32.ofInt d) (oz b) (oz true) = _
          unfold ff_X13_groups_c24
          rw [oz_bt rfl]
          exact e3 r
      | false =>
        refine Or.inr ⟨_, ⟨o2, M, rfl, hx, hM, hQM, hfx hf⟩, fun r => ?_⟩
        show ff_X13_groups_c24 N r o2 (Int32.ofInt d) (oz b) (oz false) = _
        unfold ff_X13_groups_c24
        rw [oz_bf rfl]
    · show q_ls (fun k => (os_A o1 9 k).toInt) 192 + (if oz true = 0 then 0 else 1) < N
      rw [hcg hL, oz_bt rfl]
      omega
  have key : ∃ v, (∃ (o2 : os_T) (M : Nat → Int), v = some o2 ∧ sx (fun j => j = 9) o o2 ∧ q_L o2 M ∧ q_Q (q_in S H d b) M ∧ q_Fx S H d b M) ∧ ff_X13_groups_l2 N N (o, Int32.ofInt d, oz b, Int32.ofInt ((0 : Nat) : Int)) = v := by
    unfold ff_X13_groups_l2
    refine lo_cnt (N := N) (fun k s => ∃ o', s = (o', Int32.ofInt d, oz b, Int32.ofInt (k : Int)) ∧ sx (fun j => j = 9) o o' ∧ ∀ j, j < k → os_A o' 9 j = Int32.ofInt (j : Int)) (fun v => ∃ (o2 : os_T) (M : Nat → Int), v = some o2 ∧ sx (fun j => j = 9) o o2 ∧ q_L o2 M ∧ q_Q (q_in S H d b) M ∧ q_Fx S H d b M) 192 ?_ ?_ (by omega) ⟨o, rfl, sx.rf, fun j hj => absurd hj (Nat.not_lt_zero j)⟩
    · rintro k s hk ⟨o', rfl, hx, hm⟩
      refine ⟨_, ⟨ss_A o' 9 (upd (os_A o' 9) k (Int32.ofInt (k : Int))), rfl, hx.tr (sx_A rfl), fun j hj => ?_⟩, fun r => ?_⟩
      · show upd (os_A o' 9) k (Int32.ofInt (k : Int)) j = _
        by_cases e : j = k
        · rw [e, up_eq]
        · rw [up_ne e]; exact hm j (by omega)
      · show ff_X13_groups_c2 N r o' (Int32.ofInt d) (oz b) (Int32.ofInt (k : Int)) = _
        unfold ff_X13_groups_c2
        have hin : os_in (Int32.ofInt (k : Int)) 192 := ia_in (by omega) (by omega) (by omega)
        rw [ii_192, ii_le (by omega) (by omega), if_neg (by omega), if_pos hin, ia_nat (by omega) (by omega), Int.toNat_natCast, ii_1, ia_s]
    · rintro s ⟨o', rfl, hx, hm⟩
      obtain ⟨v, hv, e⟩ := key2 o' hx (fun k => (k : Int)) (fun k hk => ⟨hm k hk, Int.natCast_nonneg k, (show (k : Int) ≤ 191 by omega)⟩) (fun x y hb => by
        have hr := ic_r hS hb.1
        refine ⟨⟨x, y, q_rg_0 hb, ?_⟩, ?_⟩
        · show (((16 * y + x).toNat : Nat) : Int) = _; omega
        · show (((16 * y + x).toNat : Nat) : Int) ≤ _; omega)
      refine ⟨v, hv, fun r => ?_⟩
      show ff_X13_groups_c2 N r o' (Int32.ofInt d) (oz b) (Int32.ofInt ((192 : Nat) : Int)) = _
      unfold ff_X13_groups_c2
      rw [if_pos (by decide)]
      exact e
  obtain ⟨v, ⟨o2, M, rfl, hm⟩, e⟩ := key
  exact ⟨o2, M, e, hm⟩
/-! what the labels mean -/
theorem q_Fx_e (hF : q_Fx S H d b L) {x y u v : Int} (h : q_rg (q_in S H d b) x y u v) : L (16 * v + u).toNat = L (16 * y + x).toNat := by
  obtain ⟨n, h⟩ := h
  induction n generalizing u v with
  | zero => rw [h.1, h.2.1]
  | succ n ih =>
    obtain ⟨a, c, h2, hb, hn⟩ := h
    have hb2 := q_rg_t ⟨n, h2⟩
    have l1 := Int.le_trans (hF a c hb2) (q_gu_l hn hb)
    have l2 := Int.le_trans (hF u v hb) (q_gu_l (q_nb_y hn) hb2)
    rw [← ih h2]
    exact Int.le_antisymm l2 l1
theorem q_Fx_m (hQ : q_Q (q_in S H d b) L) (hF : q_Fx S H d b L) {x y : Int} (hb : q_in S H d b x y) : L (16 * y + x).toNat = 16 * y + x ↔ q_mn (q_in S H d b) x y := by
  obtain ⟨⟨u, v, hr, he⟩, hl⟩ := hQ x y hb
  constructor
  · intro e
    refine ⟨hb, fun u2 v2 hr2 => ?_⟩
    have h1 := (hQ u2 v2 (q_rg_t hr2)).2
    have h2 := q_Fx_e hF hr2
    omega
  · rintro ⟨_, hm⟩
    have := hm u v hr
    omega
end RefG
