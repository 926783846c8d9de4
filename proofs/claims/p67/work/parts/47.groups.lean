/-! LAYER 2. Groups of cells: what is meant, and the class's visits -/
section Groups
variable {N : Nat} {o w : os_T} {S : Nat → Nat} {T H : Int → Int → Int} {d : Int} {b : Bool}
/-- the cells that are looked at: those of the layer, or the others -/
def q_in (S : Nat → Nat) (H : Int → Int → Int) (d : Int) (b : Bool) (x y : Int) : Prop := ic S x y ∧ decide (d ≤ H x y) = b
def q_nb (a b x y : Int) : Prop := (x = a - 1 ∧ y = b) ∨ (x = a + 1 ∧ y = b) ∨ (x = a ∧ y = b - 1) ∨ (x = a ∧ y = b + 1)
def q_rn (B : Int → Int → Prop) (x y : Int) : Nat → Int → Int → Prop
  | 0 => fun a b => a = x ∧ b = y ∧ B x y
  | n + 1 => fun a b => ∃ a' b', q_rn B x y n a' b' ∧ B a b ∧ q_nb a' b' a b
/-- of one group -/
def q_rg (B : Int → Int → Prop) (x y a b : Int) : Prop := ∃ n, q_rn B x y n a b
theorem q_rg_0 {B : Int → Int → Prop} {x y : Int} (h : B x y) : q_rg B x y x y := ⟨0, rfl, rfl, h⟩
theorem q_rg_s {B : Int → Int → Prop} {x y a b a' b' : Int} (h : q_rg B x y a b) (hb : B a' b') (hn : q_nb a b a' b') : q_rg B x y a' b' := by
  obtain ⟨n, h⟩ := h
  exact ⟨n + 1, a, b, h, hb, hn⟩
theorem q_rg_t {B : Int → Int → Prop} {x y a b : Int} (h : q_rg B x y a b) : B a b := by
  obtain ⟨n, h⟩ := h
  cases n with
  | zero => rw [h.1, h.2.1]; exact h.2.2
  | succ n => obtain ⟨_, _, _, hb, _⟩ := h; exact hb
theorem q_rg_tr {B : Int → Int → Prop} {x y a b u v : Int} (h : q_rg B x y a b) (h2 : q_rg B a b u v) : q_rg B x y u v := by
  obtain ⟨n, h2⟩ := h2
  induction n generalizing u v with
  | zero => rw [h2.1, h2.2.1]; exact h
  | succ n ih =>
    obtain ⟨a', b', h3, hb, hn⟩ := h2
    exact q_rg_s (ih h3) hb hn
theorem q_nb_y {a b x y : Int} (h : q_nb a b x y) : q_nb x y a b := by unfold q_nb at *; omega
theorem q_rg_1 {B : Int → Int → Prop} {x y a b : Int} (h : B x y) (hb : B a b) (hn : q_nb x y a b) : q_rg B x y a b := q_rg_s (q_rg_0 h) hb hn
theorem q_rg_y {B : Int → Int → Prop} {x y a b : Int} (h : q_rg B x y a b) : q_rg B a b x y := by
  obtain ⟨n, h⟩ := h
  induction n generalizing a b with
  | zero => rw [h.1, h.2.1]; exact q_rg_0 h.2.2
  | succ n ih =>
    obtain ⟨a', b', h3, hb, hn⟩ := h
    exact q_rg_tr (q_rg_1 hb (q_rg_t ⟨n, h3⟩) (q_nb_y hn)) (ih h3)
theorem q_rg_h {B : Int → Int → Prop} {x y a b : Int} (h : q_rg B x y a b) : B x y := q_rg_t (q_rg_y h)
/-- the first cell of its group -/
def q_mn (B : Int → Int → Prop) (x y : Int) : Prop := B x y ∧ ∀ u v, q_rg B x y u v → 16 * y + x ≤ 16 * v + u
def q_ed (S : Nat → Nat) (x y : Int) : Prop := x = 0 ∨ y = 0 ∨ x = (S 0 : Int) - 1 ∨ y = (S 1 : Int) - 1
def q_gp (S : Nat → Nat) (H : Int → Int → Int) (d : Int) (b : Bool) (P : Int → Int → Bool) : Prop := ∀ x y, ic S x y → (P x y = true ↔ q_mn (q_in S H d b) x y ∧ (b = true ∨ ¬ ∃ u v, q_rg (q_in S H d b) x y u v ∧ q_ed S u v))
/-! marks -/
def q_mk (f : Nat → Int32) (n : Nat) : Nat := fo (fun k a => a + (if f k = 0 then 0 else 1)) n 0
theorem q_mk_s (f : Nat → Int32) (n : Nat) : q_mk f (n + 1) = q_mk f n + (if f n = 0 then 0 else 1) := rfl
theorem q_mk_le (f : Nat → Int32) (n : Nat) : q_mk f n ≤ n := by
  induction n with
  | zero => exact Nat.le_refl _
  | succ n ih => rw [q_mk_s]; split <;> omega
theorem q_mk_up {f : Nat → Int32} {k : Nat} {v : Int32} (h : f k = 0) (hv : v ≠ 0) (n : Nat) : q_mk (upd f k v) n = q_mk f n + (if k < n then 1 else 0) := by
  induction n with
  | zero => rfl
  | succ n ih =>
    rw [q_mk_s, q_mk_s, ih]
    by_cases e : n = k
    · rw [e, up_eq, if_neg hv, if_pos h, if_neg (Nat.lt_irrefl k), if_pos (Nat.lt_succ_self k)]
    · rw [up_ne e]
      generalize (if f n = 0 then 0 else 1 : Nat) = q
      by_cases l : k < n
      · rw [if_pos l, if_pos (by omega)]; omega
      · rw [if_neg l, if_neg (by omega)]; omega
def q_mm (w : os_T) (x y : Int) : Prop := os_A w 1 (16 * y + x).toNat ≠ 0
/-- what holds while a group is visited -/
def q_J (S : Nat → Nat) (R old : Int → Int → Prop) (c0 : Nat) (w : os_T) (n : Nat) : Prop :=
  os_I w 3 = Int32.ofInt (n : Int) ∧ (∀ j, j < n → ∃ x y, ic S x y ∧ os_A w 0 j = Int32.ofInt (16 * y + x) ∧ R x y ∧ ¬ old x y) ∧ (∀ x y, ic S x y → (q_mm w x y ↔ old x y ∨ ∃ j, j < n ∧ os_A w 0 j = Int32.ofInt (16 * y + x))) ∧ n + c0 = q_mk (os_A w 1) 192
theorem pc_in (hS : sv S) (h : cp o S T H) (hH : wv S H) {x y : Int} (c : ic S x y) (hd : ib d) : ff_X5_reaches N o (Int32.ofInt x) (Int32.ofInt y) (Int32.ofInt d) = some (oz (decide (d ≤ H x y))) := by
  have hr := ic_r hS c
  have hxy : 0 ≤ x ∧ 0 ≤ y := by unfold ic at c; omega
  rw [pc_reaches hS h hH (by omega) (by omega) hd]
  by_cases e : d ≤ H x y
  · rw [decide_eq_true (show ic S x y ∧ d ≤ H x y from ⟨c, e⟩), decide_eq_true e]
  · rw [decide_eq_false (fun z : ic S x y ∧ d ≤ H x y => e z.2), decide_eq_false e]
theorem oz_inj {p q : Bool} : (oz p = oz q) = (p = q) := by cases p <;> cases q <;> decide
theorem pc_was {x y : Int} (hS : sv S) (c : ic S x y) : ff_X4_wasQueued N w (Int32.ofInt x) (Int32.ofInt y) = some (if os_A w 1 (16 * y + x).toNat = 0 then 0 else 1) := by
  have hr := ic_r hS c
  have hxy : 0 ≤ x ∧ 0 ≤ y := by unfold ic at c; omega
  have e1 : (Int32.ofInt (16 * y + x) < 0) = (16 * y + x < 0) := i0_lt (by omega)
  unfold ff_X4_wasQueued
  simp only [cp_ix, e1]
  rw [if_neg (by omega), ii_192, ii_le (by omega) (by omega), if_neg (by omega), if_pos (ia_in (by omega) (by omega) (by omega)), ia_nat (by omega) (by omega)]
  by_cases z : os_A w 1 (16 * y + x).toNat = 0
  · rw [if_pos z, if_pos z]
  · rw [if_neg z, if_neg z]
theorem nar_1 : vp_nar .boolean (1 : Int32) = 1 := by decide
theorem nar_0 : vp_nar .boolean (0 : Int32) = 0 := by decide
theorem pc_visit (hS : sv S) (h : cp o S T H) (hH : wv S H) (hd : ib d) {R old : Int → Int → Prop} {c0 n : Nat} (hJ : q_J S R old c0 w n) {x y : Int} (hx : ib x) (hy : ib y) (hR : q_in S H d b x y → R x y) : ∃ w' n', ff_X4_visit N w o (Int32.ofInt d) (Int32.ofInt x) (Int32.ofInt y) (oz b) = some w' ∧ q_J S R old c0 w' n' ∧ n ≤ n' ∧ (∀ j, j < n → os_A w' 0 j = os_A w 0 j) ∧ (∀ u v, q_mm w u v → q_mm w' u v) ∧ (q_in S H d b x y → q_mm w' x y) := by
  have hs := sv_a hS
  unfold ff_X4_visit
  rw [pc_has hS h hx hy, Option.bind_some, oz_ite]
  by_cases c : ic S x y
  · rw [if_pos c, pc_in hS h hH c hd, Option.bind_some]
    simp only [oz_inj]
    by_cases e : decide (d ≤ H x y) = b
    · rw [if_pos e, pc_was hS c, Option.bind_some]
      by_cases z : os_A w 1 (16 * y + x).toNat = 0
      · obtain ⟨j1, j2, j3, j4⟩ := hJ
        have hr := ic_r hS c
        have hup := q_mk_up (v := 1) z (by decide) 192
        rw [if_pos (by omega)] at hup
        have hle := q_mk_le (upd (os_A w 1) (16 * y + x).toNat 1) 192
        have hn : n < 192 := by omega
        rw [if_pos z, if_pos rfl, j1]
        have e1 : (Int32.ofInt (16 * y + x) < 0) = (16 * y + x < 0) := i0_lt (by omega)
        have e2 : (Int32.ofInt (n : Int) < 0) = ((n : Int) < 0) := i0_lt (by omega)
        simp only [cp_ix, e1, e2]
        rw [if_neg (by omega), ii_192, ii_le (by omega) (by omega), if_neg (by omega), if_neg (by omega), ii_le (by omega) (by omega), if_neg (by omega), if_pos (ia_in (by omega) (by omega) (by omega)), if_pos (ia_in (by omega) (by omega) (by omega)), ia_nat (by omega) (by omega), ia_nat (by omega) (by omega), Int.toNat_natCast, nar_1, ii_1, ia_s]
        refine ⟨_, n + 1, rfl, ⟨rfl, fun j hj => ?_, fun u v cuv => ?_, ?_⟩, by omega, fun j hj => ?_, fun u v m => ?_, fun _ => ?_⟩
        · show ∃ u v, ic S u v ∧ upd (os_A w 0) n (Int32.ofInt (16 * y + x)) j = Int32.ofInt (16 * v + u) ∧ R u v ∧ ¬ old u v
          by_cases ej : j = n
          · rw [ej, up_eq]; exact ⟨x, y, c, rfl, hR ⟨c, e⟩, fun zo => (j3 x y c).mpr (Or.inl zo) z⟩
          · rw [up_ne ej]; exact j2 j (by omega)
        · show upd (os_A w 1) (16 * y + x).toNat 1 (16 * v + u).toNat ≠ 0 ↔ old u v ∨ ∃ j, j < n + 1 ∧ upd (os_A w 0) n (Int32.ofInt (16 * y + x)) j = Int32.ofInt (16 * v + u)
          by_cases ec : u = x ∧ v = y
          · rw [ec.1, ec.2, up_eq]
            exact ⟨fun _ => Or.inr ⟨n, Nat.lt_succ_self n, up_eq⟩, fun _ => by decide⟩
          · have hr2 := ic_r hS cuv
            have hne : (16 * v + u).toNat ≠ (16 * y + x).toNat := fun zz => ec (ic_inj hS c cuv zz)
            rw [up_ne hne]
            refine (j3 u v cuv).trans ⟨fun z2 => z2.elim Or.inl (fun ⟨j, hj, ej⟩ => Or.inr ⟨j, by omega, by rw [up_ne (by omega)]; exact ej⟩), fun z2 => z2.elim Or.inl (fun ⟨j, hj, ej⟩ => ?_)⟩
            by_cases ejn : j = n
            · rw [ejn, up_eq] at ej
              have := congrArg Int32.toInt ej
              rw [ia_v (by omega) (by omega), ia_v (by omega) (by omega)] at this
              exact absurd (by rw [this]) hne
            · rw [up_ne ejn] at ej
              exact Or.inr ⟨j, by omega, ej⟩
        · show n + 1 + c0 = q_mk (upd (os_A w 1) (16 * y + x).toNat 1) 192
          omega
        · show upd (os_A w 0) n (Int32.ofInt (16 * y + x)) j = _
          exact up_ne (by omega)
        · show upd (os_A w 1) (16 * y + x).toNat 1 (16 * v + u).toNat ≠ 0
          by_cases ek : (16 * v + u).toNat = (16 * y + x).toNat
          · rw [ek, up_eq]; decide
          · rw [up_ne ek]; exact m
        · show upd (os_A w 1) (16 * y + x).toNat 1 (16 * y + x).toNat ≠ 0
          rw [up_eq]; decide
      · rw [if_neg z, if_neg (by decide)]
        exact ⟨w, n, rfl, hJ, Nat.le_refl _, fun _ _ => rfl, fun _ _ m => m, fun _ => z⟩
    · rw [if_neg e]
      exact ⟨w, n, rfl, hJ, Nat.le_refl _, fun _ _ => rfl, fun _ _ m => m, fun m => absurd m.2 e⟩
  · rw [if_neg c]
    exact ⟨w, n, rfl, hJ, Nat.le_refl _, fun _ _ => rfl, fun _ _ m => m, fun m => absurd m.1 c⟩
theorem pc_edge (hS : sv S) (h : cp o S T H) {x y : Int} (c : ic S x y) : ∃ e : Bool, ff_X4_isAtEdge N w o (Int32.ofInt x) (Int32.ofInt y) = some (oz e) ∧ (e = true ↔ q_ed S x y) := by
  have hs := sv_a hS
  have hr := ic_r hS c
  have hxy : 0 ≤ x ∧ 0 ≤ y := by unfold ic at c; omega
  have e1 : (Int32.ofInt x = 0) = (x = 0) := i0_eq (by omega)
  have e2 : (Int32.ofInt y = 0) = (y = 0) := i0_eq (by omega)
  unfold ff_X4_isAtEdge ff_X4_isAtEdge_b34 q_ed
  simp only [e1, e2]
  by_cases c1 : x = 0
  · rw [if_pos c1]; exact ⟨true, rfl, fun _ => Or.inl c1, fun _ => rfl⟩
  · rw [if_neg c1]
    by_cases c2 : y = 0
    · rw [if_pos c2]; exact ⟨true, rfl, fun _ => Or.inr (Or.inl c2), fun _ => rfl⟩
    · rw [if_neg c2, h.1 0 (by decide), h.1 1 (by decide), ii_1, ia_sub, ia_sub, ii_eq (by omega) (by omega), ii_eq (by omega) (by omega)]
      by_cases c3 : x = (S 0 : Int) - 1
      · rw [if_pos c3]; exact ⟨true, rfl, fun _ => Or.inr (Or.inr (Or.inl c3)), fun _ => rfl⟩
      · rw [if_neg c3]
        by_cases c4 : y = (S 1 : Int) - 1
        · rw [if_pos c4]; exact ⟨true, rfl, fun _ => Or.inr (Or.inr (Or.inr c4)), fun _ => rfl⟩
        · rw [if_neg c4]; exact ⟨false, rfl, (fun z => by cases z), (fun z => by omega)⟩
theorem q_J_at {R old : Int → Int → Prop} {c0 n : Nat} (hS : sv S) (hJ : q_J S R old c0 w n) {j : Nat} (hj : j < n) {u v : Int} (c : ic S u v) (e : os_A w 0 j = Int32.ofInt (16 * v + u)) : R u v ∧ ¬ old u v := by
  obtain ⟨x, y, cx, ex, hr, ho⟩ := hJ.2.1 j hj
  have h1 := ic_r hS c
  have h2 := ic_r hS cx
  rw [ex] at e
  have := congrArg Int32.toInt e
  rw [ia_v (by omega) (by omega), ia_v (by omega) (by omega)] at this
  obtain ⟨rfl, rfl⟩ := ic_inj hS cx c (by rw [this])
  exact ⟨hr, ho⟩
theorem pc_group (hN : 1000 < N) (hS : sv S) (h : cp o S T H) (hH : wv S H) (hd : ib d) {x y : Int} (hB : q_in S H d b x y) (hno : ¬ q_mm w x y) (hcl : ∀ u v u' v', ic S u v → q_mm w u v → q_in S H d b u' v' → q_nb u v u' v' → q_mm w u' v') : ∃ w' fl, ff_X4_visitGroup N w o (Int32.ofInt d) (Int32.ofInt x) (Int32.ofInt y) (oz b) = some (oz fl, w') ∧ (fl = true ↔ ∃ u v, q_rg (q_in S H d b) x y u v ∧ q_ed S u v) ∧ ∀ u v, ic S u v → (q_mm w' u v ↔ q_mm w u v ∨ q_rg (q_in S H d b) x y u v) := by
  have hs := sv_a hS
  have hr := ic_r hS hB.1
  have hxy : 0 ≤ x ∧ 0 ≤ y := by have := hB.1; unfold ic at this; omega
  have hJ0 : q_J S (q_rg (q_in S H d b) x y) (q_mm w) (q_mk (os_A w 1) 192) (ss_I w 3 (0 : Int32)) 0 := ⟨rfl, fun j hj => absurd hj (Nat.not_lt_zero j), fun u v c => ⟨Or.inl, fun z => z.elim id (fun ⟨j, hj, _⟩ => absurd hj (Nat.not_lt_zero j))⟩, Nat.zero_add _⟩
  obtain ⟨w1, n1, e1, hJ1, hn1, hq1, hm1, hv1⟩ := pc_visit (N := N) (b := b) hS h hH hd hJ0 (x := x) (y := y) (by omega) (by omega) (fun _ => q_rg_0 hB)
  have hst : ∃ j, j < n1 ∧ os_A w1 0 j = Int32.ofInt (16 * y + x) := ((hJ1.2.2.1 x y hB.1).mp (hv1 hB)).elim (fun z => absurd z hno) id
  unfold ff_X4_visitGroup
  rw [e1, Option.bind_some]
  have key : ∃ v, (∃ w' fl, v = some (oz fl, w') ∧ (fl = true ↔ ∃ u v, q_rg (q_in S H d b) x y u v ∧ q_ed S u v) ∧ ∀ u v, ic S u v → (q_mm w' u v ↔ q_mm w u v ∨ q_rg (q_in S H d b) x y u v)) ∧ ff_X4_visitGroup_l20 N o N (w1, Int32.ofInt d, oz b, oz false, Int32.ofInt ((0 : Nat) : Int)) = v := by
    unfold ff_X4_visitGroup_l20
    refine lo_mea (fun s => ∃ (w2 : os_T) (fl : Bool) (i n : Nat), s = (w2, Int32.ofInt d, oz b, oz fl, Int32.ofInt (i : Int)) ∧ q_J S (q_rg (q_in S H d b) x y) (q_mm w) (q_mk (os_A w 1) 192) w2 n ∧ i ≤ n ∧ (∃ j, j < n ∧ os_A w2 0 j = Int32.ofInt (16 * y + x)) ∧ (∀ j, j < i → ∀ u v, ic S u v → os_A w2 0 j = Int32.ofInt (16 * v + u) → ∀ u' v', q_nb u v u' v' → q_in S H d b u' v' → q_mm w2 u' v') ∧ (fl = true ↔ ∃ j, j < i ∧ ∃ u v, ic S u v ∧ os_A w2 0 j = Int32.ofInt (16 * v + u) ∧ q_ed S u v)) (fun s => 200 - (s.2.2.2.2).toInt.toNat) (fun v => ∃ w' fl, v = some (oz fl, w') ∧ (fl = true ↔ ∃ u v, q_rg (q_in S H d b) x y u v ∧ q_ed S u v) ∧ ∀ u v, ic S u v → (q_mm w' u v ↔ q_mm w u v ∨ q_rg (q_in S H d b) x y u v)) ?_ N _ (by show 200 - _ < N; omega) ⟨w1, false, 0, n1, rfl, hJ1, Nat.zero_le _, hst, fun j hj => absurd hj (Nat.not_lt_zero j), ⟨(fun z => by cases z), (fun ⟨j, hj, _⟩ => absurd hj (Nat.not_lt_zero j))⟩⟩
    rintro s ⟨w2, fl, i, n, rfl, hJ, hin, hst2, hnb, hfl⟩
    have hle := q_mk_le (os_A w2 1) 192
    have hn192 : n ≤ 192 := by have := hJ.2.2.2; omega
    by_cases ci : i < n
    · refine Or.inl ?_
      obtain ⟨u, v, cuv, equ, huv, _⟩ := hJ.2.1 i ci
      have hr2 := ic_r hS cuv
      have huv0 : 0 ≤ u ∧ u < 16 ∧ 0 ≤ v ∧ v < 12 := by unfold ic at cuv; omega
      obtain ⟨e, ee, he⟩ := pc_edge (N := N) (w := w2) hS h cuv
      have hR : ∀ u' v', q_nb u v u' v' → q_in S H d b u' v' → q_rg (q_in S H d b) x y u' v' := fun u' v' hn hb => q_rg_s huv hb hn
      obtain ⟨w3, n3, e3, hJ3, hn3, hq3, hm3, hv3⟩ := pc_visit (N := N) (b := b) hS h hH hd hJ (x := u - 1) (y := v) (by omega) (by omega) (hR _ _ (Or.inl ⟨rfl, rfl⟩))
      obtain ⟨w4, n4, e4, hJ4, hn4, hq4, hm4, hv4⟩ := pc_visit (N := N) (b := b) hS h hH hd hJ3 (x := u + 1) (y := v) (by omega) (by omega) (hR _ _ (Or.inr (Or.inl ⟨rfl, rfl⟩)))
      obtain ⟨w5, n5, e5, hJ5, hn5, hq5, hm5, hv5⟩ := pc_visit (N := N) (b := b) hS h hH hd hJ4 (x := u) (y := v - 1) (by omega) (by omega) (hR _ _ (Or.inr (Or.inr (Or.inl ⟨rfl, rfl⟩))))
      obtain ⟨w6, n6, e6, hJ6, hn6, hq6, hm6, hv6⟩ := pc_visit (N := N) (b := b) hS h hH hd hJ5 (x := u) (y := v + 1) (by omega) (by omega) (hR _ _ (Or.inr (Or.inr (Or.inr ⟨rfl, rfl⟩))))
      have hq : ∀ j, j < n → os_A w6 0 j = os_A w2 0 j := fun j hj => by rw [hq6 j (by omega), hq5 j (by omega), hq4 j (by omega), hq3 j hj]
      have hm : ∀ a c, q_mm w2 a c → q_mm w6 a c := fun a c z => hm6 a c (hm5 a c (hm4 a c (hm3 a c z)))
      refine ⟨(w6, Int32.ofInt d, oz b, oz (fl || e), Int32.ofInt ((i + 1 : Nat) : Int)), ⟨w6, fl || e, i + 1, n6, rfl, hJ6, by omega, ?_, ?_, ?_⟩, ?_, fun r => ?_⟩
      · obtain ⟨j, hj, ej⟩ := hst2
        exact ⟨j, by omega, by rw [hq j hj]; exact ej⟩
      · intro j hj u1 v1 c1 ej u' v' hn hb
        by_cases eji : j = i
        · rw [eji, hq i ci, equ] at ej
          have hr3 := ic_r hS c1
          have := congrArg Int32.toInt ej
          rw [ia_v (by omega) (by omega), ia_v (by omega) (by omega)] at this
          obtain ⟨rfl, rfl⟩ := ic_inj hS cuv c1 (by rw [this])
          rcases hn with ⟨rfl, rfl⟩ | ⟨rfl, rfl⟩ | ⟨rfl, rfl⟩ | ⟨rfl, rfl⟩
          · exact hm6 _ _ (hm5 _ _ (hm4 _ _ (hv3 hb)))
          · exact hm6 _ _ (hm5 _ _ (hv4 hb))
          · exact hm6 _ _ (hv5 hb)
          · exact hv6 hb
        · rw [hq j (by omega)] at ej
          exact hm _ _ (hnb j (by omega) u1 v1 c1 ej u' v' hn hb)
      · rw [Bool.or_eq_true, hfl, he]
        constructor
        · rintro (⟨j, hj, u1, v1, c1, ej, hed⟩ | hed)
          · exact ⟨j, by omega, u1, v1, c1, by rw [hq j (by omega)]; exact ej, hed⟩
          · exact ⟨i, Nat.lt_succ_self i, u, v, cuv, by rw [hq i ci]; exact equ, hed⟩
        · rintro ⟨j, hj, u1, v1, c1, ej, hed⟩
          by_cases eji : j = i
          · rw [eji, hq i ci, equ] at ej
            have hr3 := ic_r hS c1
            have := congrArg Int32.toInt ej
            rw [ia_v (by omega) (by omega), ia_v (by omega) (by omega)] at this
            obtain ⟨rfl, rfl⟩ := ic_inj hS cuv c1 (by rw [this])
            exact Or.inr hed
          · rw [hq j (by omega)] at ej
            exact Or.inl ⟨j, by omega, u1, v1, c1, ej, hed⟩
      · show 200 - (Int32.ofInt ((i + 1 : Nat) : Int)).toInt.toNat < 200 - (Int32.ofInt (i : Int)).toInt.toNat
        rw [ia_v (by omega) (by omega), ia_v (by omega) (by omega)]
        omega
      · show ff_X4_visitGroup_c20 N o r w2 (Int32.ofInt d) (oz b) (oz fl) (Int32.ofInt (i : Int)) = _
        unfold ff_X4_visitGroup_c20
        have hin : os_in (Int32.ofInt (i : Int)) 192 := ia_in (by omega) (by omega) (by omega)
        have c16 := ia_c16 (x := u) (y := v) huv0.1 huv0.2.1 huv0.2.2.1 huv0.2.2.2
        rw [hJ.1, ii_le (by omega) (by omega), if_neg (by omega), ii_192, ii_le (by omega) (by omega), if_neg (by omega)]
        simp only [if_pos hin]
        rw [ia_nat (by omega) (by omega), Int.toNat_natCast, equ, c16.1, c16.2]
        have hb84 : ∀ t : Bool, ff_X4_visitGroup_b84 N o r w2 (Int32.ofInt d) (oz b) (Int32.ofInt (i : Int)) (Int32.ofInt u) (Int32.ofInt v) (oz t) = r (w6, Int32.ofInt d, oz b, oz t, Int32.ofInt ((i + 1 : Nat) : Int)) := by
          intro t
          unfold ff_X4_visitGroup_b84
          rw [ii_1, ia_sub, e3, Option.bind_some, ia_add, e4, Option.bind_some, ia_sub, e5, Option.bind_some, ia_add, e6, Option.bind_some, ia_s]
        have hb79 : ff_X4_visitGroup_b79 N o r w2 (Int32.ofInt d) (oz b) (Int32.ofInt (i : Int)) (Int32.ofInt u) (Int32.ofInt v) = r (w6, Int32.ofInt d, oz b, oz true, Int32.ofInt ((i + 1 : Nat) : Int)) := hb84 true
        cases fl with
        | true => rw [oz_bt rfl, hb79]; rfl
        | false =>
          rw [oz_bf rfl, ee, Option.bind_some]
          cases e with
          | true => rw [oz_bt rfl, hb79]; rfl
          | false => rw [oz_bf rfl]; exact hb84 false
    · have hi : i = n := by omega
      subst hi
      have hall : ∀ m a c, q_rn (q_in S H d b) x y m a c → ∃ j, j < i ∧ os_A w2 0 j = Int32.ofInt (16 * c + a) := by
        intro m
        induction m with
        | zero => rintro a c ⟨rfl, rfl, _⟩; exact hst2
        | succ m ih =>
          rintro a c ⟨a', c', h3, hb3, hn3⟩
          obtain ⟨j, hj, ej⟩ := ih a' c' h3
          have hb4 := q_rg_t ⟨m, h3⟩
          have hmk := hnb j hj a' c' hb4.1 ej a c hn3 hb3
          rcases (hJ.2.2.1 a c hb3.1).mp hmk with zo | z
          · exact absurd (hcl a c a' c' hb3.1 zo hb4 (q_nb_y hn3)) (q_J_at hS hJ hj hb4.1 ej).2
          · exact z
      refine Or.inr ⟨_, ⟨w2, fl, rfl, ?_, ?_⟩, fun r => ?_⟩
      · rw [hfl]
        constructor
        · rintro ⟨j, hj, u, v, c, e, hed⟩
          exact ⟨u, v, (q_J_at hS hJ hj c e).1, hed⟩
        · rintro ⟨u, v, ⟨m, hr3⟩, hed⟩
          obtain ⟨j, hj, ej⟩ := hall m u v hr3
          exact ⟨j, hj, u, v, (q_rg_t ⟨m, hr3⟩).1, ej, hed⟩
      · intro u v c
        refine (hJ.2.2.1 u v c).trans ⟨fun z => z.elim Or.inl (fun ⟨j, hj, ej⟩ => Or.inr (q_J_at hS hJ hj c ej).1), fun z => z.elim Or.inl (fun ⟨m, hr3⟩ => Or.inr (hall m u v hr3))⟩
      · show ff_X4_visitGroup_c20 N o r w2 (Int32.ofInt d) (oz b) (oz fl) (Int32.ofInt (i : Int)) = _
        unfold ff_X4_visitGroup_c20
        rw [hJ.1, ii_le (by omega) (by omega), if_pos (by omega), if_pos (oz_z fl)]
  obtain ⟨v, hm, e⟩ := key
  obtain ⟨w', fl, rfl, hm⟩ := hm
  exact ⟨w', fl, e, hm⟩
end Groups
