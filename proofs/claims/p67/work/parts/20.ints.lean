/-! LAYER 2. Numbers: an int is 'Int32.ofInt a' of a whole number a in its range -/
/-- an array's place -/
theorem ia_v {a : Int} (h : -2147483648 ≤ a) (h' : a ≤ 2147483647) : (Int32.ofInt a).toInt = a := Int32.toInt_ofInt_of_le (by omega) (by omega)
theorem ia_of (v : Int32) : ∃ a : Int, -2147483648 ≤ a ∧ a ≤ 2147483647 ∧ v = Int32.ofInt a :=
  ⟨v.toInt, Int32.le_toInt v, by have := Int32.toInt_lt v; omega, (Int32.ofInt_toInt v).symm⟩
theorem ia_lt {a b : Int} (h1 : -2147483648 ≤ a) (h2 : a ≤ 2147483647) (h3 : -2147483648 ≤ b) (h4 : b ≤ 2147483647) : (Int32.ofInt a < Int32.ofInt b) = (a < b) := by
  rw [Int32.lt_iff_toInt_lt, ia_v h1 h2, ia_v h3 h4]
theorem ia_le {a b : Int} (h1 : -2147483648 ≤ a) (h2 : a ≤ 2147483647) (h3 : -2147483648 ≤ b) (h4 : b ≤ 2147483647) : (Int32.ofInt a ≤ Int32.ofInt b) = (a ≤ b) := by
  rw [Int32.le_iff_toInt_le, ia_v h1 h2, ia_v h3 h4]
theorem ia_eq {a b : Int} (h1 : -2147483648 ≤ a) (h2 : a ≤ 2147483647) (h3 : -2147483648 ≤ b) (h4 : b ≤ 2147483647) : (Int32.ofInt a = Int32.ofInt b) = (a = b) :=
  propext ⟨fun h => by have := congrArg Int32.toInt h; rwa [ia_v h1 h2, ia_v h3 h4] at this, fun h => by rw [h]⟩
abbrev ib (a : Int) : Prop := -2147483648 ≤ a ∧ a ≤ 2147483647
theorem ii_lt {α : Type} {a b : Int} {A B : α} (ha : ib a) (hb : ib b) : (if Int32.ofInt a < Int32.ofInt b then A else B) = if a < b then A else B := by
  simp only [ia_lt ha.1 ha.2 hb.1 hb.2]
theorem ii_le {α : Type} {a b : Int} {A B : α} (ha : ib a) (hb : ib b) : (if Int32.ofInt a ≤ Int32.ofInt b then A else B) = if a ≤ b then A else B := by
  simp only [ia_le ha.1 ha.2 hb.1 hb.2]
theorem ii_eq {α : Type} {a b : Int} {A B : α} (ha : ib a) (hb : ib b) : (if Int32.ofInt a = Int32.ofInt b then A else B) = if a = b then A else B := by
  simp only [ia_eq ha.1 ha.2 hb.1 hb.2]
theorem ia_nat {a : Int} (h : -2147483648 ≤ a) (h' : a ≤ 2147483647) : Int32.toNatClampNeg (Int32.ofInt a) = a.toNat := by
  rw [Int32.toNatClampNeg, ia_v h h']
theorem ia_or {a : Int} {n : Nat} (h : 0 ≤ a) (h' : a < n) : (¬ (a < 0 ∨ n ≤ a.toNat)) = True := eq_true (by omega)
theorem ia_in {a : Int} {n : Nat} (h : 0 ≤ a) (h' : a < n) (h2 : a ≤ 2147483647) : os_in (Int32.ofInt a) n := by
  have e : (Int32.ofInt a < 0) = (a < 0) := ia_lt (b := 0) (by omega) h2 (by omega) (by omega)
  intro z
  rcases z with z | z
  · rw [e] at z; omega
  · rw [ia_nat (by omega) h2] at z; omega
theorem ia_add (a b : Int) : Int32.ofInt a + Int32.ofInt b = Int32.ofInt (a + b) := (Int32.ofInt_add a b).symm
theorem ia_sub (a b : Int) : Int32.ofInt a - Int32.ofInt b = Int32.ofInt (a - b) := (Int32.ofInt_sub a b).symm
theorem ia_mul (a b : Int) : Int32.ofInt a * Int32.ofInt b = Int32.ofInt (a * b) := (Int32.ofInt_mul a b).symm
theorem ia_neg (a : Int) : -Int32.ofInt a = Int32.ofInt (-a) := Int32.neg_ofInt
theorem ia_min : Int32.minValue.toInt = -2147483648 := by decide
theorem ia_max : Int32.maxValue.toInt = 2147483647 := by decide
theorem ia_div {a b : Int} (h1 : 0 ≤ a) (h2 : a ≤ 2147483647) (h3 : 0 < b) (h4 : b ≤ 2147483647) : Int32.ofInt a / Int32.ofInt b = Int32.ofInt (a / b) := by
  rw [← Int32.ofInt_tdiv (by rw [ia_min]; omega) (by rw [ia_max]; omega) (by rw [ia_min]; omega) (by rw [ia_max]; omega), Int.tdiv_eq_ediv_of_nonneg h1]
theorem ia_emod (a b : Int) : a - a / b * b = a % b := by
  have := Int.emod_add_mul_ediv a b
  rw [Int.mul_comm] at this
  omega
theorem ii_0 : (0 : Int32) = Int32.ofInt 0 := rfl
theorem ii_1 : (1 : Int32) = Int32.ofInt 1 := rfl
theorem ii_2 : (2 : Int32) = Int32.ofInt 2 := rfl
theorem ii_3 : (3 : Int32) = Int32.ofInt 3 := rfl
theorem ii_4 : (4 : Int32) = Int32.ofInt 4 := rfl
theorem ii_5 : (5 : Int32) = Int32.ofInt 5 := rfl
theorem ii_6 : (6 : Int32) = Int32.ofInt 6 := rfl
theorem ii_7 : (7 : Int32) = Int32.ofInt 7 := rfl
theorem ii_8 : (8 : Int32) = Int32.ofInt 8 := rfl
theorem ii_9 : (9 : Int32) = Int32.ofInt 9 := rfl
theorem ii_10 : (10 : Int32) = Int32.ofInt 10 := rfl
theorem ii_12 : (12 : Int32) = Int32.ofInt 12 := rfl
theorem ii_16 : (16 : Int32) = Int32.ofInt 16 := rfl
theorem ii_17 : (17 : Int32) = Int32.ofInt 17 := rfl
theorem ii_18 : (18 : Int32) = Int32.ofInt 18 := rfl
theorem ii_20 : (20 : Int32) = Int32.ofInt 20 := rfl
theorem ii_24 : (24 : Int32) = Int32.ofInt 24 := rfl
theorem ii_30 : (30 : Int32) = Int32.ofInt 30 := rfl
theorem ii_31 : (31 : Int32) = Int32.ofInt 31 := rfl
theorem ii_32 : (32 : Int32) = Int32.ofInt 32 := rfl
theorem ii_48 : (48 : Int32) = Int32.ofInt 48 := rfl
theorem ii_60 : (60 : Int32) = Int32.ofInt 60 := rfl
theorem ii_80 : (80 : Int32) = Int32.ofInt 80 := rfl
theorem ii_100 : (100 : Int32) = Int32.ofInt 100 := rfl
theorem ii_192 : (192 : Int32) = Int32.ofInt 192 := rfl
theorem ii_255 : (255 : Int32) = Int32.ofInt 255 := rfl
theorem ii_384 : (384 : Int32) = Int32.ofInt 384 := rfl
theorem ii_576 : (576 : Int32) = Int32.ofInt 576 := rfl
theorem ii_900 : (900 : Int32) = Int32.ofInt 900 := rfl
theorem ii_1000 : (1000 : Int32) = Int32.ofInt 1000 := rfl
theorem ii_3840 : (3840 : Int32) = Int32.ofInt 3840 := rfl
theorem ii_m1 : (-1 : Int32) = Int32.ofInt (-1) := rfl
theorem ii_m8 : (-8 : Int32) = Int32.ofInt (-8) := rfl
theorem ii_m255 : (-255 : Int32) = Int32.ofInt (-255) := rfl
/-- truth values -/
def oz (b : Bool) : Int32 := bif b then 1 else 0
theorem oz_t : oz true = 1 := rfl
theorem oz_f : oz false = 0 := rfl
theorem oz_0 (b : Bool) : (oz b = 0) = (b = false) := by cases b <;> decide
theorem oz_00 (b : Bool) : (oz b = Int32.ofInt 0) = (b = false) := oz_0 b
theorem oz_z (b : Bool) : os_z (oz b) := by cases b <;> decide
theorem oz_zT (b : Bool) : (oz b = 0 ∨ oz b = 1) = True := eq_true (oz_z b)
theorem oz_zT' (b : Bool) : (oz b = Int32.ofInt 0 ∨ oz b = Int32.ofInt 1) = True := eq_true (oz_z b)
theorem oz_i (b : Bool) : oz b = Int32.ofInt (bif b then 1 else 0) := by cases b <;> rfl
theorem oz_if (P : Prop) [Decidable P] : (if P then (1 : Int32) else 0) = oz (decide P) := by by_cases h : P <;> simp [h, oz]
theorem oz_if' (P : Prop) [Decidable P] : (if P then some (1 : Int32) else some 0) = some (oz (decide P)) := by by_cases h : P <;> simp [h, oz]
theorem oz_nif (P : Prop) [Decidable P] : (if P then some (0 : Int32) else some 1) = some (oz (decide (¬ P))) := by by_cases h : P <;> simp [h, oz]
/-- longs, as far as they are compared -/
theorem ia_j {a : Int} (h : -2147483648 ≤ a) (h' : a ≤ 2147483647) : Int32.toInt64 (Int32.ofInt a) = Int64.ofInt a := Int32.toInt64_ofInt (by rw [ia_min]; omega) (by rw [ia_max]; omega)
theorem ij_v {a : Int} (h : -2147483648 ≤ a) (h' : a ≤ 2147483647) : (Int64.ofInt a).toInt = a := Int64.toInt_ofInt_of_le (by omega) (by omega)
theorem ij_lt {a b : Int} (h1 : -2147483648 ≤ a) (h2 : a ≤ 2147483647) (h3 : -2147483648 ≤ b) (h4 : b ≤ 2147483647) : (lg_cmp (Int64.ofInt a) (Int64.ofInt b) < 0) = (a < b) := by
  unfold lg_cmp
  have e1 : (Int64.ofInt a > Int64.ofInt b) = (b < a) := by rw [gt_iff_lt, Int64.lt_iff_toInt_lt, ij_v h1 h2, ij_v h3 h4]
  have e2 : (Int64.ofInt a = Int64.ofInt b) = (a = b) := propext ⟨fun h => by have := congrArg Int64.toInt h; rwa [ij_v h1 h2, ij_v h3 h4] at this, fun h => by rw [h]⟩
  simp only [e1, e2]
  by_cases c1 : b < a
  · rw [if_pos c1]; exact propext ⟨fun h => absurd h (by decide), fun h => by omega⟩
  · rw [if_neg c1]
    by_cases c2 : a = b
    · rw [if_pos c2]; exact propext ⟨fun h => absurd h (by decide), fun h => by omega⟩
    · rw [if_neg c2]; exact propext ⟨fun _ => by omega, fun _ => by decide⟩
theorem ij_gt {a b : Int} (h1 : -2147483648 ≤ a) (h2 : a ≤ 2147483647) (h3 : -2147483648 ≤ b) (h4 : b ≤ 2147483647) : (0 < lg_cmp (Int64.ofInt a) (Int64.ofInt b)) = (b < a) := by
  unfold lg_cmp
  have e1 : (Int64.ofInt a > Int64.ofInt b) = (b < a) := by rw [gt_iff_lt, Int64.lt_iff_toInt_lt, ij_v h1 h2, ij_v h3 h4]
  simp only [e1]
  by_cases c1 : b < a
  · rw [if_pos c1]; exact propext ⟨fun _ => c1, fun _ => by decide⟩
  · rw [if_neg c1]
    split
    · exact propext ⟨fun h => absurd h (by decide), fun h => absurd h c1⟩
    · exact propext ⟨fun h => absurd h (by decide), fun h => absurd h c1⟩
theorem ij_ilt {α : Type} {a b : Int} {A B : α} (ha : ib a) (hb : ib b) : (if lg_cmp (Int64.ofInt a) (Int64.ofInt b) < 0 then A else B) = if a < b then A else B := by
  simp only [ij_lt ha.1 ha.2 hb.1 hb.2]
theorem ij_igt {α : Type} {a b : Int} {A B : α} (ha : ib a) (hb : ib b) : (if 0 < lg_cmp (Int64.ofInt a) (Int64.ofInt b) then A else B) = if b < a then A else B := by
  simp only [ij_gt ha.1 ha.2 hb.1 hb.2]
theorem ij_self (v : Int64) : lg_cmp v v = 0 := by
  unfold lg_cmp
  rw [if_neg (by rw [gt_iff_lt, Int64.lt_iff_toInt_lt]; omega), if_pos rfl]
/-! Folds and loops -/
def fo {σ : Type} (f : Nat → σ → σ) : Nat → σ → σ
  | 0, s => s
  | n + 1, s => f n (fo f n s)
theorem fo_0 {σ : Type} (f : Nat → σ → σ) (s : σ) : fo f 0 s = s := rfl
theorem fo_s {σ : Type} (f : Nat → σ → σ) (n : Nat) (s : σ) : fo f (n + 1) s = f n (fo f n s) := rfl
theorem fo_congr {σ : Type} {f g : Nat → σ → σ} {n : Nat} {s : σ} (h : ∀ k, k < n → ∀ a, a = fo f k s → f k a = g k a) : fo f n s = fo g n s := by
  induction n with
  | zero => rfl
  | succ n ih =>
    rw [fo_s, fo_s, ← ih (fun k hk => h k (by omega))]
    exact h n (by omega) _ rfl
/-- what holds at the beginning and is kept by each step holds at the end -/
theorem fo_inv {σ : Type} {f : Nat → σ → σ} (P : Nat → σ → Prop) {n : Nat} {s : σ} (h0 : P 0 s) (h : ∀ k, k < n → ∀ a, P k a → P (k + 1) (f k a)) : P n (fo f n s) := by
  induction n with
  | zero => exact h0
  | succ n ih => exact h n (by omega) _ (ih (fun k hk => h k (by omega)))
theorem fo_map {σ τ : Type} {f : Nat → σ → σ} {g : Nat → τ → τ} (F : σ → τ) {n : Nat} {s : σ} (h : ∀ k, k < n → ∀ a, F (f k a) = g k (F a)) : F (fo f n s) = fo g n (F s) := by
  induction n with
  | zero => rfl
  | succ n ih => rw [fo_s, fo_s, h n (by omega), ih (fun k hk => h k (by omega))]
theorem fo_add {σ : Type} (f : Nat → σ → σ) (m n : Nat) (s : σ) : fo f (m + n) s = fo (fun k => f (m + k)) n (fo f m s) := by
  induction n with
  | zero => rfl
  | succ n ih => rw [← Nat.add_assoc, fo_s, ih]; rfl
/-- over the cells of a grid of w columns, row by row -/
def fg {σ : Type} (w : Nat) (g : Int → Int → σ → σ) (k : Nat) (a : σ) : σ := g ((k % w : Nat) : Int) ((k / w : Nat) : Int) a
def gr {σ : Type} (w h : Nat) (g : Int → Int → σ → σ) (a : σ) : σ := fo (fg w g) (w * h) a
theorem fg_mod {w x y : Nat} (hx : x < w) : (w * y + x) % w = x := by rw [Nat.mul_add_mod, Nat.mod_eq_of_lt hx]
theorem fg_div {w x y : Nat} (hx : x < w) : (w * y + x) / w = y := by rw [Nat.mul_add_div (by omega), Nat.div_eq_of_lt hx, Nat.add_zero]
theorem fg_at {σ : Type} {w : Nat} {g : Int → Int → σ → σ} {x y : Nat} (hx : x < w) (a : σ) : fg w g (w * y + x) a = g x y a := by
  unfold fg
  rw [fg_mod hx, fg_div hx]
theorem gr_inv {σ : Type} {w h : Nat} {g : Int → Int → σ → σ} (P : Nat → σ → Prop) {s : σ} (h0 : P 0 s) (hs : ∀ x y : Nat, x < w → y < h → ∀ a, P (w * y + x) a → P (w * y + x + 1) (g x y a)) : P (w * h) (gr w h g s) := by
  refine fo_inv P h0 ?_
  intro k hk a ha
  have hw : 0 < w := Nat.pos_of_ne_zero fun e => by subst e; simp at hk
  have e : w * (k / w) + k % w = k := Nat.div_add_mod k w
  have := hs (k % w) (k / w) (Nat.mod_lt _ hw) (Nat.div_lt_of_lt_mul hk) a (by rw [e]; exact ha)
  rw [e] at this
  exact this
theorem gr_congr {σ : Type} {w h : Nat} {f g : Int → Int → σ → σ} {s : σ} (hs : ∀ x y : Nat, x < w → y < h → ∀ a, f x y a = g x y a) : gr w h f s = gr w h g s := by
  refine fo_congr ?_
  intro k hk a _
  have hw : 0 < w := Nat.pos_of_ne_zero fun e => by subst e; simp at hk
  exact hs (k % w) (k / w) (Nat.mod_lt _ hw) (Nat.div_lt_of_lt_mul hk) a
theorem lo_run {S α : Type} {step : (S → Option α) → S → Option α} {out : Option α} (st : Nat → S) (n : Nat) (h : ∀ k, k < n → ∀ r, step r (st k) = r (st (k + 1))) (he : ∀ r, step r (st n) = out) {N : Nat} (hN : n < N) : os_loop step N (st 0) = out := by
  have aux : ∀ m j, m + j = n → ∀ N, m < N → os_loop step N (st j) = out := by
    intro m
    induction m with
    | zero =>
      intro j hj N hN
      obtain ⟨N', rfl⟩ : ∃ N', N = N' + 1 := ⟨N - 1, by omega⟩
      have : j = n := by omega
      subst this
      exact he _
    | succ m ih =>
      intro j hj N hN
      obtain ⟨N', rfl⟩ : ∃ N', N = N' + 1 := ⟨N - 1, by omega⟩
      show step (os_loop step N') (st j) = out
      rw [h j (by omega)]
      exact ih (j + 1) (by omega) N' (by omega)
  exact aux n 0 (by omega) N hN
/-- a loop that counts, its numbers a fold -/
theorem lo_fo {S α σ : Type} {step : (S → Option α) → S → Option α} {out : Option α} (emb : σ → Nat → S) (f : Nat → σ → σ) (a0 : σ) (n : Nat) (h : ∀ k a, k < n → a = fo f k a0 → ∀ r, step r (emb a k) = r (emb (f k a) (k + 1))) (he : ∀ r, step r (emb (fo f n a0) n) = out) {N : Nat} (hN : n < N) : os_loop step N (emb a0 0) = out :=
  lo_run (fun k => emb (fo f k a0) k) n (fun k hk r => h k _ hk rfl r) he hN
theorem lo_flat {S α σ : Type} {step : (S → Option α) → S → Option α} {out : Option α} (emb : σ → Nat → S) (w h : Nat) (g : Int → Int → σ → σ) (a0 : σ) (hs : ∀ k a, k < w * h → k % w < w → k / w < h → a = fo (fg w g) k a0 → ∀ r, step r (emb a k) = r (emb (g ((k % w : Nat) : Int) ((k / w : Nat) : Int) a) (k + 1))) (he : ∀ r, step r (emb (gr w h g a0) (w * h)) = out) {N : Nat} (hN : w * h < N) : os_loop step N (emb a0 0) = out :=
  lo_fo emb (fg w g) a0 (w * h) (fun k a hk ha r => by
    have hw : 0 < w := Nat.pos_of_ne_zero fun e => by subst e; simp at hk
    exact hs k a hk (Nat.mod_lt _ hw) (Nat.div_lt_of_lt_mul hk) ha r) he hN
/-- two loops, one in the other, over a grid -/
theorem lo_grid {S1 S2 α σ : Type} {step1 : (S1 → Option α) → S1 → Option α} {step2 : (S1 → Option α) → (S2 → Option α) → S2 → Option α} {out : Option α} {N : Nat} (emb1 : σ → Nat → S1) (emb2 : σ → Nat → Nat → S2) (w h : Nat) (g : Int → Int → σ → σ) (a0 : σ)
    (h1 : ∀ a y r, y < h → step1 r (emb1 a y) = os_loop (step2 r) N (emb2 a y 0))
    (h2 : ∀ a x y k r, x < w → y < h → a = fo (fg w g) (w * y + x) a0 → step2 k r (emb2 a y x) = r (emb2 (g x y a) y (x + 1)))
    (h3 : ∀ a y k r, y < h → a = fo (fg w g) (w * (y + 1)) a0 → step2 k r (emb2 a y w) = k (emb1 a (y + 1)))
    (h4 : ∀ r, step1 r (emb1 (gr w h g a0) h) = out) (hw : w < N) (hh : h < N) : os_loop step1 N (emb1 a0 0) = out := by
  refine lo_run (fun y => emb1 (fo (fg w g) (w * y) a0) y) h ?_ h4 hh
  intro y hy r
  show step1 r (emb1 (fo (fg w g) (w * y) a0) y) = _
  rw [h1 _ y r hy]
  refine lo_run (fun x => emb2 (fo (fg w g) (w * y + x) a0) y x) w ?_ ?_ hw
  · intro x hx r2
    show step2 r r2 (emb2 (fo (fg w g) (w * y + x) a0) y x) = _
    rw [h2 _ x y r r2 hx hy rfl, ← fg_at (g := g) hx]
    rfl
  · intro r2
    exact h3 _ y r r2 hy rfl
/-- loops by what holds in them -/
theorem lo_cnt {S α : Type} {step : (S → Option α) → S → Option α} (I : Nat → S → Prop) (E : Option α → Prop) (n : Nat) (h : ∀ k s, k < n → I k s → ∃ s', I (k + 1) s' ∧ ∀ r, step r s = r s') (he : ∀ s, I n s → ∃ v, E v ∧ ∀ r, step r s = v) {N : Nat} (hN : n < N) {s : S} (h0 : I 0 s) : ∃ v, E v ∧ os_loop step N s = v := by
  have aux : ∀ m j, m + j = n → ∀ N s, m < N → I j s → ∃ v, E v ∧ os_loop step N s = v := by
    intro m
    induction m with
    | zero =>
      intro j hj N s hN hs
      obtain ⟨N', rfl⟩ : ∃ N', N = N' + 1 := ⟨N - 1, by omega⟩
      have : j = n := by omega
      subst this
      obtain ⟨v, hv, e⟩ := he s hs
      exact ⟨v, hv, e _⟩
    | succ m ih =>
      intro j hj N s hN hs
      obtain ⟨N', rfl⟩ : ∃ N', N = N' + 1 := ⟨N - 1, by omega⟩
      obtain ⟨s', hs', e⟩ := h j s (by omega) hs
      obtain ⟨v, hv, e2⟩ := ih (j + 1) (by omega) N' s' (by omega) hs'
      exact ⟨v, hv, (e (os_loop step N')).trans e2⟩
  exact aux n 0 (by omega) N s hN h0
theorem lo_cntK {S T α : Type} {step : (T → Option α) → (S → Option α) → S → Option α} (I : Nat → S → Prop) (J : T → Prop) (n : Nat) (h : ∀ j s, j < n → I j s → ∃ s', I (j + 1) s' ∧ ∀ k r, step k r s = r s') (he : ∀ s, I n s → ∃ t, J t ∧ ∀ k r, step k r s = k t) {N : Nat} (hN : n < N) {s : S} (h0 : I 0 s) : ∃ t, J t ∧ ∀ k, os_loop (step k) N s = k t := by
  have aux : ∀ m j, m + j = n → ∀ N s, m < N → I j s → ∃ t, J t ∧ ∀ k, os_loop (step k) N s = k t := by
    intro m
    induction m with
    | zero =>
      intro j hj N s hN hs
      obtain ⟨N', rfl⟩ : ∃ N', N = N' + 1 := ⟨N - 1, by omega⟩
      have : j = n := by omega
      subst this
      obtain ⟨v, hv, e⟩ := he s hs
      exact ⟨v, hv, fun k => e k _⟩
    | succ m ih =>
      intro j hj N s hN hs
      obtain ⟨N', rfl⟩ : ∃ N', N = N' + 1 := ⟨N - 1, by omega⟩
      obtain ⟨s', hs', e⟩ := h j s (by omega) hs
      obtain ⟨v, hv, e2⟩ := ih (j + 1) (by omega) N' s' (by omega) hs'
      exact ⟨v, hv, fun k => (e k (os_loop (step k) N')).trans (e2 k)⟩
  exact aux n 0 (by omega) N s hN h0
/-- two loops by what holds in them -/
theorem lo_gridI {S1 S2 α : Type} {step1 : (S1 → Option α) → S1 → Option α} {step2 : (S1 → Option α) → (S2 → Option α) → S2 → Option α} {N : Nat} (I1 : Nat → S1 → Prop) (I2 : Nat → Nat → S2 → Prop) (E : Option α → Prop) (w h : Nat)
    (h1 : ∀ y s, y < h → I1 y s → ∃ s2, I2 y 0 s2 ∧ ∀ r, step1 r s = os_loop (step2 r) N s2)
    (h2 : ∀ x y s, x < w → y < h → I2 y x s → ∃ s', I2 y (x + 1) s' ∧ ∀ k r, step2 k r s = r s')
    (h3 : ∀ y s, y < h → I2 y w s → ∃ s1, I1 (y + 1) s1 ∧ ∀ k r, step2 k r s = k s1)
    (h4 : ∀ s, I1 h s → ∃ v, E v ∧ ∀ r, step1 r s = v) (hw : w < N) (hh : h < N) {s : S1} (h0 : I1 0 s) : ∃ v, E v ∧ os_loop step1 N s = v := by
  refine lo_cnt I1 E h ?_ h4 hh h0
  intro y s hy hs
  obtain ⟨s2, hs2, e⟩ := h1 y s hy hs
  obtain ⟨t, ht, e2⟩ := lo_cntK (step := step2) (I2 y) (I1 (y + 1)) w (fun x s hx hs => h2 x y s hx hy hs) (fun s hs => h3 y s hy hs) hw hs2
  exact ⟨t, ht, fun r => (e r).trans (e2 r)⟩
/-- a loop with a measure that falls: it goes on, or ends by handing on, or ends -/
theorem lo_mea {S α : Type} {step : (S → Option α) → S → Option α} (I : S → Prop) (M : S → Nat) (E : Option α → Prop) (h : ∀ s, I s → (∃ s', I s' ∧ M s' < M s ∧ ∀ r, step r s = r s') ∨ (∃ v, E v ∧ ∀ r, step r s = v)) : ∀ (N : Nat) (s : S), M s < N → I s → ∃ v, E v ∧ os_loop step N s = v := by
  intro N
  induction N with
  | zero => intro s hs; omega
  | succ N ih =>
    intro s hs hI
    rcases h s hI with ⟨s', hI', hM, e⟩ | ⟨v, hv, e⟩
    · obtain ⟨v, hv, e2⟩ := ih s' (by omega) hI'
      exact ⟨v, hv, (e _).trans e2⟩
    · exact ⟨v, hv, e _⟩
theorem lo_meaK {S T α : Type} {step : (T → Option α) → (S → Option α) → S → Option α} (I : S → Prop) (M : S → Nat) (J : T → Prop) (E : Option α → Prop) (h : ∀ s, I s → (∃ s', I s' ∧ M s' < M s ∧ ∀ k r, step k r s = r s') ∨ (∃ t, J t ∧ ∀ k r, step k r s = k t) ∨ (∃ v, E v ∧ ∀ k r, step k r s = v)) : ∀ (N : Nat) (s : S), M s < N → I s → (∃ t, J t ∧ ∀ k, os_loop (step k) N s = k t) ∨ (∃ v, E v ∧ ∀ k, os_loop (step k) N s = v) := by
  intro N
  induction N with
  | zero => intro s hs; omega
  | succ N ih =>
    intro s hs hI
    rcases h s hI with ⟨s', hI', hM, e⟩ | ⟨t, ht, e⟩ | ⟨v, hv, e⟩
    · rcases ih s' (by omega) hI' with ⟨t, ht, e2⟩ | ⟨v, hv, e2⟩
      · exact Or.inl ⟨t, ht, fun k => (e k _).trans (e2 k)⟩
      · exact Or.inr ⟨v, hv, fun k => (e k _).trans (e2 k)⟩
    · exact Or.inl ⟨t, ht, fun k => e k _⟩
    · exact Or.inr ⟨v, hv, fun k => e k _⟩
