/-! LAYER 2. Tokens, pairwise -/
abbrev tx : Type := Nat × (Nat → Int) × (Nat → Nat) × (Nat → Nat) × (Nat → Int) × Nat
abbrev kt : Nat → Prop := fun i => (4 ≤ i ∧ i ≤ 9) ∨ (18 ≤ i ∧ i ≤ 23) ∨ (38 ≤ i ∧ i ≤ 40)
abbrev ke : Nat → Prop := fun i => 4 ≤ i ∧ i ≤ 9
abbrev jt : Nat → Prop := fun j => j = 2 ∨ j = 5 ∨ j = 13 ∨ j = 14
/-- the kind of token p -/
def kq (X : tx) (p : Nat) : Int := kk X.2.2.1 X.2.2.2.1 X.2.2.2.2.1 X.2.2.2.2.2 p
def fq (X : tx) (p : Nat) : Nat → Int := fun i => X.2.1 (X.2.2.1 p + i)
def zq (X : tx) (p : Nat) : Nat := X.2.2.2.1 p
def tj (X : tx) (t m : os_T) (p : Nat) : Prop :=
  ty t X.1 X.2.1 ∧ tt t X.2.1 X.2.2.1 X.2.2.2.1 X.2.2.2.2.1 X.2.2.2.2.2 ∧ tp X.2.1 X.2.2.1 X.2.2.2.1 X.2.2.2.2.1 X.2.2.2.2.2 X.1 ∧ p ≤ X.2.2.2.2.2 ∧ tc t X.1 X.2.2.1 X.2.2.2.1 X.2.2.2.2.1 X.2.2.2.2.2 p ∧ os_I t 10 = 0 ∧ my m X.1 X.2.1 ∧ mt m X.2.1 X.1 X.2.2.1 X.2.2.2.1 X.2.2.2.2.1 X.2.2.2.2.2 p ∧ os_I m 8 = 0 ∧ os_I m 9 = (-1 : Int32)
/-- an error, told at the present token -/
def te (t m : os_T) : Prop := ∃ c : Int, 1 ≤ c ∧ c ≤ 5 ∧ os_I t 10 = Int32.ofInt c ∧ os_I m 8 = Int32.ofInt c ∧ os_I t 8 = os_I m 9
def wc (k : Nat) (i : Nat) : Int := ((st_byt.getD k []).getD i 0).toInt
def wn (k : Nat) : Nat := st_len.getD k 0
def wcv (k : Nat) : Int := wl (wc k) (wn k)
theorem wc_r : ∀ k, k < 19 → (1 ≤ wn k ∧ wn k ≤ 8) ∧ ∀ i, i < wn k → 97 ≤ wc k i ∧ wc k i ≤ 122 := by decide +kernel
theorem wl_inj {f g : Nat → Int} : ∀ n m, n ≤ 8 → m ≤ 8 → (∀ i, i < n → 97 ≤ f i ∧ f i ≤ 122) → (∀ i, i < m → 97 ≤ g i ∧ g i ≤ 122) → wl f n = wl g m → n = m ∧ ∀ i, i < n → f i = g i := by
  intro n
  induction n with
  | zero =>
    intro m hn hm hf hg e
    cases m with
    | zero => exact ⟨rfl, fun i hi => by omega⟩
    | succ m =>
      exfalso
      have h1 := wl_b (f := g) (n := m) (fun i hi => hg i (by omega))
      have h2 := hg m (by omega)
      have e : (0 : Int) = (if m < 8 then 32 * wl g m + (g m - 96) else wl g m) := e
      rw [if_pos (by omega)] at e
      omega
  | succ n ih =>
    intro m hn hm hf hg e
    have a1 := wl_b (f := f) (n := n) (fun i hi => hf i (by omega))
    have a2 := hf n (by omega)
    cases m with
    | zero =>
      exfalso
      have e : (if n < 8 then 32 * wl f n + (f n - 96) else wl f n) = (0 : Int) := e
      rw [if_pos (by omega)] at e
      omega
    | succ m =>
      have h1 := wl_b (f := g) (n := m) (fun i hi => hg i (by omega))
      have h2 := hg m (by omega)
      have e : (if n < 8 then 32 * wl f n + (f n - 96) else wl f n) = (if m < 8 then 32 * wl g m + (g m - 96) else wl g m) := e
      rw [if_pos (by omega), if_pos (by omega)] at e
      obtain ⟨e1, e2⟩ := ih m (by omega) (by omega) (fun i hi => hf i (by omega)) (fun i hi => hg i (by omega)) (by omega)
      subst e1
      refine ⟨rfl, fun i hi => ?_⟩
      by_cases c : i = n
      · subst c; omega
      · exact e2 i (by omega)
theorem wl_cg {f g : Nat → Int} : ∀ n, (∀ i, i < n → f i = g i) → wl f n = wl g n := by
  intro n
  induction n with
  | zero => intro _; rfl
  | succ n ih =>
    intro h
    show (if n < 8 then 32 * wl f n + (f n - 96) else wl f n) = (if n < 8 then 32 * wl g n + (g n - 96) else wl g n)
    rw [ih (fun i hi => h i (by omega)), h n (by omega)]
section Joint
variable {N : Nat} {X : tx} {t m : os_T} {p : Nat}
theorem st_lenE {k : Nat} (hk : k < 19) : ff_J0_length_8abf5 N k = some (0, Int32.ofInt (wn k : Int)) := by
  have h : ∀ k, k < 19 → ff_J0_length_8abf5 0 k = some (0, Int32.ofInt (wn k : Int)) := by decide +kernel
  exact h k hk
theorem st_chE {k i : Nat} (hk : k < 19) (hi : i < wn k) : ff_J0_charAt_5068e N k (Int32.ofInt (i : Int)) = some (0, Int32.ofInt (wc k i)) := by
  have h : ∀ k, k < 19 → ∀ i, i < wn k → ff_J0_charAt_5068e 0 k (Int32.ofInt (i : Int)) = some (0, Int32.ofInt (wc k i)) := by decide +kernel
  exact h k hk i hi
theorem kq_r (h : tj X t m p) : (p < X.2.2.2.2.2 ∨ kq X p = 0) ∧ 0 ≤ kq X p ∧ kq X p ≤ 5 ∧ kq X p ≠ 4 := by
  unfold kq
  by_cases c : p < X.2.2.2.2.2
  · obtain ⟨b1, b2, b3, b4, -⟩ := h.2.2.1.1 p c
    rw [kk_lt c]
    refine ⟨Or.inl c, ?_⟩
    split <;> omega
  · rw [kk_ge c]; omega
theorem kq_w (h : tj X t m p) (hk : kq X p = 1) : p < X.2.2.2.2.2 ∧ 1 ≤ zq X p ∧ zq X p ≤ 8 ∧ X.2.2.1 p + zq X p ≤ X.1 ∧ ∀ i, i < zq X p → 97 ≤ fq X p i ∧ fq X p i ≤ 122 := by
  have hr := kq_r h
  have c : p < X.2.2.2.2.2 := by omega
  obtain ⟨b1, b2, b3, b4, b5, b6, b7⟩ := h.2.2.1.1 p c
  unfold kq at hk
  rw [kk_lt c] at hk
  have hk2 : X.2.2.2.2.1 p = 1 ∧ ¬ 8 < X.2.2.2.1 p := by
    split at hk <;> omega
  refine ⟨c, b3, by unfold zq; omega, b2, fun i hi => ?_⟩
  unfold zq at hi
  have := b6 (X.2.2.1 p + i) (by omega) (by omega)
  rw [hk2.1] at this
  exact kd_1.1 this
theorem kq_n (h : tj X t m p) (hk : kq X p = 2) : p < X.2.2.2.2.2 ∧ 1 ≤ zq X p ∧ zq X p ≤ 4 ∧ X.2.2.1 p + zq X p ≤ X.1 ∧ ∀ i, i < zq X p → 48 ≤ fq X p i ∧ fq X p i ≤ 57 := by
  have hr := kq_r h
  have c : p < X.2.2.2.2.2 := by omega
  obtain ⟨b1, b2, b3, b4, b5, b6, b7⟩ := h.2.2.1.1 p c
  unfold kq at hk
  rw [kk_lt c] at hk
  have hk2 : X.2.2.2.2.1 p = 2 ∧ ¬ 4 < X.2.2.2.1 p := by
    split at hk <;> omega
  refine ⟨c, b3, by unfold zq; omega, b2, fun i hi => ?_⟩
  unfold zq at hi
  have := b6 (X.2.2.1 p + i) (by omega) (by omega)
  rw [hk2.1] at this
  exact kd_2.1 this
theorem tj_7 (h : tj X t m p) : os_I t 7 = Int32.ofInt (kq X p) := h.2.2.2.2.1.2.1
theorem tj_8 (h : tj X t m p) (c : p < X.2.2.2.2.2) : os_I t 8 = Int32.ofInt (X.2.2.1 p : Int) := by rw [h.2.2.2.2.1.2.2.1, if_pos c]
theorem tj_9 (h : tj X t m p) (c : p < X.2.2.2.2.2) : os_I t 9 = Int32.ofInt (zq X p : Int) := by rw [h.2.2.2.2.1.2.2.2, if_pos c]; rfl
theorem tj_m8 (h : tj X t m p) : os_I m 8 = 0 := h.2.2.2.2.2.2.2.2.1
theorem tj_m6 (h : tj X t m p) : os_I m 6 = Int32.ofInt (if kq X p = 5 then 4 else kq X p) := h.2.2.2.2.2.2.2.1.2.2.1
theorem tj_byte (h : tj X t m p) {i : Nat} (hi : X.2.2.1 p + i < X.1) (c : p < X.2.2.2.2.2) : ff_X10_byteAt N t (os_I t 8 + Int32.ofInt (i : Int)) = some (Int32.ofInt (bc (fq X p i))) := by
  rw [tj_8 h c, ia_add, pc_byteAt h.1 (by omega) (by omega)]
  congr 4
theorem bc_id {b : Int} (h : b ≤ 127) : bc b = b := if_pos (by omega)
/-- both go on -/
theorem tj_adv (hN : 1000 < N) (h : tj X t m p) (c : p < X.2.2.2.2.2) : ∃ t' m', ff_X10_advance N t = some t' ∧ ff_X13_goOn N m = some m' ∧ tj X t' m' (p + 1) ∧ sq ke kn m m' := by
  obtain ⟨h1, h2, h3, h4, h5, h6, h7, h8, h9, h10⟩ := h
  obtain ⟨t', e1, f1, y1⟩ := pc_advance (N := N) (p := p + 1) h1 h2 h3 (by omega) (by rw [h5.1]; congr 1; omega)
  obtain ⟨m', e2, f2, y2⟩ := rc_goOn (N := N) (p := p + 1) hN h7 h3 (by omega) (by rw [h8.1, if_pos c]; rfl)
  refine ⟨t', m', e1, e2, ⟨h1.sy y1 (by decide) (by decide), h2.sy y1 (by decide) (by decide) (by decide) (by decide), h3, by omega, f1, ?_, h7.sq y2 (by decide) (by decide), f2, ?_, ?_⟩, y2.mono (fun i hi => by omega) (fun j hj => hj.elim)⟩
  · rw [y1.1 10 (by decide)]; exact h6
  · rw [y2.1 8 (by decide)]; exact h9
  · rw [y2.1 9 (by decide)]; exact h10
/-- words -/
theorem tj_isWord (hN : 1000 < N) (h : tj X t m p) {k : Nat} (hk : k < 19) : ff_X10_isWord N t k = some (0, oz (decide (kq X p = 1 ∧ wl (fq X p) (zq X p) = wcv k))) := by
  have hr := kq_r h
  have hc := wc_r k hk
  unfold ff_X10_isWord
  rw [tj_7 h, ii_1, ii_eq (by omega) (by omega)]
  by_cases c1 : kq X p = 1
  · obtain ⟨cp, z1, z2, z3, zl⟩ := kq_w h c1
    rw [if_pos c1, if_pos hk, st_lenE hk, Option.bind_some, if_pos rfl, tj_9 h cp, ii_eq (by omega) (by omega)]
    by_cases cz : zq X p = wn k
    · rw [if_pos (by omega)]
      by_cases cb : ∀ i, i < zq X p → fq X p i = wc k i
      · have : wl (fq X p) (zq X p) = wcv k := by
          unfold wcv
          rw [wl_cg _ cb, cz]
        rw [decide_eq_true ⟨c1, this⟩]
        refine lo_run (fun i => (k, Int32.ofInt (i : Int))) (wn k) (fun i hi r => ?_) (fun r => ?_) (by omega)
        · show ff_X10_isWord_c23 N t r k (Int32.ofInt (i : Int)) = _
          unfold ff_X10_isWord_c23
          have hf := zl i (by omega)
          rw [if_pos hk, st_lenE hk, Option.bind_some, if_pos rfl, ii_le (by omega) (by omega), if_neg (by omega), tj_byte h (by omega) cp, Option.bind_some, if_pos hk, st_chE hk hi, Option.bind_some, if_pos rfl, bc_id (by omega), cb i (by omega), if_pos rfl, ii_1, ia_add]
          rfl
        · show ff_X10_isWord_c23 N t r k (Int32.ofInt (wn k : Int)) = _
          unfold ff_X10_isWord_c23
          rw [if_pos hk, st_lenE hk, Option.bind_some, if_pos rfl, ii_le (by omega) (by omega), if_pos (by omega)]
          rfl
      · have hne : ¬ (kq X p = 1 ∧ wl (fq X p) (zq X p) = wcv k) := fun z => by
          have := wl_inj _ _ z2 hc.1.2 zl hc.2 z.2
          exact cb this.2
        rw [decide_eq_false hne]
        have hex : ∃ i, i < zq X p ∧ fq X p i ≠ wc k i := Classical.byContradiction fun z => cb fun i hi => Classical.byContradiction fun z2 => z ⟨i, hi, z2⟩
        have hmin : ∃ i, i < zq X p ∧ fq X p i ≠ wc k i ∧ ∀ j, j < i → fq X p j = wc k j := by
          obtain ⟨i, hi, hx⟩ := hex
          have aux : ∀ n i, i ≤ n → i < zq X p → fq X p i ≠ wc k i → ∃ i, i < zq X p ∧ fq X p i ≠ wc k i ∧ ∀ j, j < i → fq X p j = wc k j := by
            intro n
            induction n with
            | zero => intro i h0 hi hx; exact ⟨i, hi, hx, fun j hj => by omega⟩
            | succ n ih =>
              intro i h0 hi hx
              by_cases c : ∀ j, j < i → fq X p j = wc k j
              · exact ⟨i, hi, hx, c⟩
              · obtain ⟨j, hj, hxj⟩ : ∃ j, j < i ∧ fq X p j ≠ wc k j := Classical.byContradiction fun z => c fun j hj => Classical.byContradiction fun z2 => z ⟨j, hj, z2⟩
                exact ih j (by omega) (by omega) hxj
          exact aux i i (Nat.le_refl _) hi hx
        obtain ⟨q, hq, hx, hall⟩ := hmin
        refine lo_run (fun i => (k, Int32.ofInt (i : Int))) q (fun i hi r => ?_) (fun r => ?_) (by omega)
        · show ff_X10_isWord_c23 N t r k (Int32.ofInt (i : Int)) = _
          unfold ff_X10_isWord_c23
          have hf := zl i (by omega)
          rw [if_pos hk, st_lenE hk, Option.bind_some, if_pos rfl, ii_le (by omega) (by omega), if_neg (by omega), tj_byte h (by omega) cp, Option.bind_some, if_pos hk, st_chE hk (by omega), Option.bind_some, if_pos rfl, bc_id (by omega), hall i hi, if_pos rfl, ii_1, ia_add]
          rfl
        · show ff_X10_isWord_c23 N t r k (Int32.ofInt (q : Int)) = _
          unfold ff_X10_isWord_c23
          have hf := zl q hq
          have hg := hc.2 q (by omega)
          rw [if_pos hk, st_lenE hk, Option.bind_some, if_pos rfl, ii_le (by omega) (by omega), if_neg (by omega), tj_byte h (by omega) cp, Option.bind_some, if_pos hk, st_chE hk (by omega), Option.bind_some, if_pos rfl, bc_id (by omega)]
          show (if Int32.ofInt (fq X p q) = Int32.ofInt (wc k q) then _ else _) = _
          rw [ii_eq (by omega) (by omega), if_neg hx]
          rfl
    · have hne : ¬ (kq X p = 1 ∧ wl (fq X p) (zq X p) = wcv k) := fun z => cz (wl_inj _ _ z2 hc.1.2 zl hc.2 z.2).1
      rw [if_neg (by omega), decide_eq_false hne]
      rfl
  · rw [if_neg c1, decide_eq_false (fun z => c1 z.1)]
    rfl
theorem lg_0 {a b : Int} (ha : 0 ≤ a ∧ a < 1099511627776) (hb : 0 ≤ b ∧ b < 1099511627776) : (lg_cmp (Int64.ofInt a) (Int64.ofInt b) = 0) = (a = b) := by
  have ea : (Int64.ofInt a).toInt = a := Int64.toInt_ofInt_of_le (by omega) (by omega)
  have eb : (Int64.ofInt b).toInt = b := Int64.toInt_ofInt_of_le (by omega) (by omega)
  unfold lg_cmp
  have e1 : (Int64.ofInt a > Int64.ofInt b) = (b < a) := by rw [gt_iff_lt, Int64.lt_iff_toInt_lt, ea, eb]
  have e2 : (Int64.ofInt a = Int64.ofInt b) = (a = b) := propext ⟨fun h => by have := congrArg Int64.toInt h; rwa [ea, eb] at this, fun h => by rw [h]⟩
  simp only [e1, e2]
  by_cases c1 : b < a
  · rw [if_pos c1]; exact propext ⟨fun h => absurd h (by decide), fun h => by omega⟩
  · rw [if_neg c1]
    by_cases c2 : a = b
    · rw [if_pos c2]; exact propext ⟨fun _ => c2, fun _ => rfl⟩
    · rw [if_neg c2]; exact propext ⟨fun h => absurd h (by decide), fun h => absurd h c2⟩
theorem tj_isWordR (h : tj X t m p) {k : Nat} (hk : k < 19) {w : Int64} (hw : w = Int64.ofInt (wcv k)) : ff_X13_isWord N m w = some (oz (decide (kq X p = 1 ∧ wl (fq X p) (zq X p) = wcv k))) := by
  have hr := kq_r h
  have hc := wc_r k hk
  subst hw
  unfold ff_X13_isWord
  rw [tj_m8 h, if_pos rfl, tj_m6 h, ii_1, ii_eq (by split <;> omega) (by omega)]
  by_cases c1 : kq X p = 1
  · obtain ⟨cp, z1, z2, z3, zl⟩ := kq_w h c1
    have e12 : os_L m 12 = Int64.ofInt (wl (fq X p) (zq X p)) := h.2.2.2.2.2.2.2.1.2.2.2.1 c1
    rw [if_pos (by rw [if_neg (by omega)]; exact c1), e12]
    have e0 := lg_0 (wl_b (f := fq X p) (n := zq X p) zl) (wl_b (f := wc k) (n := wn k) hc.2)
    show (if lg_cmp (Int64.ofInt (wl (fq X p) (zq X p))) (Int64.ofInt (wl (wc k) (wn k))) = 0 then _ else _) = _
    simp only [e0]
    by_cases c2 : wl (fq X p) (zq X p) = wl (wc k) (wn k)
    · rw [if_pos c2, decide_eq_true ⟨c1, c2⟩]; rfl
    · rw [if_neg c2, decide_eq_false (fun z => c2 z.2)]; rfl
  · rw [if_neg (by split <;> omega), decide_eq_false (fun z => c1 z.1)]
    rfl
/-- an error on both sides -/
theorem tj_fail (h : tj X t m p) {c : Int} (hc : 1 ≤ c ∧ c ≤ 5) (hb : kq X p = 5 → c = 1) : ∃ m', ff_X10_fail N t (Int32.ofInt c) = some (0, ss_I t 10 (Int32.ofInt c)) ∧ ff_X13_wrong N m (Int32.ofInt c) = some m' ∧ te (ss_I t 10 (Int32.ofInt c)) m' ∧ sq ke kn m m' ∧ os_I m' 8 = Int32.ofInt c := by
  have hr := kq_r h
  have e59 : os_I t 8 = os_I m 5 := by rw [h.2.2.2.2.1.2.2.1, h.2.2.2.2.2.2.2.1.2.1]
  refine ⟨ss_I (ss_I m 8 (Int32.ofInt c)) 9 (os_I m 5), rfl, ?_, ⟨c, hc.1, hc.2, rfl, rfl, e59⟩, (show sq ke kn m (ss_I m 8 (Int32.ofInt c)) from sq_I (by decide)).tr (sq_I (by decide)), rfl⟩
  unfold ff_X13_wrong ff_X13_wrong_b22
  rw [tj_m8 h, if_pos (by decide), tj_m6 h, ii_4, ii_eq (by split <;> omega) (by omega)]
  by_cases c5 : kq X p = 5
  · rw [if_pos (by rw [if_pos c5]), hb c5]; rfl
  · rw [if_neg (by rw [if_neg c5]; exact hr.2.2.2)]
/-- the reference in an error -/
theorem te_8 (h : te t m) : ¬ (os_I m 8 = 0) := by
  obtain ⟨c, h1, h2, h3, h4, h5⟩ := h
  rw [h4]
  intro z
  rw [i0_eq (by omega)] at z
  omega
theorem te_8p (h : te t m) : ¬ (os_I m 8 ≤ 0) := by
  obtain ⟨c, h1, h2, h3, h4, h5⟩ := h
  rw [h4]
  intro z
  rw [i0_le (by omega)] at z
  omega
theorem te_good (h : te t m) : ff_X13_isGood N m = some 0 := by
  unfold ff_X13_isGood
  rw [if_neg (te_8 h)]
theorem tj_good (h : tj X t m p) : ff_X13_isGood N m = some 1 := by
  unfold ff_X13_isGood
  rw [if_pos (tj_m8 h)]
theorem te_sq {m' : os_T} {K J : Nat → Prop} (h : te t m) (hx : sq K J m m') (h8 : ¬ K 8) (h9 : ¬ K 9) : te t m' := by
  obtain ⟨c, h1, h2, h3, h4, h5⟩ := h
  exact ⟨c, h1, h2, h3, by rw [hx.1 8 h8]; exact h4, by rw [hx.1 9 h9]; exact h5⟩
theorem te_wrong (h : te t m) {v : Int32} : ff_X13_wrong N m v = some m := by
  unfold ff_X13_wrong
  rw [if_neg (te_8p h)]
theorem te_number (h : te t m) {a b : Int32} : ff_X13_number N m a b = some (os_I m 7, m) := by
  unfold ff_X13_number ff_X13_number_b20 ff_X13_number_b49
  rw [te_good h, Option.bind_some, if_pos rfl, Option.bind_some, if_pos rfl, Option.bind_some, if_pos rfl]
theorem te_must (h : te t m) {w : Int64} : ff_X13_must N m w = some m := by
  unfold ff_X13_must ff_X13_must_b20
  rw [te_good h, Option.bind_some, if_pos rfl, Option.bind_some, if_pos rfl]
theorem te_mustSign (h : te t m) {w : Int32} : ff_X13_mustSign N m w = some m := by
  unfold ff_X13_mustSign ff_X13_mustSign_b20
  rw [te_good h, Option.bind_some, if_pos rfl, Option.bind_some, if_pos rfl]
theorem te_behind (h : te t m) {w : Int64} {a b : Int32} : ff_X13_numberBehind N m w a b = some (os_I m 7, m) := by
  unfold ff_X13_numberBehind
  rw [te_must h, Option.bind_some, te_number h, Option.bind_some]
/-- a number is read: it is there, or there is an error -/
theorem tj_number (hN : 1000 < N) (h : tj X t m p) {a b : Int} (ha : 0 ≤ a ∧ a ≤ 100000) (hb : 0 ≤ b ∧ b ≤ 100000) : (∃ (v : Int) (t' m' : os_T), a ≤ v ∧ v ≤ b ∧ ff_X10_takeNumber N t (Int32.ofInt a) (Int32.ofInt b) = some (Int32.ofInt v, t') ∧ ff_X13_number N m (Int32.ofInt a) (Int32.ofInt b) = some (Int32.ofInt v, m') ∧ tj X t' m' (p + 1) ∧ p < X.2.2.2.2.2 ∧ sq ke kn m m') ∨ (∃ (t' m' : os_T) (w : Int32), ff_X10_takeNumber N t (Int32.ofInt a) (Int32.ofInt b) = some (-1, t') ∧ ff_X13_number N m (Int32.ofInt a) (Int32.ofInt b) = some (w, m') ∧ te t' m' ∧ sq ke kn m m') := by
  have hr := kq_r h
  have e7 : (os_I t 7 = (2 : Int32)) = (kq X p = 2) := by rw [tj_7 h]; exact ia_eq (b := 2) (by omega) (by omega) (by omega) (by omega)
  have e6 : (os_I m 6 = (2 : Int32)) = (kq X p = 2) := by
    rw [tj_m6 h]
    refine (ia_eq (b := 2) (by split <;> omega) (by split <;> omega) (by omega) (by omega)).trans (propext ⟨fun z => ?_, fun z => ?_⟩)
    · split at z <;> omega
    · rw [if_neg (by omega)]; exact z
  by_cases c2 : kq X p = 2
  · obtain ⟨cp, z1, z2, z3, zl⟩ := kq_n h c2
    have hv := nv_b (f := fq X p) (n := zq X p) zl
    have e17 : os_I m 7 = Int32.ofInt (nv (fq X p) (zq X p)) := h.2.2.2.2.2.2.2.1.2.2.2.2.1 c2
    have cls : ff_X10_takeNumber N t (Int32.ofInt a) (Int32.ofInt b) = if nv (fq X p) (zq X p) < a then some ((-1 : Int32), ss_I t 10 (2 : Int32)) else if nv (fq X p) (zq X p) ≤ b then ((ff_X10_advance N t).bind fun u_5 => some (Int32.ofInt (nv (fq X p) (zq X p)), u_5)) else some ((-1 : Int32), ss_I t 10 (2 : Int32)) := by
      unfold ff_X10_takeNumber
      rw [if_pos (by rw [e7]; exact c2)]
      refine lo_run (fun i => (t, Int32.ofInt a, Int32.ofInt b, Int32.ofInt (nv (fq X p) i), Int32.ofInt (i : Int))) (zq X p) (fun i hi r => ?_) (fun r => ?_) (by omega)
      · show ff_X10_takeNumber_c20 N r t (Int32.ofInt a) (Int32.ofInt b) (Int32.ofInt (nv (fq X p) i)) (Int32.ofInt (i : Int)) = _
        have hl := zl i hi
        unfold ff_X10_takeNumber_c20
        rw [tj_9 h cp, ii_le (by omega) (by omega), if_neg (by omega), tj_byte h (by omega) cp, Option.bind_some, bc_id (by omega), ii_10, ia_mul, ii_48, ia_sub, ia_add, ii_1, ia_add]
        show r (t, Int32.ofInt a, Int32.ofInt b, _, _) = r (t, Int32.ofInt a, Int32.ofInt b, Int32.ofInt (if i < 4 then 10 * nv (fq X p) i + fq X p i - 48 else nv (fq X p) i), _)
        rw [if_pos (by omega)]
        congr 6
        omega
      · show ff_X10_takeNumber_c20 N r t (Int32.ofInt a) (Int32.ofInt b) (Int32.ofInt (nv (fq X p) (zq X p))) (Int32.ofInt (zq X p : Int)) = _
        unfold ff_X10_takeNumber_c20 ff_X10_takeNumber_b65
        rw [tj_9 h cp, ii_le (by omega) (by omega), if_pos (by omega), ii_lt (by omega) (by omega), ii_le (by omega) (by omega)]
    have ref : ff_X13_number N m (Int32.ofInt a) (Int32.ofInt b) = if a ≤ nv (fq X p) (zq X p) ∧ nv (fq X p) (zq X p) ≤ b then ((ff_X13_goOn N m).bind fun u => some (Int32.ofInt (nv (fq X p) (zq X p)), u)) else ((ff_X13_wrong N m (2 : Int32)).bind fun u_13 => ff_X13_number_b49 N u_13 (Int32.ofInt (nv (fq X p) (zq X p)))) := by
      unfold ff_X13_number
      rw [tj_good h, Option.bind_some, if_neg (by decide), if_pos (by rw [e6]; exact c2)]
      unfold ff_X13_number_b20
      rw [tj_good h, Option.bind_some, if_neg (by decide), e17, ia_j (by omega) (by omega), ia_j (by omega) (by omega), ia_j (by omega) (by omega), rc_isIn (by omega) (by omega) (by omega), Option.bind_some, oz_ite]
      by_cases c : a ≤ nv (fq X p) (zq X p) ∧ nv (fq X p) (zq X p) ≤ b
      · rw [if_pos c, if_pos c]
        unfold ff_X13_number_b49
        rw [tj_good h, Option.bind_some, if_neg (by decide)]
      · rw [if_neg c, if_neg c]
    by_cases c : a ≤ nv (fq X p) (zq X p) ∧ nv (fq X p) (zq X p) ≤ b
    · obtain ⟨t', m', w1, w2, hj, hq⟩ := tj_adv (N := N) hN h cp
      refine Or.inl ⟨nv (fq X p) (zq X p), t', m', c.1, c.2, ?_, ?_, hj, cp, hq⟩
      · rw [cls, if_neg (by omega), if_pos c.2, w1, Option.bind_some]
      · rw [ref, if_pos c, w2, Option.bind_some]
    · obtain ⟨m', w1, w2, hj, hq, -⟩ := tj_fail (N := N) (c := 2) h (by omega) (by omega)
      refine Or.inr ⟨ss_I t 10 (Int32.ofInt 2), m', Int32.ofInt (nv (fq X p) (zq X p)), ?_, ?_, hj, hq⟩
      · rw [cls]
        by_cases c3 : nv (fq X p) (zq X p) < a
        · rw [if_pos c3]; rfl
        · rw [if_neg c3, if_neg (by omega)]; rfl
      · rw [ref, if_neg c, ii_2, w2, Option.bind_some]
        unfold ff_X13_number_b49
        rw [te_good hj, Option.bind_some, if_pos rfl]
  · obtain ⟨m', w1, w2, hj, hq, -⟩ := tj_fail (N := N) (c := 1) h (by omega) (by omega)
    refine Or.inr ⟨ss_I t 10 (Int32.ofInt 1), m', os_I m' 7, ?_, ?_, hj, hq⟩
    · unfold ff_X10_takeNumber
      rw [if_neg (by rw [e7]; exact c2)]; rfl
    · unfold ff_X13_number ff_X13_number_b20 ff_X13_number_b49
      rw [tj_good h, Option.bind_some, if_neg (by decide), if_neg (by rw [e6]; exact c2), ii_1, w2, Option.bind_some, te_good hj, Option.bind_some, if_pos rfl, Option.bind_some, if_pos rfl]
/-- a sign -/
theorem tj_isSign (h : tj X t m p) {v : Int} (hv : 0 ≤ v ∧ v ≤ 127) : ff_X10_isSign N t (Int32.ofInt v) = some (oz (decide (kq X p = 3 ∧ fq X p 0 = v))) ∧ ff_X13_isSign N m (Int32.ofInt v) = some (oz (decide (kq X p = 3 ∧ fq X p 0 = v))) := by
  have hr := kq_r h
  by_cases c3 : kq X p = 3
  · have cp : p < X.2.2.2.2.2 := by omega
    obtain ⟨b1, b2, b3, b4, b5, b6, b7⟩ := h.2.2.1.1 p cp
    have e7 : os_I m 7 = Int32.ofInt (fq X p 0) := h.2.2.2.2.2.2.2.1.2.2.2.2.2 c3
    have hk : X.2.2.2.2.1 p = 3 := by
      have c3 := c3
      unfold kq at c3
      rw [kk_lt cp] at c3
      split at c3 <;> omega
    have hs : fq X p 0 = 59 ∨ fq X p 0 = 40 ∨ fq X p 0 = 41 := kd_3.1 (by
      have := b6 (X.2.2.1 p) (Nat.le_refl _) (by omega)
      rw [hk] at this
      exact this)
    have eb : ff_X10_byteAt N t (os_I t 8) = some (Int32.ofInt (bc (fq X p 0))) := by
      rw [tj_8 h cp, pc_byteAt h.1 (by omega) (by omega)]
      rfl
    constructor
    · unfold ff_X10_isSign
      rw [tj_7 h, ii_3, ii_eq (by omega) (by omega), if_pos c3, eb, Option.bind_some, bc_id (by omega), ii_eq (by omega) (by omega)]
      by_cases cv : fq X p 0 = v
      · rw [if_pos cv, decide_eq_true ⟨c3, cv⟩]; rfl
      · rw [if_neg cv, decide_eq_false (fun z => cv z.2)]; rfl
    · unfold ff_X13_isSign
      rw [tj_m8 h, if_pos rfl, tj_m6 h, if_neg (show ¬ kq X p = 5 by omega), ii_3, ii_eq (by omega) (by omega), if_pos c3, e7, ii_eq (by omega) (by omega)]
      by_cases cv : fq X p 0 = v
      · rw [if_pos cv, decide_eq_true ⟨c3, cv⟩]; rfl
      · rw [if_neg cv, decide_eq_false (fun z => cv z.2)]; rfl
  · rw [decide_eq_false (fun z => c3 z.1)]
    constructor
    · unfold ff_X10_isSign
      rw [tj_7 h, ii_3, ii_eq (by omega) (by omega), if_neg c3]; rfl
    · unfold ff_X13_isSign
      rw [tj_m8 h, if_pos rfl, tj_m6 h, ii_3, ii_eq (by split <;> omega) (by omega), if_neg (by split <;> omega)]; rfl
theorem tj_sign (hN : 1000 < N) (h : tj X t m p) {v : Int} (hv : 0 ≤ v ∧ v ≤ 127) : (∃ (t' m' : os_T), ff_X10_takeSign N t (Int32.ofInt v) = some (1, t') ∧ ff_X13_mustSign N m (Int32.ofInt v) = some m' ∧ tj X t' m' (p + 1) ∧ p < X.2.2.2.2.2 ∧ sq ke kn m m') ∨ (∃ (t' m' : os_T), ff_X10_takeSign N t (Int32.ofInt v) = some (0, t') ∧ ff_X13_mustSign N m (Int32.ofInt v) = some m' ∧ te t' m' ∧ sq ke kn m m') := by
  have hr := kq_r h
  obtain ⟨s1, s2⟩ := tj_isSign (N := N) h hv
  unfold ff_X10_takeSign ff_X13_mustSign ff_X13_mustSign_b20
  rw [s1, s2, Option.bind_some, oz_ite, tj_good h, Option.bind_some, if_neg (show ¬ ((1 : Int32) = 0) by decide), Option.bind_some, oz_ite]
  by_cases c : kq X p = 3 ∧ fq X p 0 = v
  · have cp : p < X.2.2.2.2.2 := by omega
    obtain ⟨t', m', w1, w2, hj, hq⟩ := tj_adv (N := N) hN h cp
    refine Or.inl ⟨t', m', ?_, ?_, hj, cp, hq⟩
    · rw [if_pos c, w1, Option.bind_some]
    · rw [if_pos c, Option.bind_some, if_neg (by decide), w2, Option.bind_some]
  · obtain ⟨m', w1, w2, hj, hq, -⟩ := tj_fail (N := N) (c := 1) h (by omega) (by omega)
    refine Or.inr ⟨ss_I t 10 (Int32.ofInt 1), m', ?_, ?_, hj, hq⟩
    · rw [if_neg c]; rfl
    · rw [if_neg c, ii_1, w2, Option.bind_some, te_good hj, Option.bind_some, if_pos rfl]
theorem tj_wordMust (hN : 1000 < N) (h : tj X t m p) {k : Nat} (hk : k < 19) {w : Int64} (hw : w = Int64.ofInt (wcv k)) : (∃ (t' m' : os_T), ff_X10_takeWord N t k = some (0, 1, t') ∧ ff_X13_must N m w = some m' ∧ tj X t' m' (p + 1) ∧ p < X.2.2.2.2.2 ∧ sq ke kn m m') ∨ (∃ (t' m' : os_T), ff_X10_takeWord N t k = some (0, 0, t') ∧ ff_X13_must N m w = some m' ∧ te t' m' ∧ sq ke kn m m') := by
  have hr := kq_r h
  unfold ff_X10_takeWord ff_X13_must ff_X13_must_b20
  rw [tj_isWord hN h hk, tj_isWordR h hk hw, Option.bind_some, if_pos rfl, oz_ite, tj_good h, Option.bind_some, if_neg (show ¬ ((1 : Int32) = 0) by decide), Option.bind_some, oz_ite]
  by_cases c : kq X p = 1 ∧ wl (fq X p) (zq X p) = wcv k
  · have cp : p < X.2.2.2.2.2 := by omega
    obtain ⟨t', m', w1, w2, hj, hq⟩ := tj_adv (N := N) hN h cp
    refine Or.inl ⟨t', m', ?_, ?_, hj, cp, hq⟩
    · rw [if_pos c, w1, Option.bind_some]
    · rw [if_pos c, Option.bind_some, if_neg (by decide), w2, Option.bind_some]
  · obtain ⟨m', w1, w2, hj, hq, -⟩ := tj_fail (N := N) (c := 1) h (by omega) (by omega)
    refine Or.inr ⟨ss_I t 10 (Int32.ofInt 1), m', ?_, ?_, hj, hq⟩
    · rw [if_neg c]; rfl
    · rw [if_neg c, ii_1, w2, Option.bind_some, te_good hj, Option.bind_some, if_pos rfl]
end Joint
