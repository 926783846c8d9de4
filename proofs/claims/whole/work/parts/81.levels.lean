/-! LAYER 2. A script is read, level by level -/
def sj (X : tx) (s t m : os_T) (p d c q : Nat) : Prop := tj X t m p ∧ os_I s 5 = Int32.ofInt (c : Int) ∧ c ≤ 30 ∧ os_I m 38 = Int32.ofInt (q : Int) ∧ os_I m 39 = Int32.ofInt (c : Int) ∧ os_I m 40 = Int32.ofInt (d : Int) ∧ q + d ≤ 2 * c
def rdOk {β : Type} (cb rb : β → Nat) (lb : os_T → os_T → Nat → Nat → β → Prop) (N : Nat) (X : tx) (s m : os_T) (p d c q : Nat) (A : Option (Nat × Int32 × os_T × os_T)) (R : Option (Int32 × os_T)) (E : Nat → List (Option (Nat × β)) → Prop) : Prop :=
  ∃ (s' t' m' : os_T) (p' c' q' f' M' : Nat) (l : List (Option (Nat × β))), A = some (0, 1, s', t') ∧ R = cL N f' M' m' ∧ sj X s' t' m' p' d c' q' ∧ p + 2 * l.length ≤ p' ∧ d < f' ∧ X.2.2.2.2.2 - p' + 1 < M' ∧ c' = c + cs cb l ∧ q' = q + rsz rb l ∧ ly cb rb lb s' m' c q l ∧ agr s m s' m' 0 c 0 q ∧ sq kt jt m m' ∧ os_I s' 6 = os_I s 6 ∧ E p' l
def rdBad (N : Nat) (m : os_T) (A : Option (Nat × Int32 × os_T × os_T)) (R : Option (Int32 × os_T)) : Prop :=
  ∃ (s' t' m' : os_T), A = some (0, 0, s', t') ∧ R = ff_X13_runScript_b82 N m' ∧ te t' m' ∧ sq kt jt m m'
section Levels
variable {N : Nat} {X : tx} {t m s : os_T} {p c q f M : Nat}
theorem ix_in {c : Nat} (hc : c < 30) : ff_X8_isIndex N (Int32.ofInt (c : Int)) = some 1 := by
  unfold ff_X8_isIndex
  simp only [i0_lt (a := (c : Int)) (by omega)]
  rw [if_neg (by omega), ii_30, ii_le (by omega) (by omega), if_neg (by omega)]
theorem ix_out : ff_X8_isIndex N (Int32.ofInt ((30 : Nat) : Int)) = some 0 := rfl
theorem va_eq {α : Type} {g : Nat → α} {k : Nat} {v : α} : va_up g k v k = v := by unfold va_up; simp
theorem va_ne {α : Type} {g : Nat → α} {k j : Nat} {v : α} (h : j ≠ k) : va_up g k v j = g j := by unfold va_up; simp [h]
theorem sc_numsX (hN : 1000 < N) {k q i : Nat} (hk : k < 12) (hq : q < 60) (hi : i < 30) (ht : tj X t m p) (h38 : os_I m 38 = Int32.ofInt (q : Int)) :
    (∃ (p' : Nat) (t' m' s' : os_T) (V' : Nat → Int), ff_X8_readNumbers N s t k (Int32.ofInt (i : Int)) = some (0, 1, s', t') ∧ ff_X13_command_l72 N N (m, Int32.ofInt (k : Int), (0 : Int32)) = (if Int32.ofInt (k : Int) = (11 : Int32) then ((ff_X13_mustSign N m' (40 : Int32)).bind fun u_22 => ff_X13_command_b143 N u_22 (Int32.ofInt (k : Int))) else ff_X13_command_b143 N m' (Int32.ofInt (k : Int))) ∧ tj X t' m' p' ∧ p ≤ p' ∧ (∀ a, a < nm k → (lw k ≤ V' a ∧ V' a ≤ hw k a) ∧ os_A s' 0 (5 * i + a) = Int32.ofInt (V' a) ∧ os_A m' 14 (5 * q + a) = Int32.ofInt (V' a)) ∧ (∀ a, (a < 5 * i ∨ 5 * i + 5 ≤ a) → os_A s' 0 a = os_A s 0 a) ∧ (∀ a, (a < 5 * q ∨ 5 * q + 5 ≤ a) → os_A m' 14 a = os_A m 14 a) ∧ sq kn (fun j => j = 0) s s' ∧ s'.2.2.2 = s.2.2.2 ∧ sq ke (fun j => j = 14) m m') ∨
    (∃ (t' m' s' : os_T), ff_X8_readNumbers N s t k (Int32.ofInt (i : Int)) = some (0, 0, s', t') ∧ ff_X13_command_l72 N N (m, Int32.ofInt (k : Int), (0 : Int32)) = some m' ∧ te t' m' ∧ sq ke (fun j => j = 14) m m') := by
  have e : ff_X8_readNumbers N s t k (Int32.ofInt (i : Int)) = os_loop (fun k16 s1 => ff_X8_readNumbers_c16 N k16 s1.1 s1.2.1 s1.2.2.1 s1.2.2.2.1 s1.2.2.2.2.1 s1.2.2.2.2.2) N (s, t, k, Int32.ofInt (i : Int), Int32.ofInt (lw k), Int32.ofInt ((0 : Nat) : Int)) := by
    unfold ff_X8_readNumbers lw
    rw [if_pos hk]
    by_cases c : k = 11
    · rw [if_pos c, if_pos c]; rfl
    · rw [if_neg c, if_neg c]; rfl
  have hk5 := (nm_c k hk).2.2
  rw [e]
  exact sc_nums (N := N) hN hk hq hi (nm k) 0 N N p t m s (fun _ => 0) (by omega) (by omega) (by omega) ht h38 (fun a ha => by omega)
theorem rd_cmd0 (hN : 1000 < N) (hC : X.2.2.2.2.2 ≤ 900) (hN2 : 2000 < N) (h : sj X s t m p 2 c q) (hA : True) (hM : X.2.2.2.2.2 - p + 1 < M) : rdOk (fun x => x.elim) (fun x => x.elim) (fun _ _ _ _ (x : Empty) => x.elim) N X s m p 2 c q (ff_X8_readCommand_v0 N s t (Int32.ofInt ((2 : Nat) : Int))) (mL N M m) (fun _ l => l ≠ []) ∨ rdBad N m (ff_X8_readCommand_v0 N s t (Int32.ofInt ((2 : Nat) : Int))) (mL N M m) := by
  obtain ⟨hj, h5, hc30, h38, h39, h40, hqd⟩ := h
  by_cases hw : ∃ k, k < 12 ∧ kq X p = 1 ∧ wl (fq X p) (zq X p) = wcv k
  · obtain ⟨k, hk, hk1, hk2⟩ := hw
    obtain ⟨w1, w2⟩ := pr_word (N := N) (s := s) hN hj hk hk1 hk2
    have cp := (kq_w hj hk1).1
    unfold ff_X8_readCommand_v0
    rw [w1, Option.bind_some, if_pos rfl]
    show rdOk _ _ _ _ _ _ _ _ _ _ _ (if k < 12 then _ else _) _ _ ∨ rdBad _ _ (if k < 12 then _ else _) _
    rw [if_pos hk]
    by_cases deep : k = 11
    · right
      subst deep
      obtain ⟨m1, v1, v2, v3⟩ := cmD (N := N) hj hk1 w2 h40
      have ref := mL_te (M := M) (by omega) hj (by omega) v1 v2 (v3.1 40 (by decide)) (by omega)
      refine ⟨s, ss_I t 10 3, m1, ?_, ref, v2, ke_kt v3⟩
      rw [if_pos rfl, if_neg (show ¬ (Int32.ofInt ((2 : Nat) : Int) < (2 : Int32)) by decide), fail3, z0]
    rcases cmG (N := N) (c := c) (d := 2) hN hj hk1 hk w2 h40 (by omega) (by omega) h39 hc30 with ⟨e30, m1, v1, v2, v3⟩ | ⟨hc, t1, m1, v1, v2, h1, v39, v3⟩
    · right
      subst e30
      have ref := mL_te (M := M) (by omega) hj (by omega) v1 v2 (v3.1 40 (by decide)) (by omega)
      refine ⟨s, ss_I t 10 5, m1, ?_, ref, v2, ke_kt v3⟩
      rw [if_neg deep]
      unfold ff_X8_readCommand_v0_b39
      rw [h5, ix_out, Option.bind_some, if_pos rfl, fail5, z0]
    · have ig : ∀ {α : Type} {A B : α}, (if k = 11 then (if Int32.ofInt ((2 : Nat) : Int) < (2 : Int32) then A else B) else A) = A := fun {α A B} => by
        rw [if_neg deep]
      rw [ig]
      have q60 : q < 60 := by omega
      have f38 : os_I m1 38 = Int32.ofInt (q : Int) := by rw [v3.1 38 (by decide)]; exact h38
      have f40 : os_I m1 40 = Int32.ofInt ((2 : Nat) : Int) := by rw [v3.1 40 (by decide)]; exact h40
      have q1 : sq kt jt m m1 := v3.mono (fun i hi => by omega) (fun j hj => hj.elim)
      have f13 : os_A m1 13 = os_A m 13 := v3.2 13 (fun z => z)
      have f14 : os_A m1 14 = os_A m 14 := v3.2 14 (fun z => z)
      have einc : Int32.ofInt (c : Int) + (1 : Int32) = Int32.ofInt ((c + 1 : Nat) : Int) := by rw [ii_1, ia_add]; rfl
      have hin : os_in (Int32.ofInt (c : Int)) 30 := ia_in (by omega) (by omega) (by omega)
      have hna : Int32.toNatClampNeg (Int32.ofInt (c : Int)) = c := by rw [ia_nat (by omega) (by omega), Int.toNat_natCast]
      unfold ff_X8_readCommand_v0_b39
      rw [h5, ix_in hc, Option.bind_some, if_neg (show ¬ ((1 : Int32) = 0) by decide), if_pos hk, if_pos hin, hna, einc, v1, Option.bind_some]
      obtain ⟨M, rfl⟩ : ∃ M', M = M' + 1 := ⟨M - 1, by omega⟩
      rcases sc_numsX (N := N) (s := ss_I (ss_R s 0 (va_up (os_R s 0) c (some k))) 5 (Int32.ofInt ((c + 1 : Nat) : Int))) hN hk q60 hc h1 f38 with ⟨p2, t2, m2, s2, V, u1, u2, h2, hp2, u3, u4, u5, u6, u7, u8⟩ | ⟨t2, m2, s2, u1, u2, h2, u8⟩
      · have g5 : os_I s2 5 = Int32.ofInt ((c + 1 : Nat) : Int) := by rw [u6.1 5 (fun z => z)]; rfl
        have g6 : os_I s2 6 = os_I s 6 := by rw [u6.1 6 (fun z => z)]; rfl
        have gR : os_R s2 0 = va_up (os_R s 0) c (some k) := by
          show s2.2.2.2.2 0 = _
          rw [u7]; rfl
        have g1 : os_A s2 1 = os_A s 1 := by rw [u6.2 1 (by decide)]
        have g38 : os_I m2 38 = Int32.ofInt (q : Int) := by rw [u8.1 38 (by decide)]; exact f38
        have g39 : os_I m2 39 = Int32.ofInt ((c + 1 : Nat) : Int) := by rw [u8.1 39 (by decide)]; exact v39
        have g40 : os_I m2 40 = Int32.ofInt ((2 : Nat) : Int) := by rw [u8.1 40 (by decide)]; exact f40
        have g13 : os_A m2 13 = os_A m 13 := by rw [u8.2 13 (by decide)]; exact f13
        have q2 : sq kt jt m m2 := q1.tr (u8.mono (fun i hi => Or.inl hi) (fun j hj => by omega))
        have ag2 : agr s m s2 m2 0 c 0 q := ⟨fun j _ hj => ⟨by rw [gR, va_ne (by omega)], by rw [g1]⟩, fun j _ hj => u4 j (Or.inl hj), fun j _ hj => by rw [g13], fun j _ hj => by rw [u5 j (Or.inl hj), f14]⟩
        rw [u1, Option.bind_some, if_pos rfl, if_neg (show ¬ ((1 : Int32) = 0) by decide), if_pos hk]
        have b139 : ∀ (sx tx2 : os_T), ff_X8_readCommand_v0_b139 N sx tx2 (Int32.ofInt (c : Int)) = ((ff_X10_takeSign N tx2 (59 : Int32)).bind fun u_37 => (if u_37.1 = 0 then some (0, (0 : Int32), ss_A sx 1 (upd (os_A sx 1) c (os_I sx 5)), u_37.2) else some (0, (1 : Int32), ss_A sx 1 (upd (os_A sx 1) c (os_I sx 5)), u_37.2))) := fun sx tx2 => by
          unfold ff_X8_readCommand_v0_b139 ff_X8_readCommand_v0_b144
          rw [if_pos hin, if_neg (show ¬ ((1 : Int32) = 0) by decide), hna]
        have b143 : ∀ (sx tx2 : os_T), ff_X8_readCommand_v0_b143 N sx tx2 (Int32.ofInt (c : Int)) = some (0, (0 : Int32), ss_A sx 1 (upd (os_A sx 1) c (os_I sx 5)), tx2) := fun sx tx2 => by
          unfold ff_X8_readCommand_v0_b143 ff_X8_readCommand_v0_b144
          rw [if_pos hin, if_pos rfl, hna]
        have ek11 : (Int32.ofInt (k : Int) = (11 : Int32)) = (k = 11) := (ia_eq (b := 11) (by omega) (by omega) (by omega) (by omega)).trans (propext (by omega))
        rw [u2] at v2
        simp only [ek11] at v2
        by_cases c11 : k = 11
        · rw [if_pos c11] at v2 ⊢
          exact absurd c11 deep
        · rw [if_neg c11] at v2 ⊢
          rw [cmK h2 hk g38 q60 g40, if_neg c11] at v2
          rw [b139]
          have h3 : tj X t2 (ss_I (ss_I (ss_A m2 13 (upd (os_A m2 13) q (Int32.ofInt (k : Int)))) 38 (Int32.ofInt ((q + 1 : Nat) : Int))) 40 (Int32.ofInt ((2 + 0 : Nat) : Int))) p2 := tj_I (tj_I (tj_A h2 (by decide)) (by decide)) (by decide)
          have q3 : sq kt jt m (ss_I (ss_I (ss_A m2 13 (upd (os_A m2 13) q (Int32.ofInt (k : Int)))) 38 (Int32.ofInt ((q + 1 : Nat) : Int))) 40 (Int32.ofInt ((2 + 0 : Nat) : Int))) := q_st1 (q_st1 (q_st2 q2 (by decide)) (by decide)) (by decide)
          rw [mL_step hj (by omega) v2, if_pos (by rw [h40]; rfl)]
          rcases tj_sign (N := N) (v := 59) hN h3 (by decide) with ⟨t4, m4, x1, x2, h4, cp4, q4⟩ | ⟨t4, m4, x1, x2, h4, q4⟩
          · have x1 : ff_X10_takeSign N t2 (59 : Int32) = _ := x1
            have x2 : ff_X13_mustSign N _ (59 : Int32) = _ := x2
            have k13 : os_A m4 13 = upd (os_A m 13) q (Int32.ofInt (k : Int)) := by rw [q4.2 13 (fun z => z), ← g13]; rfl
            have k14 : os_A m4 14 = os_A m2 14 := q4.2 14 (fun z => z)
            left
            refine ⟨ss_A s2 1 (upd (os_A s2 1) c (os_I s2 5)), t4, m4, p2 + 1, c + 1, q + 1, N, M, [none], ?_, ?_, ⟨h4, g5, by omega, by rw [q4.1 38 (by decide)]; rfl, by rw [q4.1 39 (by decide)]; exact g39, by rw [q4.1 40 (by decide)]; rfl, by omega⟩, by show p + 2 * 1 ≤ p2 + 1; omega, by omega, by omega, rfl, rfl, ⟨?_, True.intro⟩, ?_, q3.tr (ke_kt q4), g6, List.cons_ne_nil _ _⟩
            · rw [x1, Option.bind_some, if_neg (show ¬ ((1 : Int32) = 0) by decide)]
            · rw [x2, Option.bind_some]
            · refine ⟨k, V, by omega, by show os_R s2 0 c = _; rw [gR, va_eq], by rw [k13, up_eq], fun a ha => ?_, ?_⟩
              · have z := u3 a ha
                have z1 : 0 ≤ lw k := by unfold lw; split <;> omega
                rw [k14]
                exact ⟨⟨by omega, z.1.2⟩, z.2⟩
              · show upd (os_A s2 1) c (os_I s2 5) c = _
                rw [up_eq, g5]
            · exact ag2.tr ⟨fun j _ hj => ⟨rfl, up_ne (by omega)⟩, fun j _ hj => rfl, fun j _ hj => by rw [k13, g13, up_ne (by omega)], fun j _ hj => by rw [k14]⟩
          · have x1 : ff_X10_takeSign N t2 (59 : Int32) = _ := x1
            have x2 : ff_X13_mustSign N _ (59 : Int32) = _ := x2
            right
            refine ⟨ss_A s2 1 (upd (os_A s2 1) c (os_I s2 5)), t4, m4, ?_, ?_, h4, q3.tr (ke_kt q4)⟩
            · rw [x1, Option.bind_some, if_pos rfl]
            · rw [x2, Option.bind_some]
              exact te_cL h4 (by omega) (by omega)
      · right
        rw [u2] at v2
        have ref := mL_te (M := M + 1) (by omega) hj (by omega) v2 h2 (by rw [u8.1 40 (by decide), v3.1 40 (by decide)]) (by omega)
        refine ⟨s2, t2, m2, ?_, ref, h2, q1.tr (u8.mono (fun i hi => Or.inl hi) (fun j hj => by omega))⟩
        rw [u1, Option.bind_some, if_pos rfl, if_pos rfl]
  · right
    obtain ⟨w1, w2⟩ := pr_none (N := N) (s := s) hN hj (fun k hk z => hw ⟨k, hk, z⟩)
    unfold ff_X8_readCommand_v0
    have cls : ∀ g : Nat → Option (Nat × Int32 × os_T × os_T), os_opt (none : Option Nat) ((ff_X10_fail N t (1 : Int32)).bind fun u_5 => (if os_z u_5.1 then some (0, u_5.1, s, u_5.2) else none)) g = some (0, 0, s, ss_I t 10 1) := fun g => by
      rfl
    rw [w1, Option.bind_some, if_pos rfl, cls]
    by_cases k0 : kq X p = 0
    · obtain ⟨m1, v1, v2, v3⟩ := mL_end (N := N) (M := M) hj k0 h40 (by omega) (by omega) (by omega)
      exact ⟨s, ss_I t 10 1, m1, rfl, v1, v2, ke_kt v3⟩
    · obtain ⟨m1, v1, v2, v3⟩ := cmN (N := N) hj w2
      exact ⟨s, ss_I t 10 1, m1, rfl, mL_te (by omega) hj k0 v1 v2 (v3.1 40 (by decide)) (by omega), v2, ke_kt v3⟩
theorem rd_cmds0 (hN : 1000 < N) (hC : X.2.2.2.2.2 ≤ 900) (hN2 : 2000 < N) : ∀ (j p : Nat) (s t m : os_T) (c q x f M F : Nat), X.2.2.2.2.2 - p ≤ j → j < F → sj X s t m p 2 c q → 2 * x ≤ p → 2 < f → X.2.2.2.2.2 - p + 1 < M → rdOk (fun x => x.elim) (fun x => x.elim) (fun _ _ _ _ (x : Empty) => x.elim) N X s m p 2 c q (os_loop (fun k2 s1 => ff_X8_readCommands_v0_c2 N k2 s1.1 s1.2.1 s1.2.2.1 s1.2.2.2) F (s, t, Int32.ofInt ((2 : Nat) : Int), Int32.ofInt (x : Int))) (cL N f M m) (fun p' _ => kq X p' = 3 ∧ fq X p' 0 = 41) ∨ rdBad N m (os_loop (fun k2 s1 => ff_X8_readCommands_v0_c2 N k2 s1.1 s1.2.1 s1.2.2.1 s1.2.2.2) F (s, t, Int32.ofInt ((2 : Nat) : Int), Int32.ofInt (x : Int))) (cL N f M m) := by
  intro j
  induction j with
  | zero =>
    intro p s t m c q x f M F hj0 hF hs hx hf hM
    obtain ⟨F, rfl⟩ : ∃ M', F = M' + 1 := ⟨F - 1, by omega⟩
    obtain ⟨hj, h5, hc30, h38, h39, h40, hqd⟩ := hs
    have hp := hj.2.2.2.1
    have hk0 : kq X p = 0 := (kq_0 hj).2 (by omega)
    have step : ∀ g, ff_X8_readCommands_v0_c2 N g s t (Int32.ofInt ((2 : Nat) : Int)) (Int32.ofInt (x : Int)) = ff_X8_readCommands_v0_b32 N g s t (Int32.ofInt ((2 : Nat) : Int)) (Int32.ofInt (x : Int)) (oz (decide (kq X p = 3 ∧ fq X p 0 = 41))) := fun g => by
      unfold ff_X8_readCommands_v0_c2
      rw [ii_900, ii_le (by omega) (by omega), if_neg (by omega)]
      rw [if_neg (show ¬ (Int32.ofInt ((2 : Nat) : Int) = 0) by decide)]
      show ((ff_X10_isSign N t (Int32.ofInt 41)).bind _) = _
      rw [(tj_isSign (N := N) hj (v := 41) (by decide)).1, Option.bind_some]
    show rdOk _ _ _ _ _ _ _ _ _ _ _ (ff_X8_readCommands_v0_c2 N _ s t (Int32.ofInt ((2 : Nat) : Int)) (Int32.ofInt (x : Int))) _ _ ∨ rdBad _ _ (ff_X8_readCommands_v0_c2 N _ s t (Int32.ofInt ((2 : Nat) : Int)) (Int32.ofInt (x : Int))) _
    rw [step]
    unfold ff_X8_readCommands_v0_b32
    have ce : ¬ (kq X p = 3 ∧ fq X p 0 = 41) := fun z => by omega
    rw [decide_eq_false ce]
    have eF : ∀ {α : Type} {A B : α}, (if oz false = 0 then A else B) = A := fun {α A B} => if_pos rfl
    rw [eF, cL_no (d := 2) hj (by omega) h40 (by omega) (Or.inr ce)]
    rcases rd_cmd0 (N := N) (M := M) hN hC hN2 ⟨hj, h5, hc30, h38, h39, h40, hqd⟩ True.intro hM with ⟨s1, t1, m1, p1, c1, q1, f1, M1, l, y1, y2, hs1, yp, yf, yM, ec, eq, yl, ya, yq, y6, yE⟩ | ⟨s1, t1, m1, y1, y2, h1, yq⟩
    · exfalso
      have hpp := hs1.1.2.2.2.1
      cases l with
      | nil => exact yE rfl
      | cons a l =>
        have yp : p + 2 * (l.length + 1) ≤ p1 := yp
        omega
    · right
      rw [y1, y2]
      exact ⟨s1, t1, m1, rfl, rfl, h1, yq⟩
  | succ j ih =>
    intro p s t m c q x f M F hj0 hF hs hx hf hM
    obtain ⟨F, rfl⟩ : ∃ M', F = M' + 1 := ⟨F - 1, by omega⟩
    have hs' := hs
    obtain ⟨hj, h5, hc30, h38, h39, h40, hqd⟩ := hs
    have hp := hj.2.2.2.1
    have step : ∀ g, ff_X8_readCommands_v0_c2 N g s t (Int32.ofInt ((2 : Nat) : Int)) (Int32.ofInt (x : Int)) = ff_X8_readCommands_v0_b32 N g s t (Int32.ofInt ((2 : Nat) : Int)) (Int32.ofInt (x : Int)) (oz (decide (kq X p = 3 ∧ fq X p 0 = 41))) := fun g => by
      unfold ff_X8_readCommands_v0_c2
      rw [ii_900, ii_le (by omega) (by omega), if_neg (by omega)]
      rw [if_neg (show ¬ (Int32.ofInt ((2 : Nat) : Int) = 0) by decide)]
      show ((ff_X10_isSign N t (Int32.ofInt 41)).bind _) = _
      rw [(tj_isSign (N := N) hj (v := 41) (by decide)).1, Option.bind_some]
    show rdOk _ _ _ _ _ _ _ _ _ _ _ (ff_X8_readCommands_v0_c2 N _ s t (Int32.ofInt ((2 : Nat) : Int)) (Int32.ofInt (x : Int))) _ _ ∨ rdBad _ _ (ff_X8_readCommands_v0_c2 N _ s t (Int32.ofInt ((2 : Nat) : Int)) (Int32.ofInt (x : Int))) _
    rw [step]
    unfold ff_X8_readCommands_v0_b32
    by_cases ce : kq X p = 3 ∧ fq X p 0 = 41
    · left
      rw [decide_eq_true ce]
      exact ⟨s, t, m, p, c, q, f, M, [], rfl, rfl, hs', Nat.le_refl _, hf, hM, rfl, rfl, True.intro, agr.rf, sq.rf, rfl, ce⟩
    · rw [decide_eq_false ce]
      have eF : ∀ {α : Type} {A B : α}, (if oz false = 0 then A else B) = A := fun {α A B} => if_pos rfl
      rw [eF, cL_no (d := 2) hj (by omega) h40 (by omega) (Or.inr ce)]
      rcases rd_cmd0 (N := N) (M := M) hN hC hN2 hs' (True.intro) hM with ⟨s1, t1, m1, p1, c1, q1, f1, M1, l, y1, y2, hs1, yp, yf, yM, ec, eq, yl, ya, yq, y6, yE⟩ | ⟨s1, t1, m1, y1, y2, h1, yq⟩
      · have hl : 1 ≤ l.length ∨ l = [] := by cases l with
          | nil => exact Or.inr rfl
          | cons a l => exact Or.inl (by show 1 ≤ l.length + 1; omega)
        have hl1 : 1 ≤ l.length := hl.resolve_right yE
        have einc : Int32.ofInt (x : Int) + 1 = Int32.ofInt ((x + 1 : Nat) : Int) := by rw [ii_1, ia_add]; rfl
        have hp1 : p + 2 ≤ p1 := by omega
        have hpp := hs1.1.2.2.2.1
        rw [y1, y2, Option.bind_some, if_pos rfl, if_neg (show ¬ ((1 : Int32) = 0) by decide), einc]
        rcases ih p1 s1 t1 m1 c1 q1 (x + 1) f1 M1 F (by omega) (by omega) hs1 (by omega) yf yM with ⟨s2, t2, m2, p2, c2, q2, f2, M2, l2, z1, z2, hs2, zp, zf, zM, fc, fq2, zl, za, zq, z6, zE⟩ | ⟨s2, t2, m2, z1, z2, h2, zq⟩
        · left
          refine ⟨s2, t2, m2, p2, c2, q2, f2, M2, l ++ l2, z1, z2, hs2, by rw [List.length_append]; omega, zf, zM, by rw [cs_app]; omega, by rw [rsz_app]; omega, ly_app l l2 c q (ly_agr (fun i k b => b.elim) l c q yl (by rw [← ec, ← eq]; exact za.mono (Nat.zero_le _) (Nat.le_refl _) (Nat.zero_le _) (Nat.le_refl _))) (by rw [← ec, ← eq]; exact zl), ya.tr (za.mono (Nat.zero_le _) (by omega) (Nat.zero_le _) (by omega)), yq.tr zq, z6.trans y6, zE⟩
        · right
          exact ⟨s2, t2, m2, z1, z2, h2, yq.tr zq⟩

      · right
        rw [y1, y2]
        exact ⟨s1, t1, m1, rfl, rfl, h1, yq⟩
theorem rd_cmd1 (hN : 1000 < N) (hC : X.2.2.2.2.2 ≤ 900) (hN2 : 2000 < N) (h : sj X s t m p 1 c q) (hA : True) (hM : X.2.2.2.2.2 - p + 1 < M) : rdOk c_0 r_0 l_0 N X s m p 1 c q (ff_X8_readCommand_v1 N s t (Int32.ofInt ((1 : Nat) : Int))) (mL N M m) (fun _ l => l ≠ []) ∨ rdBad N m (ff_X8_readCommand_v1 N s t (Int32.ofInt ((1 : Nat) : Int))) (mL N M m) := by
  obtain ⟨hj, h5, hc30, h38, h39, h40, hqd⟩ := h
  by_cases hw : ∃ k, k < 12 ∧ kq X p = 1 ∧ wl (fq X p) (zq X p) = wcv k
  · obtain ⟨k, hk, hk1, hk2⟩ := hw
    obtain ⟨w1, w2⟩ := pr_word (N := N) (s := s) hN hj hk hk1 hk2
    have cp := (kq_w hj hk1).1
    unfold ff_X8_readCommand_v1
    rw [w1, Option.bind_some, if_pos rfl]
    show rdOk _ _ _ _ _ _ _ _ _ _ _ (if k < 12 then _ else _) _ _ ∨ rdBad _ _ (if k < 12 then _ else _) _
    rw [if_pos hk]
    rcases cmG (N := N) (c := c) (d := 1) hN hj hk1 hk w2 h40 (by omega) (by omega) h39 hc30 with ⟨e30, m1, v1, v2, v3⟩ | ⟨hc, t1, m1, v1, v2, h1, v39, v3⟩
    · right
      subst e30
      have ref := mL_te (M := M) (by omega) hj (by omega) v1 v2 (v3.1 40 (by decide)) (by omega)
      refine ⟨s, ss_I t 10 5, m1, ?_, ref, v2, ke_kt v3⟩
      have b39 : ff_X8_readCommand_v1_b39 N s t (Int32.ofInt ((1 : Nat) : Int)) k = some (0, 0, s, ss_I t 10 5) := by
        unfold ff_X8_readCommand_v1_b39
        rw [h5, ix_out, Option.bind_some, if_pos rfl, fail5, z0]
      by_cases c11 : k = 11
      · rw [if_pos c11, if_pos (show Int32.ofInt ((1 : Nat) : Int) < (2 : Int32) by decide)]; exact b39
      · rw [if_neg c11]; exact b39
    · have ig : ∀ {α : Type} {A B : α}, (if k = 11 then (if Int32.ofInt ((1 : Nat) : Int) < (2 : Int32) then A else B) else A) = A := fun {α A B} => by
        by_cases c11 : k = 11
        · rw [if_pos c11, if_pos (show Int32.ofInt ((1 : Nat) : Int) < (2 : Int32) by decide)]
        · rw [if_neg c11]
      rw [ig]
      have q60 : q < 60 := by omega
      have f38 : os_I m1 38 = Int32.ofInt (q : Int) := by rw [v3.1 38 (by decide)]; exact h38
      have f40 : os_I m1 40 = Int32.ofInt ((1 : Nat) : Int) := by rw [v3.1 40 (by decide)]; exact h40
      have q1 : sq kt jt m m1 := v3.mono (fun i hi => by omega) (fun j hj => hj.elim)
      have f13 : os_A m1 13 = os_A m 13 := v3.2 13 (fun z => z)
      have f14 : os_A m1 14 = os_A m 14 := v3.2 14 (fun z => z)
      have einc : Int32.ofInt (c : Int) + (1 : Int32) = Int32.ofInt ((c + 1 : Nat) : Int) := by rw [ii_1, ia_add]; rfl
      have hin : os_in (Int32.ofInt (c : Int)) 30 := ia_in (by omega) (by omega) (by omega)
      have hna : Int32.toNatClampNeg (Int32.ofInt (c : Int)) = c := by rw [ia_nat (by omega) (by omega), Int.toNat_natCast]
      unfold ff_X8_readCommand_v1_b39
      rw [h5, ix_in hc, Option.bind_some, if_neg (show ¬ ((1 : Int32) = 0) by decide), if_pos hk, if_pos hin, hna, einc, v1, Option.bind_some]
      obtain ⟨M, rfl⟩ : ∃ M', M = M' + 1 := ⟨M - 1, by omega⟩
      rcases sc_numsX (N := N) (s := ss_I (ss_R s 0 (va_up (os_R s 0) c (some k))) 5 (Int32.ofInt ((c + 1 : Nat) : Int))) hN hk q60 hc h1 f38 with ⟨p2, t2, m2, s2, V, u1, u2, h2, hp2, u3, u4, u5, u6, u7, u8⟩ | ⟨t2, m2, s2, u1, u2, h2, u8⟩
      · have g5 : os_I s2 5 = Int32.ofInt ((c + 1 : Nat) : Int) := by rw [u6.1 5 (fun z => z)]; rfl
        have g6 : os_I s2 6 = os_I s 6 := by rw [u6.1 6 (fun z => z)]; rfl
        have gR : os_R s2 0 = va_up (os_R s 0) c (some k) := by
          show s2.2.2.2.2 0 = _
          rw [u7]; rfl
        have g1 : os_A s2 1 = os_A s 1 := by rw [u6.2 1 (by decide)]
        have g38 : os_I m2 38 = Int32.ofInt (q : Int) := by rw [u8.1 38 (by decide)]; exact f38
        have g39 : os_I m2 39 = Int32.ofInt ((c + 1 : Nat) : Int) := by rw [u8.1 39 (by decide)]; exact v39
        have g40 : os_I m2 40 = Int32.ofInt ((1 : Nat) : Int) := by rw [u8.1 40 (by decide)]; exact f40
        have g13 : os_A m2 13 = os_A m 13 := by rw [u8.2 13 (by decide)]; exact f13
        have q2 : sq kt jt m m2 := q1.tr (u8.mono (fun i hi => Or.inl hi) (fun j hj => by omega))
        have ag2 : agr s m s2 m2 0 c 0 q := ⟨fun j _ hj => ⟨by rw [gR, va_ne (by omega)], by rw [g1]⟩, fun j _ hj => u4 j (Or.inl hj), fun j _ hj => by rw [g13], fun j _ hj => by rw [u5 j (Or.inl hj), f14]⟩
        rw [u1, Option.bind_some, if_pos rfl, if_neg (show ¬ ((1 : Int32) = 0) by decide), if_pos hk]
        have b139 : ∀ (sx tx2 : os_T), ff_X8_readCommand_v1_b139 N sx tx2 (Int32.ofInt (c : Int)) = ((ff_X10_takeSign N tx2 (59 : Int32)).bind fun u_37 => (if u_37.1 = 0 then some (0, (0 : Int32), ss_A sx 1 (upd (os_A sx 1) c (os_I sx 5)), u_37.2) else some (0, (1 : Int32), ss_A sx 1 (upd (os_A sx 1) c (os_I sx 5)), u_37.2))) := fun sx tx2 => by
          unfold ff_X8_readCommand_v1_b139 ff_X8_readCommand_v1_b144
          rw [if_pos hin, if_neg (show ¬ ((1 : Int32) = 0) by decide), hna]
        have b143 : ∀ (sx tx2 : os_T), ff_X8_readCommand_v1_b143 N sx tx2 (Int32.ofInt (c : Int)) = some (0, (0 : Int32), ss_A sx 1 (upd (os_A sx 1) c (os_I sx 5)), tx2) := fun sx tx2 => by
          unfold ff_X8_readCommand_v1_b143 ff_X8_readCommand_v1_b144
          rw [if_pos hin, if_pos rfl, hna]
        have ek11 : (Int32.ofInt (k : Int) = (11 : Int32)) = (k = 11) := (ia_eq (b := 11) (by omega) (by omega) (by omega) (by omega)).trans (propext (by omega))
        rw [u2] at v2
        simp only [ek11] at v2
        by_cases c11 : k = 11
        · rw [if_pos c11] at v2 ⊢
          rcases tj_sign (N := N) (v := 40) hN h2 (by decide) with ⟨t3, m3, x1, x2, h3, cp3, q3⟩ | ⟨t3, m3, x1, x2, h3, q3⟩
          · have x1 : ff_X10_takeSign N t2 (40 : Int32) = _ := x1
            have x2 : ff_X13_mustSign N m2 (40 : Int32) = _ := x2
            have g38' : os_I m3 38 = Int32.ofInt (q : Int) := by rw [q3.1 38 (by decide)]; exact g38
            have g40' : os_I m3 40 = Int32.ofInt ((1 : Nat) : Int) := by rw [q3.1 40 (by decide)]; exact g40
            rw [x2, Option.bind_some, cmK h3 hk g38' q60 g40', if_pos c11] at v2
            rw [mL_step hj (by omega) v2, if_neg (by rw [h40]; show ¬ (Int32.ofInt ((1 + 1 : Nat) : Int) = Int32.ofInt ((1 : Nat) : Int)); decide), x1, Option.bind_some, if_neg (show ¬ ((1 : Int32) = 0) by decide), show Int32.ofInt ((1 : Nat) : Int) + (1 : Int32) = Int32.ofInt ((1 + 1 : Nat) : Int) from rfl]
            have h4 : tj X t3 (ss_I (ss_I (ss_A m3 13 (upd (os_A m3 13) q (Int32.ofInt (k : Int)))) 38 (Int32.ofInt ((q + 1 : Nat) : Int))) 40 (Int32.ofInt ((1 + 1 : Nat) : Int))) (p2 + 1) := tj_I (tj_I (tj_A h3 (by decide)) (by decide)) (by decide)
            have q4 : sq kt jt m (ss_I (ss_I (ss_A m3 13 (upd (os_A m3 13) q (Int32.ofInt (k : Int)))) 38 (Int32.ofInt ((q + 1 : Nat) : Int))) 40 (Int32.ofInt ((1 + 1 : Nat) : Int))) := q_st1 (q_st1 (q_st2 (q2.tr (ke_kt q3)) (by decide)) (by decide)) (by decide)
            have hp3 := h4.2.2.2.1
            have g13' : os_A m3 13 = os_A m 13 := by rw [q3.2 13 (fun z => z)]; exact g13
            have g14' : os_A m3 14 = os_A m2 14 := q3.2 14 (fun z => z)
            unfold ff_X8_readCommands_v0 ff_X8_readCommands_v0_l2
            rcases rd_cmds0 (N := N) hN hC hN2 (X.2.2.2.2.2 - (p2 + 1)) (p2 + 1) s2 t3 (ss_I (ss_I (ss_A m3 13 (upd (os_A m3 13) q (Int32.ofInt (k : Int)))) 38 (Int32.ofInt ((q + 1 : Nat) : Int))) 40 (Int32.ofInt ((1 + 1 : Nat) : Int))) (c + 1) (q + 1) 0 N M N (Nat.le_refl _) (by omega) ⟨h4, g5, by omega, rfl, by show os_I m3 39 = _; rw [q3.1 39 (by decide)]; exact g39, rfl, by omega⟩ (by omega) (by omega) (by omega) with ⟨s5, t5, m5, p5, c5, q5, f5, M5, l, y1, y2, ⟨h5', y5, yc, y38, y39, y40, yqd⟩, yp, yf, yM, ec, eq, yl, ya, yq, y6, yE⟩ | ⟨s5, t5, m5, y1, y2, h5', yq⟩
            · obtain ⟨f6, rfl⟩ : ∃ f', f5 = f' + 1 := ⟨f5 - 1, by omega⟩
              obtain ⟨t6, m6, b1, h6, b2, b38, b40, b13, cp6, b3⟩ := cL_close (N := N) (f := f6) (M := M5) (d := 1) hN h5' yE y40 (by omega) y38 (by omega)
              rw [show (0 : Int32) = Int32.ofInt ((0 : Nat) : Int) from rfl, y1, y2]
              simp only [Option.bind_some, if_pos, if_neg (show ¬ ((1 : Int32) = Int32.ofInt ((0 : Nat) : Int)) by decide)]
              rw [b1, Option.bind_some, if_neg (show ¬ ((1 : Int32) = Int32.ofInt ((0 : Nat) : Int)) by decide), b139, b2]
              have c14 : os_A m6 14 = os_A m5 14 := b3.2 14 (by decide)
              have q6 : sq kt jt m m6 := (q4.tr yq).tr (b3.mono (fun i hi => by omega) (fun j hj => by omega))
              rcases tj_sign (N := N) (v := 59) hN h6 (by decide) with ⟨t8, m8, z1, z2, h8, cp8, q8⟩ | ⟨t8, m8, z1, z2, h8, q8⟩
              · have z1 : ff_X10_takeSign N t6 (59 : Int32) = _ := z1
                have z2 : ff_X13_mustSign N m6 (59 : Int32) = _ := z2
                left
                have k13 : os_A m8 13 = upd (os_A m5 13) q5 (Int32.ofInt 12) := by rw [q8.2 13 (fun z => z)]; exact b13
                have k14 : os_A m8 14 = os_A m5 14 := by rw [q8.2 14 (fun z => z)]; exact c14
                have nmk : nm k = 1 := by rw [c11]; rfl
                have lwk : lw k = 1 ∧ hw k 0 = 20 := by rw [c11]; exact ⟨rfl, rfl⟩
                have u30 := u3 0 (by omega)
                rw [lwk.1, lwk.2] at u30
                refine ⟨ss_A s5 1 (upd (os_A s5 1) c (os_I s5 5)), t8, m8, p5 + 1 + 1, c5, q5 + 1, f6, M5, [some ((V 0).toNat, l)], ?_, ?_, ⟨h8, y5, yc, by rw [q8.1 38 (by decide)]; exact b38, by rw [q8.1 39 (by decide), b3.1 39 (by decide)]; exact y39, by rw [q8.1 40 (by decide)]; exact b40, by omega⟩, by show p + 2 * 1 ≤ p5 + 1 + 1; omega, by omega, by omega, by rw [ec]; show c + 1 + c_0 l = c + (1 + c_0 l + 0); omega, by rw [eq]; show q + 1 + r_0 l + 1 = q + (r_0 l + 2 + 0); omega, ⟨⟨?_, ?_, by show 1 ≤ (V 0).toNat; omega, by show (V 0).toNat ≤ 20; omega, ?_, ?_, ?_⟩, ?_, ?_, True.intro⟩, ?_, q6.tr (ke_kt q8), by show os_I s5 6 = _; rw [y6]; exact g6, List.cons_ne_nil _ _⟩
                · rw [z1, Option.bind_some]; rfl
                · rw [z2, Option.bind_some]
                · show os_R s5 0 c = _
                  rw [(ya.1 c (Nat.zero_le _) (by omega)).1, gR, va_eq, c11]
                · rw [k13, up_ne (by omega), ya.2.2.1 q (Nat.zero_le _) (by omega)]
                  show upd (os_A m3 13) q _ q = _
                  rw [up_eq, c11]; rfl
                · show os_A s5 0 (5 * c) = _
                  rw [ya.2.1 _ (Nat.zero_le _) (by omega)]
                  show os_A s2 0 (5 * c) = Int32.ofInt (((V 0).toNat : Nat) : Int)
                  rw [Int.toNat_of_nonneg (by omega)]
                  exact u30.2.1
                · rw [k14, ya.2.2.2 _ (Nat.zero_le _) (by omega)]
                  show os_A m3 14 (5 * q) = Int32.ofInt (((V 0).toNat : Nat) : Int)
                  rw [Int.toNat_of_nonneg (by omega), g14']
                  exact u30.2.2
                · show upd (os_A s5 1) c (os_I s5 5) c = Int32.ofInt ((c + 1 + c_0 l : Nat) : Int)
                  rw [up_eq, y5, ec]
                · refine l0_agr l (c + 1) (q + 1) yl ⟨fun j j1 j2 => ⟨rfl, up_ne (by omega)⟩, fun j _ _ => rfl, fun j j1 j2 => ?_, fun j _ _ => by rw [k14]⟩
                  have eq2 : q5 = q + 1 + r_0 l := eq
                  have j3 : j < q + 1 + r_0 l := j2
                  rw [k13, up_ne (by omega)]
                · show os_A m8 13 (q + 1 + r_0 l) = _
                  rw [k13, ← eq, up_eq]
                · refine (ag2.tr (s' := s2) (m' := m2) (s2 := s5) (m2 := m5) ?_).tr ⟨fun j _ hj => ⟨rfl, up_ne (by omega)⟩, fun j _ _ => rfl, fun j _ hj => by rw [k13, up_ne (by omega)], fun j _ hj => by rw [k14]⟩
                  refine ⟨fun j _ hj => ya.1 j (Nat.zero_le _) (by omega), fun j _ hj => ya.2.1 j (Nat.zero_le _) (by omega), fun j _ hj => ?_, fun j _ hj => ?_⟩
                  · rw [ya.2.2.1 j (Nat.zero_le _) (by omega)]
                    show upd (os_A m3 13) q _ j = _
                    rw [up_ne (by omega), g13', g13]
                  · rw [ya.2.2.2 j (Nat.zero_le _) (by omega)]
                    show os_A m3 14 j = _
                    rw [g14']
              · have z1 : ff_X10_takeSign N t6 (59 : Int32) = _ := z1
                have z2 : ff_X13_mustSign N m6 (59 : Int32) = _ := z2
                right
                refine ⟨ss_A s5 1 (upd (os_A s5 1) c (os_I s5 5)), t8, m8, ?_, ?_, h8, q6.tr (ke_kt q8)⟩
                · rw [z1, Option.bind_some]; rfl
                · rw [z2, Option.bind_some]
                  exact te_cL h8 (by omega) (by omega)
            · right
              rw [show (0 : Int32) = Int32.ofInt ((0 : Nat) : Int) from rfl, y1, y2]
              refine ⟨ss_A s5 1 (upd (os_A s5 1) c (os_I s5 5)), t5, m5, ?_, rfl, h5', q4.tr yq⟩
              simp only [Option.bind_some, if_pos]
              exact b143 s5 t5
          · have x1 : ff_X10_takeSign N t2 (40 : Int32) = _ := x1
            have x2 : ff_X13_mustSign N m2 (40 : Int32) = _ := x2
            right
            have e143 : ff_X13_command_b143 N m3 (Int32.ofInt (k : Int)) = some m3 := by
              unfold ff_X13_command_b143
              rw [te_good h3, Option.bind_some, if_pos rfl]
            rw [x2, Option.bind_some, e143] at v2
            have ref := mL_te (M := M + 1) (by omega) hj (by omega) v2 h3 (by rw [q3.1 40 (by decide), u8.1 40 (by decide), v3.1 40 (by decide)]) (by omega)
            refine ⟨ss_A s2 1 (upd (os_A s2 1) c (os_I s2 5)), t3, m3, ?_, ref, h3, q2.tr (ke_kt q3)⟩
            rw [x1, Option.bind_some, if_pos rfl, b143]
        · rw [if_neg c11] at v2 ⊢
          rw [cmK h2 hk g38 q60 g40, if_neg c11] at v2
          rw [b139]
          have h3 : tj X t2 (ss_I (ss_I (ss_A m2 13 (upd (os_A m2 13) q (Int32.ofInt (k : Int)))) 38 (Int32.ofInt ((q + 1 : Nat) : Int))) 40 (Int32.ofInt ((1 + 0 : Nat) : Int))) p2 := tj_I (tj_I (tj_A h2 (by decide)) (by decide)) (by decide)
          have q3 : sq kt jt m (ss_I (ss_I (ss_A m2 13 (upd (os_A m2 13) q (Int32.ofInt (k : Int)))) 38 (Int32.ofInt ((q + 1 : Nat) : Int))) 40 (Int32.ofInt ((1 + 0 : Nat) : Int))) := q_st1 (q_st1 (q_st2 q2 (by decide)) (by decide)) (by decide)
          rw [mL_step hj (by omega) v2, if_pos (by rw [h40]; rfl)]
          rcases tj_sign (N := N) (v := 59) hN h3 (by decide) with ⟨t4, m4, x1, x2, h4, cp4, q4⟩ | ⟨t4, m4, x1, x2, h4, q4⟩
          · have x1 : ff_X10_takeSign N t2 (59 : Int32) = _ := x1
            have x2 : ff_X13_mustSign N _ (59 : Int32) = _ := x2
            have k13 : os_A m4 13 = upd (os_A m 13) q (Int32.ofInt (k : Int)) := by rw [q4.2 13 (fun z => z), ← g13]; rfl
            have k14 : os_A m4 14 = os_A m2 14 := q4.2 14 (fun z => z)
            left
            refine ⟨ss_A s2 1 (upd (os_A s2 1) c (os_I s2 5)), t4, m4, p2 + 1, c + 1, q + 1, N, M, [none], ?_, ?_, ⟨h4, g5, by omega, by rw [q4.1 38 (by decide)]; rfl, by rw [q4.1 39 (by decide)]; exact g39, by rw [q4.1 40 (by decide)]; rfl, by omega⟩, by show p + 2 * 1 ≤ p2 + 1; omega, by omega, by omega, rfl, rfl, ⟨?_, True.intro⟩, ?_, q3.tr (ke_kt q4), g6, List.cons_ne_nil _ _⟩
            · rw [x1, Option.bind_some, if_neg (show ¬ ((1 : Int32) = 0) by decide)]
            · rw [x2, Option.bind_some]
            · refine ⟨k, V, by omega, by show os_R s2 0 c = _; rw [gR, va_eq], by rw [k13, up_eq], fun a ha => ?_, ?_⟩
              · have z := u3 a ha
                have z1 : 0 ≤ lw k := by unfold lw; split <;> omega
                rw [k14]
                exact ⟨⟨by omega, z.1.2⟩, z.2⟩
              · show upd (os_A s2 1) c (os_I s2 5) c = _
                rw [up_eq, g5]
            · exact ag2.tr ⟨fun j _ hj => ⟨rfl, up_ne (by omega)⟩, fun j _ hj => rfl, fun j _ hj => by rw [k13, g13, up_ne (by omega)], fun j _ hj => by rw [k14]⟩
          · have x1 : ff_X10_takeSign N t2 (59 : Int32) = _ := x1
            have x2 : ff_X13_mustSign N _ (59 : Int32) = _ := x2
            right
            refine ⟨ss_A s2 1 (upd (os_A s2 1) c (os_I s2 5)), t4, m4, ?_, ?_, h4, q3.tr (ke_kt q4)⟩
            · rw [x1, Option.bind_some, if_pos rfl]
            · rw [x2, Option.bind_some]
              exact te_cL h4 (by omega) (by omega)
      · right
        rw [u2] at v2
        have ref := mL_te (M := M + 1) (by omega) hj (by omega) v2 h2 (by rw [u8.1 40 (by decide), v3.1 40 (by decide)]) (by omega)
        refine ⟨s2, t2, m2, ?_, ref, h2, q1.tr (u8.mono (fun i hi => Or.inl hi) (fun j hj => by omega))⟩
        rw [u1, Option.bind_some, if_pos rfl, if_pos rfl]
  · right
    obtain ⟨w1, w2⟩ := pr_none (N := N) (s := s) hN hj (fun k hk z => hw ⟨k, hk, z⟩)
    unfold ff_X8_readCommand_v1
    have cls : ∀ g : Nat → Option (Nat × Int32 × os_T × os_T), os_opt (none : Option Nat) ((ff_X10_fail N t (1 : Int32)).bind fun u_5 => (if os_z u_5.1 then some (0, u_5.1, s, u_5.2) else none)) g = some (0, 0, s, ss_I t 10 1) := fun g => by
      rfl
    rw [w1, Option.bind_some, if_pos rfl, cls]
    by_cases k0 : kq X p = 0
    · obtain ⟨m1, v1, v2, v3⟩ := mL_end (N := N) (M := M) hj k0 h40 (by omega) (by omega) (by omega)
      exact ⟨s, ss_I t 10 1, m1, rfl, v1, v2, ke_kt v3⟩
    · obtain ⟨m1, v1, v2, v3⟩ := cmN (N := N) hj w2
      exact ⟨s, ss_I t 10 1, m1, rfl, mL_te (by omega) hj k0 v1 v2 (v3.1 40 (by decide)) (by omega), v2, ke_kt v3⟩
theorem rd_cmds1 (hN : 1000 < N) (hC : X.2.2.2.2.2 ≤ 900) (hN2 : 2000 < N) : ∀ (j p : Nat) (s t m : os_T) (c q x f M F : Nat), X.2.2.2.2.2 - p ≤ j → j < F → sj X s t m p 1 c q → 2 * x ≤ p → 1 < f → X.2.2.2.2.2 - p + 1 < M → rdOk c_0 r_0 l_0 N X s m p 1 c q (os_loop (fun k2 s1 => ff_X8_readCommands_v1_c2 N k2 s1.1 s1.2.1 s1.2.2.1 s1.2.2.2) F (s, t, Int32.ofInt ((1 : Nat) : Int), Int32.ofInt (x : Int))) (cL N f M m) (fun p' _ => kq X p' = 3 ∧ fq X p' 0 = 41) ∨ rdBad N m (os_loop (fun k2 s1 => ff_X8_readCommands_v1_c2 N k2 s1.1 s1.2.1 s1.2.2.1 s1.2.2.2) F (s, t, Int32.ofInt ((1 : Nat) : Int), Int32.ofInt (x : Int))) (cL N f M m) := by
  intro j
  induction j with
  | zero =>
    intro p s t m c q x f M F hj0 hF hs hx hf hM
    obtain ⟨F, rfl⟩ : ∃ M', F = M' + 1 := ⟨F - 1, by omega⟩
    obtain ⟨hj, h5, hc30, h38, h39, h40, hqd⟩ := hs
    have hp := hj.2.2.2.1
    have hk0 : kq X p = 0 := (kq_0 hj).2 (by omega)
    have step : ∀ g, ff_X8_readCommands_v1_c2 N g s t (Int32.ofInt ((1 : Nat) : Int)) (Int32.ofInt (x : Int)) = ff_X8_readCommands_v1_b32 N g s t (Int32.ofInt ((1 : Nat) : Int)) (Int32.ofInt (x : Int)) (oz (decide (kq X p = 3 ∧ fq X p 0 = 41))) := fun g => by
      unfold ff_X8_readCommands_v1_c2
      rw [ii_900, ii_le (by omega) (by omega), if_neg (by omega)]
      rw [if_neg (show ¬ (Int32.ofInt ((1 : Nat) : Int) = 0) by decide)]
      show ((ff_X10_isSign N t (Int32.ofInt 41)).bind _) = _
      rw [(tj_isSign (N := N) hj (v := 41) (by decide)).1, Option.bind_some]
    show rdOk _ _ _ _ _ _ _ _ _ _ _ (ff_X8_readCommands_v1_c2 N _ s t (Int32.ofInt ((1 : Nat) : Int)) (Int32.ofInt (x : Int))) _ _ ∨ rdBad _ _ (ff_X8_readCommands_v1_c2 N _ s t (Int32.ofInt ((1 : Nat) : Int)) (Int32.ofInt (x : Int))) _
    rw [step]
    unfold ff_X8_readCommands_v1_b32
    have ce : ¬ (kq X p = 3 ∧ fq X p 0 = 41) := fun z => by omega
    rw [decide_eq_false ce]
    have eF : ∀ {α : Type} {A B : α}, (if oz false = 0 then A else B) = A := fun {α A B} => if_pos rfl
    rw [eF, cL_no (d := 1) hj (by omega) h40 (by omega) (Or.inr ce)]
    rcases rd_cmd1 (N := N) (M := M) hN hC hN2 ⟨hj, h5, hc30, h38, h39, h40, hqd⟩ True.intro hM with ⟨s1, t1, m1, p1, c1, q1, f1, M1, l, y1, y2, hs1, yp, yf, yM, ec, eq, yl, ya, yq, y6, yE⟩ | ⟨s1, t1, m1, y1, y2, h1, yq⟩
    · exfalso
      have hpp := hs1.1.2.2.2.1
      cases l with
      | nil => exact yE rfl
      | cons a l =>
        have yp : p + 2 * (l.length + 1) ≤ p1 := yp
        omega
    · right
      rw [y1, y2]
      exact ⟨s1, t1, m1, rfl, rfl, h1, yq⟩
  | succ j ih =>
    intro p s t m c q x f M F hj0 hF hs hx hf hM
    obtain ⟨F, rfl⟩ : ∃ M', F = M' + 1 := ⟨F - 1, by omega⟩
    have hs' := hs
    obtain ⟨hj, h5, hc30, h38, h39, h40, hqd⟩ := hs
    have hp := hj.2.2.2.1
    have step : ∀ g, ff_X8_readCommands_v1_c2 N g s t (Int32.ofInt ((1 : Nat) : Int)) (Int32.ofInt (x : Int)) = ff_X8_readCommands_v1_b32 N g s t (Int32.ofInt ((1 : Nat) : Int)) (Int32.ofInt (x : Int)) (oz (decide (kq X p = 3 ∧ fq X p 0 = 41))) := fun g => by
      unfold ff_X8_readCommands_v1_c2
      rw [ii_900, ii_le (by omega) (by omega), if_neg (by omega)]
      rw [if_neg (show ¬ (Int32.ofInt ((1 : Nat) : Int) = 0) by decide)]
      show ((ff_X10_isSign N t (Int32.ofInt 41)).bind _) = _
      rw [(tj_isSign (N := N) hj (v := 41) (by decide)).1, Option.bind_some]
    show rdOk _ _ _ _ _ _ _ _ _ _ _ (ff_X8_readCommands_v1_c2 N _ s t (Int32.ofInt ((1 : Nat) : Int)) (Int32.ofInt (x : Int))) _ _ ∨ rdBad _ _ (ff_X8_readCommands_v1_c2 N _ s t (Int32.ofInt ((1 : Nat) : Int)) (Int32.ofInt (x : Int))) _
    rw [step]
    unfold ff_X8_readCommands_v1_b32
    by_cases ce : kq X p = 3 ∧ fq X p 0 = 41
    · left
      rw [decide_eq_true ce]
      exact ⟨s, t, m, p, c, q, f, M, [], rfl, rfl, hs', Nat.le_refl _, hf, hM, rfl, rfl, True.intro, agr.rf, sq.rf, rfl, ce⟩
    · rw [decide_eq_false ce]
      have eF : ∀ {α : Type} {A B : α}, (if oz false = 0 then A else B) = A := fun {α A B} => if_pos rfl
      rw [eF, cL_no (d := 1) hj (by omega) h40 (by omega) (Or.inr ce)]
      rcases rd_cmd1 (N := N) (M := M) hN hC hN2 hs' (True.intro) hM with ⟨s1, t1, m1, p1, c1, q1, f1, M1, l, y1, y2, hs1, yp, yf, yM, ec, eq, yl, ya, yq, y6, yE⟩ | ⟨s1, t1, m1, y1, y2, h1, yq⟩
      · have hl : 1 ≤ l.length ∨ l = [] := by cases l with
          | nil => exact Or.inr rfl
          | cons a l => exact Or.inl (by show 1 ≤ l.length + 1; omega)
        have hl1 : 1 ≤ l.length := hl.resolve_right yE
        have einc : Int32.ofInt (x : Int) + 1 = Int32.ofInt ((x + 1 : Nat) : Int) := by rw [ii_1, ia_add]; rfl
        have hp1 : p + 2 ≤ p1 := by omega
        have hpp := hs1.1.2.2.2.1
        rw [y1, y2, Option.bind_some, if_pos rfl, if_neg (show ¬ ((1 : Int32) = 0) by decide), einc]
        rcases ih p1 s1 t1 m1 c1 q1 (x + 1) f1 M1 F (by omega) (by omega) hs1 (by omega) yf yM with ⟨s2, t2, m2, p2, c2, q2, f2, M2, l2, z1, z2, hs2, zp, zf, zM, fc, fq2, zl, za, zq, z6, zE⟩ | ⟨s2, t2, m2, z1, z2, h2, zq⟩
        · left
          refine ⟨s2, t2, m2, p2, c2, q2, f2, M2, l ++ l2, z1, z2, hs2, by rw [List.length_append]; omega, zf, zM, by rw [cs_app]; omega, by rw [rsz_app]; omega, ly_app l l2 c q (ly_agr (fun i k b h ha => l0_agr b i k h ha) l c q yl (by rw [← ec, ← eq]; exact za.mono (Nat.zero_le _) (Nat.le_refl _) (Nat.zero_le _) (Nat.le_refl _))) (by rw [← ec, ← eq]; exact zl), ya.tr (za.mono (Nat.zero_le _) (by omega) (Nat.zero_le _) (by omega)), yq.tr zq, z6.trans y6, zE⟩
        · right
          exact ⟨s2, t2, m2, z1, z2, h2, yq.tr zq⟩

      · right
        rw [y1, y2]
        exact ⟨s1, t1, m1, rfl, rfl, h1, yq⟩
theorem rd_cmd2 (hN : 1000 < N) (hC : X.2.2.2.2.2 ≤ 900) (hN2 : 2000 < N) (h : sj X s t m p 0 c q) (hA : kq X p ≠ 0) (hM : X.2.2.2.2.2 - p + 1 < M) : rdOk c_1 r_1 l_1 N X s m p 0 c q (ff_X8_readCommand_v2 N s t (Int32.ofInt ((0 : Nat) : Int))) (mL N M m) (fun _ l => l ≠ []) ∨ rdBad N m (ff_X8_readCommand_v2 N s t (Int32.ofInt ((0 : Nat) : Int))) (mL N M m) := by
  obtain ⟨hj, h5, hc30, h38, h39, h40, hqd⟩ := h
  by_cases hw : ∃ k, k < 12 ∧ kq X p = 1 ∧ wl (fq X p) (zq X p) = wcv k
  · obtain ⟨k, hk, hk1, hk2⟩ := hw
    obtain ⟨w1, w2⟩ := pr_word (N := N) (s := s) hN hj hk hk1 hk2
    have cp := (kq_w hj hk1).1
    unfold ff_X8_readCommand_v2
    rw [w1, Option.bind_some, if_pos rfl]
    show rdOk _ _ _ _ _ _ _ _ _ _ _ (if k < 12 then _ else _) _ _ ∨ rdBad _ _ (if k < 12 then _ else _) _
    rw [if_pos hk]
    rcases cmG (N := N) (c := c) (d := 0) hN hj hk1 hk w2 h40 (by omega) (by omega) h39 hc30 with ⟨e30, m1, v1, v2, v3⟩ | ⟨hc, t1, m1, v1, v2, h1, v39, v3⟩
    · right
      subst e30
      have ref := mL_te (M := M) (by omega) hj (by omega) v1 v2 (v3.1 40 (by decide)) (by omega)
      refine ⟨s, ss_I t 10 5, m1, ?_, ref, v2, ke_kt v3⟩
      have b39 : ff_X8_readCommand_v2_b39 N s t (Int32.ofInt ((0 : Nat) : Int)) k = some (0, 0, s, ss_I t 10 5) := by
        unfold ff_X8_readCommand_v2_b39
        rw [h5, ix_out, Option.bind_some, if_pos rfl, fail5, z0]
      by_cases c11 : k = 11
      · rw [if_pos c11, if_pos (show Int32.ofInt ((0 : Nat) : Int) < (2 : Int32) by decide)]; exact b39
      · rw [if_neg c11]; exact b39
    · have ig : ∀ {α : Type} {A B : α}, (if k = 11 then (if Int32.ofInt ((0 : Nat) : Int) < (2 : Int32) then A else B) else A) = A := fun {α A B} => by
        by_cases c11 : k = 11
        · rw [if_pos c11, if_pos (show Int32.ofInt ((0 : Nat) : Int) < (2 : Int32) by decide)]
        · rw [if_neg c11]
      rw [ig]
      have q60 : q < 60 := by omega
      have f38 : os_I m1 38 = Int32.ofInt (q : Int) := by rw [v3.1 38 (by decide)]; exact h38
      have f40 : os_I m1 40 = Int32.ofInt ((0 : Nat) : Int) := by rw [v3.1 40 (by decide)]; exact h40
      have q1 : sq kt jt m m1 := v3.mono (fun i hi => by omega) (fun j hj => hj.elim)
      have f13 : os_A m1 13 = os_A m 13 := v3.2 13 (fun z => z)
      have f14 : os_A m1 14 = os_A m 14 := v3.2 14 (fun z => z)
      have einc : Int32.ofInt (c : Int) + (1 : Int32) = Int32.ofInt ((c + 1 : Nat) : Int) := by rw [ii_1, ia_add]; rfl
      have hin : os_in (Int32.ofInt (c : Int)) 30 := ia_in (by omega) (by omega) (by omega)
      have hna : Int32.toNatClampNeg (Int32.ofInt (c : Int)) = c := by rw [ia_nat (by omega) (by omega), Int.toNat_natCast]
      unfold ff_X8_readCommand_v2_b39
      rw [h5, ix_in hc, Option.bind_some, if_neg (show ¬ ((1 : Int32) = 0) by decide), if_pos hk, if_pos hin, hna, einc, v1, Option.bind_some]
      obtain ⟨M, rfl⟩ : ∃ M', M = M' + 1 := ⟨M - 1, by omega⟩
      rcases sc_numsX (N := N) (s := ss_I (ss_R s 0 (va_up (os_R s 0) c (some k))) 5 (Int32.ofInt ((c + 1 : Nat) : Int))) hN hk q60 hc h1 f38 with ⟨p2, t2, m2, s2, V, u1, u2, h2, hp2, u3, u4, u5, u6, u7, u8⟩ | ⟨t2, m2, s2, u1, u2, h2, u8⟩
      · have g5 : os_I s2 5 = Int32.ofInt ((c + 1 : Nat) : Int) := by rw [u6.1 5 (fun z => z)]; rfl
        have g6 : os_I s2 6 = os_I s 6 := by rw [u6.1 6 (fun z => z)]; rfl
        have gR : os_R s2 0 = va_up (os_R s 0) c (some k) := by
          show s2.2.2.2.2 0 = _
          rw [u7]; rfl
        have g1 : os_A s2 1 = os_A s 1 := by rw [u6.2 1 (by decide)]
        have g38 : os_I m2 38 = Int32.ofInt (q : Int) := by rw [u8.1 38 (by decide)]; exact f38
        have g39 : os_I m2 39 = Int32.ofInt ((c + 1 : Nat) : Int) := by rw [u8.1 39 (by decide)]; exact v39
        have g40 : os_I m2 40 = Int32.ofInt ((0 : Nat) : Int) := by rw [u8.1 40 (by decide)]; exact f40
        have g13 : os_A m2 13 = os_A m 13 := by rw [u8.2 13 (by decide)]; exact f13
        have q2 : sq kt jt m m2 := q1.tr (u8.mono (fun i hi => Or.inl hi) (fun j hj => by omega))
        have ag2 : agr s m s2 m2 0 c 0 q := ⟨fun j _ hj => ⟨by rw [gR, va_ne (by omega)], by rw [g1]⟩, fun j _ hj => u4 j (Or.inl hj), fun j _ hj => by rw [g13], fun j _ hj => by rw [u5 j (Or.inl hj), f14]⟩
        rw [u1, Option.bind_some, if_pos rfl, if_neg (show ¬ ((1 : Int32) = 0) by decide), if_pos hk]
        have b139 : ∀ (sx tx2 : os_T), ff_X8_readCommand_v2_b139 N sx tx2 (Int32.ofInt (c : Int)) = ((ff_X10_takeSign N tx2 (59 : Int32)).bind fun u_37 => (if u_37.1 = 0 then some (0, (0 : Int32), ss_A sx 1 (upd (os_A sx 1) c (os_I sx 5)), u_37.2) else some (0, (1 : Int32), ss_A sx 1 (upd (os_A sx 1) c (os_I sx 5)), u_37.2))) := fun sx tx2 => by
          unfold ff_X8_readCommand_v2_b139 ff_X8_readCommand_v2_b144
          rw [if_pos hin, if_neg (show ¬ ((1 : Int32) = 0) by decide), hna]
        have b143 : ∀ (sx tx2 : os_T), ff_X8_readCommand_v2_b143 N sx tx2 (Int32.ofInt (c : Int)) = some (0, (0 : Int32), ss_A sx 1 (upd (os_A sx 1) c (os_I sx 5)), tx2) := fun sx tx2 => by
          unfold ff_X8_readCommand_v2_b143 ff_X8_readCommand_v2_b144
          rw [if_pos hin, if_pos rfl, hna]
        have ek11 : (Int32.ofInt (k : Int) = (11 : Int32)) = (k = 11) := (ia_eq (b := 11) (by omega) (by omega) (by omega) (by omega)).trans (propext (by omega))
        rw [u2] at v2
        simp only [ek11] at v2
        by_cases c11 : k = 11
        · rw [if_pos c11] at v2 ⊢
          rcases tj_sign (N := N) (v := 40) hN h2 (by decide) with ⟨t3, m3, x1, x2, h3, cp3, q3⟩ | ⟨t3, m3, x1, x2, h3, q3⟩
          · have x1 : ff_X10_takeSign N t2 (40 : Int32) = _ := x1
            have x2 : ff_X13_mustSign N m2 (40 : Int32) = _ := x2
            have g38' : os_I m3 38 = Int32.ofInt (q : Int) := by rw [q3.1 38 (by decide)]; exact g38
            have g40' : os_I m3 40 = Int32.ofInt ((0 : Nat) : Int) := by rw [q3.1 40 (by decide)]; exact g40
            rw [x2, Option.bind_some, cmK h3 hk g38' q60 g40', if_pos c11] at v2
            rw [mL_step hj (by omega) v2, if_neg (by rw [h40]; show ¬ (Int32.ofInt ((0 + 1 : Nat) : Int) = Int32.ofInt ((0 : Nat) : Int)); decide), x1, Option.bind_some, if_neg (show ¬ ((1 : Int32) = 0) by decide), show Int32.ofInt ((0 : Nat) : Int) + (1 : Int32) = Int32.ofInt ((0 + 1 : Nat) : Int) from rfl]
            have h4 : tj X t3 (ss_I (ss_I (ss_A m3 13 (upd (os_A m3 13) q (Int32.ofInt (k : Int)))) 38 (Int32.ofInt ((q + 1 : Nat) : Int))) 40 (Int32.ofInt ((0 + 1 : Nat) : Int))) (p2 + 1) := tj_I (tj_I (tj_A h3 (by decide)) (by decide)) (by decide)
            have q4 : sq kt jt m (ss_I (ss_I (ss_A m3 13 (upd (os_A m3 13) q (Int32.ofInt (k : Int)))) 38 (Int32.ofInt ((q + 1 : Nat) : Int))) 40 (Int32.ofInt ((0 + 1 : Nat) : Int))) := q_st1 (q_st1 (q_st2 (q2.tr (ke_kt q3)) (by decide)) (by decide)) (by decide)
            have hp3 := h4.2.2.2.1
            have g13' : os_A m3 13 = os_A m 13 := by rw [q3.2 13 (fun z => z)]; exact g13
            have g14' : os_A m3 14 = os_A m2 14 := q3.2 14 (fun z => z)
            unfold ff_X8_readCommands_v1 ff_X8_readCommands_v1_l2
            rcases rd_cmds1 (N := N) hN hC hN2 (X.2.2.2.2.2 - (p2 + 1)) (p2 + 1) s2 t3 (ss_I (ss_I (ss_A m3 13 (upd (os_A m3 13) q (Int32.ofInt (k : Int)))) 38 (Int32.ofInt ((q + 1 : Nat) : Int))) 40 (Int32.ofInt ((0 + 1 : Nat) : Int))) (c + 1) (q + 1) 0 N M N (Nat.le_refl _) (by omega) ⟨h4, g5, by omega, rfl, by show os_I m3 39 = _; rw [q3.1 39 (by decide)]; exact g39, rfl, by omega⟩ (by omega) (by omega) (by omega) with ⟨s5, t5, m5, p5, c5, q5, f5, M5, l, y1, y2, ⟨h5', y5, yc, y38, y39, y40, yqd⟩, yp, yf, yM, ec, eq, yl, ya, yq, y6, yE⟩ | ⟨s5, t5, m5, y1, y2, h5', yq⟩
            · obtain ⟨f6, rfl⟩ : ∃ f', f5 = f' + 1 := ⟨f5 - 1, by omega⟩
              obtain ⟨t6, m6, b1, h6, b2, b38, b40, b13, cp6, b3⟩ := cL_close (N := N) (f := f6) (M := M5) (d := 0) hN h5' yE y40 (by omega) y38 (by omega)
              rw [show (0 : Int32) = Int32.ofInt ((0 : Nat) : Int) from rfl, y1, y2]
              simp only [Option.bind_some, if_pos, if_neg (show ¬ ((1 : Int32) = Int32.ofInt ((0 : Nat) : Int)) by decide)]
              rw [b1, Option.bind_some, if_neg (show ¬ ((1 : Int32) = Int32.ofInt ((0 : Nat) : Int)) by decide), b139, b2]
              have c14 : os_A m6 14 = os_A m5 14 := b3.2 14 (by decide)
              have q6 : sq kt jt m m6 := (q4.tr yq).tr (b3.mono (fun i hi => by omega) (fun j hj => by omega))
              rcases tj_sign (N := N) (v := 59) hN h6 (by decide) with ⟨t8, m8, z1, z2, h8, cp8, q8⟩ | ⟨t8, m8, z1, z2, h8, q8⟩
              · have z1 : ff_X10_takeSign N t6 (59 : Int32) = _ := z1
                have z2 : ff_X13_mustSign N m6 (59 : Int32) = _ := z2
                left
                have k13 : os_A m8 13 = upd (os_A m5 13) q5 (Int32.ofInt 12) := by rw [q8.2 13 (fun z => z)]; exact b13
                have k14 : os_A m8 14 = os_A m5 14 := by rw [q8.2 14 (fun z => z)]; exact c14
                have nmk : nm k = 1 := by rw [c11]; rfl
                have lwk : lw k = 1 ∧ hw k 0 = 20 := by rw [c11]; exact ⟨rfl, rfl⟩
                have u30 := u3 0 (by omega)
                rw [lwk.1, lwk.2] at u30
                refine ⟨ss_A s5 1 (upd (os_A s5 1) c (os_I s5 5)), t8, m8, p5 + 1 + 1, c5, q5 + 1, f6, M5, [some ((V 0).toNat, l)], ?_, ?_, ⟨h8, y5, yc, by rw [q8.1 38 (by decide)]; exact b38, by rw [q8.1 39 (by decide), b3.1 39 (by decide)]; exact y39, by rw [q8.1 40 (by decide)]; exact b40, by omega⟩, by show p + 2 * 1 ≤ p5 + 1 + 1; omega, by omega, by omega, by rw [ec]; show c + 1 + c_1 l = c + (1 + c_1 l + 0); omega, by rw [eq]; show q + 1 + r_1 l + 1 = q + (r_1 l + 2 + 0); omega, ⟨⟨?_, ?_, by show 1 ≤ (V 0).toNat; omega, by show (V 0).toNat ≤ 20; omega, ?_, ?_, ?_⟩, ?_, ?_, True.intro⟩, ?_, q6.tr (ke_kt q8), by show os_I s5 6 = _; rw [y6]; exact g6, List.cons_ne_nil _ _⟩
                · rw [z1, Option.bind_some]; rfl
                · rw [z2, Option.bind_some]
                · show os_R s5 0 c = _
                  rw [(ya.1 c (Nat.zero_le _) (by omega)).1, gR, va_eq, c11]
                · rw [k13, up_ne (by omega), ya.2.2.1 q (Nat.zero_le _) (by omega)]
                  show upd (os_A m3 13) q _ q = _
                  rw [up_eq, c11]; rfl
                · show os_A s5 0 (5 * c) = _
                  rw [ya.2.1 _ (Nat.zero_le _) (by omega)]
                  show os_A s2 0 (5 * c) = Int32.ofInt (((V 0).toNat : Nat) : Int)
                  rw [Int.toNat_of_nonneg (by omega)]
                  exact u30.2.1
                · rw [k14, ya.2.2.2 _ (Nat.zero_le _) (by omega)]
                  show os_A m3 14 (5 * q) = Int32.ofInt (((V 0).toNat : Nat) : Int)
                  rw [Int.toNat_of_nonneg (by omega), g14']
                  exact u30.2.2
                · show upd (os_A s5 1) c (os_I s5 5) c = Int32.ofInt ((c + 1 + c_1 l : Nat) : Int)
                  rw [up_eq, y5, ec]
                · refine l1_agr l (c + 1) (q + 1) yl ⟨fun j j1 j2 => ⟨rfl, up_ne (by omega)⟩, fun j _ _ => rfl, fun j j1 j2 => ?_, fun j _ _ => by rw [k14]⟩
                  have eq2 : q5 = q + 1 + r_1 l := eq
                  have j3 : j < q + 1 + r_1 l := j2
                  rw [k13, up_ne (by omega)]
                · show os_A m8 13 (q + 1 + r_1 l) = _
                  rw [k13, ← eq, up_eq]
                · refine (ag2.tr (s' := s2) (m' := m2) (s2 := s5) (m2 := m5) ?_).tr ⟨fun j _ hj => ⟨rfl, up_ne (by omega)⟩, fun j _ _ => rfl, fun j _ hj => by rw [k13, up_ne (by omega)], fun j _ hj => by rw [k14]⟩
                  refine ⟨fun j _ hj => ya.1 j (Nat.zero_le _) (by omega), fun j _ hj => ya.2.1 j (Nat.zero_le _) (by omega), fun j _ hj => ?_, fun j _ hj => ?_⟩
                  · rw [ya.2.2.1 j (Nat.zero_le _) (by omega)]
                    show upd (os_A m3 13) q _ j = _
                    rw [up_ne (by omega), g13', g13]
                  · rw [ya.2.2.2 j (Nat.zero_le _) (by omega)]
                    show os_A m3 14 j = _
                    rw [g14']
              · have z1 : ff_X10_takeSign N t6 (59 : Int32) = _ := z1
                have z2 : ff_X13_mustSign N m6 (59 : Int32) = _ := z2
                right
                refine ⟨ss_A s5 1 (upd (os_A s5 1) c (os_I s5 5)), t8, m8, ?_, ?_, h8, q6.tr (ke_kt q8)⟩
                · rw [z1, Option.bind_some]; rfl
                · rw [z2, Option.bind_some]
                  exact te_cL h8 (by omega) (by omega)
            · right
              rw [show (0 : Int32) = Int32.ofInt ((0 : Nat) : Int) from rfl, y1, y2]
              refine ⟨ss_A s5 1 (upd (os_A s5 1) c (os_I s5 5)), t5, m5, ?_, rfl, h5', q4.tr yq⟩
              simp only [Option.bind_some, if_pos]
              exact b143 s5 t5
          · have x1 : ff_X10_takeSign N t2 (40 : Int32) = _ := x1
            have x2 : ff_X13_mustSign N m2 (40 : Int32) = _ := x2
            right
            have e143 : ff_X13_command_b143 N m3 (Int32.ofInt (k : Int)) = some m3 := by
              unfold ff_X13_command_b143
              rw [te_good h3, Option.bind_some, if_pos rfl]
            rw [x2, Option.bind_some, e143] at v2
            have ref := mL_te (M := M + 1) (by omega) hj (by omega) v2 h3 (by rw [q3.1 40 (by decide), u8.1 40 (by decide), v3.1 40 (by decide)]) (by omega)
            refine ⟨ss_A s2 1 (upd (os_A s2 1) c (os_I s2 5)), t3, m3, ?_, ref, h3, q2.tr (ke_kt q3)⟩
            rw [x1, Option.bind_some, if_pos rfl, b143]
        · rw [if_neg c11] at v2 ⊢
          rw [cmK h2 hk g38 q60 g40, if_neg c11] at v2
          rw [b139]
          have h3 : tj X t2 (ss_I (ss_I (ss_A m2 13 (upd (os_A m2 13) q (Int32.ofInt (k : Int)))) 38 (Int32.ofInt ((q + 1 : Nat) : Int))) 40 (Int32.ofInt ((0 + 0 : Nat) : Int))) p2 := tj_I (tj_I (tj_A h2 (by decide)) (by decide)) (by decide)
          have q3 : sq kt jt m (ss_I (ss_I (ss_A m2 13 (upd (os_A m2 13) q (Int32.ofInt (k : Int)))) 38 (Int32.ofInt ((q + 1 : Nat) : Int))) 40 (Int32.ofInt ((0 + 0 : Nat) : Int))) := q_st1 (q_st1 (q_st2 q2 (by decide)) (by decide)) (by decide)
          rw [mL_step hj (by omega) v2, if_pos (by rw [h40]; rfl)]
          rcases tj_sign (N := N) (v := 59) hN h3 (by decide) with ⟨t4, m4, x1, x2, h4, cp4, q4⟩ | ⟨t4, m4, x1, x2, h4, q4⟩
          · have x1 : ff_X10_takeSign N t2 (59 : Int32) = _ := x1
            have x2 : ff_X13_mustSign N _ (59 : Int32) = _ := x2
            have k13 : os_A m4 13 = upd (os_A m 13) q (Int32.ofInt (k : Int)) := by rw [q4.2 13 (fun z => z), ← g13]; rfl
            have k14 : os_A m4 14 = os_A m2 14 := q4.2 14 (fun z => z)
            left
            refine ⟨ss_A s2 1 (upd (os_A s2 1) c (os_I s2 5)), t4, m4, p2 + 1, c + 1, q + 1, N, M, [none], ?_, ?_, ⟨h4, g5, by omega, by rw [q4.1 38 (by decide)]; rfl, by rw [q4.1 39 (by decide)]; exact g39, by rw [q4.1 40 (by decide)]; rfl, by omega⟩, by show p + 2 * 1 ≤ p2 + 1; omega, by omega, by omega, rfl, rfl, ⟨?_, True.intro⟩, ?_, q3.tr (ke_kt q4), g6, List.cons_ne_nil _ _⟩
            · rw [x1, Option.bind_some, if_neg (show ¬ ((1 : Int32) = 0) by decide)]
            · rw [x2, Option.bind_some]
            · refine ⟨k, V, by omega, by show os_R s2 0 c = _; rw [gR, va_eq], by rw [k13, up_eq], fun a ha => ?_, ?_⟩
              · have z := u3 a ha
                have z1 : 0 ≤ lw k := by unfold lw; split <;> omega
                rw [k14]
                exact ⟨⟨by omega, z.1.2⟩, z.2⟩
              · show upd (os_A s2 1) c (os_I s2 5) c = _
                rw [up_eq, g5]
            · exact ag2.tr ⟨fun j _ hj => ⟨rfl, up_ne (by omega)⟩, fun j _ hj => rfl, fun j _ hj => by rw [k13, g13, up_ne (by omega)], fun j _ hj => by rw [k14]⟩
          · have x1 : ff_X10_takeSign N t2 (59 : Int32) = _ := x1
            have x2 : ff_X13_mustSign N _ (59 : Int32) = _ := x2
            right
            refine ⟨ss_A s2 1 (upd (os_A s2 1) c (os_I s2 5)), t4, m4, ?_, ?_, h4, q3.tr (ke_kt q4)⟩
            · rw [x1, Option.bind_some, if_pos rfl]
            · rw [x2, Option.bind_some]
              exact te_cL h4 (by omega) (by omega)
      · right
        rw [u2] at v2
        have ref := mL_te (M := M + 1) (by omega) hj (by omega) v2 h2 (by rw [u8.1 40 (by decide), v3.1 40 (by decide)]) (by omega)
        refine ⟨s2, t2, m2, ?_, ref, h2, q1.tr (u8.mono (fun i hi => Or.inl hi) (fun j hj => by omega))⟩
        rw [u1, Option.bind_some, if_pos rfl, if_pos rfl]
  · right
    obtain ⟨w1, w2⟩ := pr_none (N := N) (s := s) hN hj (fun k hk z => hw ⟨k, hk, z⟩)
    unfold ff_X8_readCommand_v2
    have cls : ∀ g : Nat → Option (Nat × Int32 × os_T × os_T), os_opt (none : Option Nat) ((ff_X10_fail N t (1 : Int32)).bind fun u_5 => (if os_z u_5.1 then some (0, u_5.1, s, u_5.2) else none)) g = some (0, 0, s, ss_I t 10 1) := fun g => by
      rfl
    rw [w1, Option.bind_some, if_pos rfl, cls]
    obtain ⟨m1, v1, v2, v3⟩ := cmN (N := N) hj w2
    exact ⟨s, ss_I t 10 1, m1, rfl, mL_te (by omega) hj hA v1 v2 (v3.1 40 (by decide)) (by omega), v2, ke_kt v3⟩
theorem rd_cmds2 (hN : 1000 < N) (hC : X.2.2.2.2.2 ≤ 900) (hN2 : 2000 < N) : ∀ (j p : Nat) (s t m : os_T) (c q x f M F : Nat), X.2.2.2.2.2 - p ≤ j → j < F → sj X s t m p 0 c q → 2 * x ≤ p → 0 < f → X.2.2.2.2.2 - p + 1 < M → rdOk c_1 r_1 l_1 N X s m p 0 c q (os_loop (fun k2 s1 => ff_X8_readCommands_v2_c2 N k2 s1.1 s1.2.1 s1.2.2.1 s1.2.2.2) F (s, t, Int32.ofInt ((0 : Nat) : Int), Int32.ofInt (x : Int))) (cL N f M m) (fun p' _ => kq X p' = 0) ∨ rdBad N m (os_loop (fun k2 s1 => ff_X8_readCommands_v2_c2 N k2 s1.1 s1.2.1 s1.2.2.1 s1.2.2.2) F (s, t, Int32.ofInt ((0 : Nat) : Int), Int32.ofInt (x : Int))) (cL N f M m) := by
  intro j
  induction j with
  | zero =>
    intro p s t m c q x f M F hj0 hF hs hx hf hM
    obtain ⟨F, rfl⟩ : ∃ M', F = M' + 1 := ⟨F - 1, by omega⟩
    obtain ⟨hj, h5, hc30, h38, h39, h40, hqd⟩ := hs
    have hp := hj.2.2.2.1
    have hk0 : kq X p = 0 := (kq_0 hj).2 (by omega)
    have step : ∀ g, ff_X8_readCommands_v2_c2 N g s t (Int32.ofInt ((0 : Nat) : Int)) (Int32.ofInt (x : Int)) = ff_X8_readCommands_v2_b32 N g s t (Int32.ofInt ((0 : Nat) : Int)) (Int32.ofInt (x : Int)) (oz (decide (kq X p = 0))) := fun g => by
      unfold ff_X8_readCommands_v2_c2
      rw [ii_900, ii_le (by omega) (by omega), if_neg (by omega)]
      have e7 : (os_I t 7 = 0) = (kq X p = 0) := by rw [tj_7 hj]; exact i0_eq (by have := kq_r hj; omega)
      rw [if_pos (show Int32.ofInt ((0 : Nat) : Int) = 0 from rfl)]
      unfold ff_X10_isAtEnd
      simp only [e7]
      by_cases ce : kq X p = 0
      · rw [if_pos ce, decide_eq_true ce]; rfl
      · rw [if_neg ce, decide_eq_false ce]; rfl
    show rdOk _ _ _ _ _ _ _ _ _ _ _ (ff_X8_readCommands_v2_c2 N _ s t (Int32.ofInt ((0 : Nat) : Int)) (Int32.ofInt (x : Int))) _ _ ∨ rdBad _ _ (ff_X8_readCommands_v2_c2 N _ s t (Int32.ofInt ((0 : Nat) : Int)) (Int32.ofInt (x : Int))) _
    rw [step]
    unfold ff_X8_readCommands_v2_b32
    left
    rw [decide_eq_true hk0]
    exact ⟨s, t, m, p, c, q, f, M, [], rfl, rfl, ⟨hj, h5, hc30, h38, h39, h40, hqd⟩, Nat.le_refl _, hf, hM, rfl, rfl, True.intro, agr.rf, sq.rf, rfl, hk0⟩
  | succ j ih =>
    intro p s t m c q x f M F hj0 hF hs hx hf hM
    obtain ⟨F, rfl⟩ : ∃ M', F = M' + 1 := ⟨F - 1, by omega⟩
    have hs' := hs
    obtain ⟨hj, h5, hc30, h38, h39, h40, hqd⟩ := hs
    have hp := hj.2.2.2.1
    have step : ∀ g, ff_X8_readCommands_v2_c2 N g s t (Int32.ofInt ((0 : Nat) : Int)) (Int32.ofInt (x : Int)) = ff_X8_readCommands_v2_b32 N g s t (Int32.ofInt ((0 : Nat) : Int)) (Int32.ofInt (x : Int)) (oz (decide (kq X p = 0))) := fun g => by
      unfold ff_X8_readCommands_v2_c2
      rw [ii_900, ii_le (by omega) (by omega), if_neg (by omega)]
      have e7 : (os_I t 7 = 0) = (kq X p = 0) := by rw [tj_7 hj]; exact i0_eq (by have := kq_r hj; omega)
      rw [if_pos (show Int32.ofInt ((0 : Nat) : Int) = 0 from rfl)]
      unfold ff_X10_isAtEnd
      simp only [e7]
      by_cases ce : kq X p = 0
      · rw [if_pos ce, decide_eq_true ce]; rfl
      · rw [if_neg ce, decide_eq_false ce]; rfl
    show rdOk _ _ _ _ _ _ _ _ _ _ _ (ff_X8_readCommands_v2_c2 N _ s t (Int32.ofInt ((0 : Nat) : Int)) (Int32.ofInt (x : Int))) _ _ ∨ rdBad _ _ (ff_X8_readCommands_v2_c2 N _ s t (Int32.ofInt ((0 : Nat) : Int)) (Int32.ofInt (x : Int))) _
    rw [step]
    unfold ff_X8_readCommands_v2_b32
    by_cases ce : kq X p = 0
    · left
      rw [decide_eq_true ce]
      exact ⟨s, t, m, p, c, q, f, M, [], rfl, rfl, hs', Nat.le_refl _, hf, hM, rfl, rfl, True.intro, agr.rf, sq.rf, rfl, ce⟩
    · rw [decide_eq_false ce]
      have eF : ∀ {α : Type} {A B : α}, (if oz false = 0 then A else B) = A := fun {α A B} => if_pos rfl
      rw [eF, cL_no (d := 0) hj (by omega) h40 (by omega) (Or.inl rfl)]
      rcases rd_cmd2 (N := N) (M := M) hN hC hN2 hs' (ce) hM with ⟨s1, t1, m1, p1, c1, q1, f1, M1, l, y1, y2, hs1, yp, yf, yM, ec, eq, yl, ya, yq, y6, yE⟩ | ⟨s1, t1, m1, y1, y2, h1, yq⟩
      · have hl : 1 ≤ l.length ∨ l = [] := by cases l with
          | nil => exact Or.inr rfl
          | cons a l => exact Or.inl (by show 1 ≤ l.length + 1; omega)
        have hl1 : 1 ≤ l.length := hl.resolve_right yE
        have einc : Int32.ofInt (x : Int) + 1 = Int32.ofInt ((x + 1 : Nat) : Int) := by rw [ii_1, ia_add]; rfl
        have hp1 : p + 2 ≤ p1 := by omega
        have hpp := hs1.1.2.2.2.1
        rw [y1, y2, Option.bind_some, if_pos rfl, if_neg (show ¬ ((1 : Int32) = 0) by decide), einc]
        rcases ih p1 s1 t1 m1 c1 q1 (x + 1) f1 M1 F (by omega) (by omega) hs1 (by omega) yf yM with ⟨s2, t2, m2, p2, c2, q2, f2, M2, l2, z1, z2, hs2, zp, zf, zM, fc, fq2, zl, za, zq, z6, zE⟩ | ⟨s2, t2, m2, z1, z2, h2, zq⟩
        · left
          refine ⟨s2, t2, m2, p2, c2, q2, f2, M2, l ++ l2, z1, z2, hs2, by rw [List.length_append]; omega, zf, zM, by rw [cs_app]; omega, by rw [rsz_app]; omega, ly_app l l2 c q (ly_agr (fun i k b h ha => l1_agr b i k h ha) l c q yl (by rw [← ec, ← eq]; exact za.mono (Nat.zero_le _) (Nat.le_refl _) (Nat.zero_le _) (Nat.le_refl _))) (by rw [← ec, ← eq]; exact zl), ya.tr (za.mono (Nat.zero_le _) (by omega) (Nat.zero_le _) (by omega)), yq.tr zq, z6.trans y6, zE⟩
        · right
          exact ⟨s2, t2, m2, z1, z2, h2, yq.tr zq⟩

      · right
        rw [y1, y2]
        exact ⟨s1, t1, m1, rfl, rfl, h1, yq⟩
end Levels
