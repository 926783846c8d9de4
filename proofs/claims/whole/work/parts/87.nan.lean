/-! LAYER 2. Answers that are floats are numbers -/
theorem lo_res {S α : Type} {step : (S → Option α) → S → Option α} {Q : α → Prop} (h : ∀ r : S → Option α, (∀ s v, r s = some v → Q v) → ∀ s v, step r s = some v → Q v) : ∀ N s v, os_loop step N s = some v → Q v := by
  intro N
  induction N with
  | zero => intro s v e; cases e
  | succ N ih => intro s v e; exact h _ ih s v e
theorem os_if2 {c : Prop} [Decidable c] {α : Type} {x y : Option α} {v : α} (h : (if c then x else y) = some v) : (c ∧ x = some v) ∨ (¬ c ∧ y = some v) := by
  by_cases hc : c
  · rw [if_pos hc] at h; exact Or.inl ⟨hc, h⟩
  · rw [if_neg hc] at h; exact Or.inr ⟨hc, h⟩
theorem fd_nn {c : UInt32} (h : os_nn c) : os_n64 (FP.f2d c) ∧ FP.dcmp (FP.f2d c) (FP.f2d c) = some .eq := by
  have h2 : Jvm.Free.Fl.NoNaN64 (FP.f2d c) := (Jvm.Free.Fl.noNaN_f2d c).mpr h
  exact ⟨h2, FP.Core.dcmp_self (Jvm.Free.Fl.val64_no.mp h2)⟩
section Nan
variable {N : Nat} {x o oh m : os_T} {P : Nat → os_T} {S : Nat → Nat} {T H : Int → Int → Int} {n : Nat} {U : Nat → (Int → Int → Int) × (Int → Int → Int)} {c : UInt32}
theorem nn_mean (h : ff_X12_meanError N x o = some c) : os_nn c := by
  unfold ff_X12_meanError at h
  obtain ⟨u, h1, h2⟩ := os_bd h
  have h2 := Option.some.inj h2
  subst h2
  unfold ff_X2_meanMiss ff_X2_meanMiss_l4 at h1
  refine lo_res (Q := os_nn) (fun r hr s v e => ?_) _ _ _ h1
  have e : ff_X2_meanMiss_c4 N o r s.1 s.2 = some v := e
  unfold ff_X2_meanMiss_c4 at e
  rcases os_if2 e with ⟨-, e⟩ | ⟨-, e⟩
  · rcases os_if2 e with ⟨-, e⟩ | ⟨-, e⟩
    · rw [← Option.some.inj e]; decide
    · obtain ⟨hn, e⟩ := os_if e
      rw [← Option.some.inj e]; exact hn
  · unfold ff_X2_meanMiss_l14 at e
    refine lo_res (Q := os_nn) (fun r2 hr2 s v e => ?_) _ _ _ e
    have e : ff_X2_meanMiss_c14 N o r r2 s.1 s.2.1 s.2.2 = some v := e
    unfold ff_X2_meanMiss_c14 at e
    rcases os_if2 e with ⟨-, e⟩ | ⟨-, e⟩
    · exact hr _ _ e
    · obtain ⟨u, -, e⟩ := os_bd e
      exact hr2 _ _ (os_if e).2
theorem nn_span (h : ff_X12_contrast N x o = some c) : os_nn c := by
  unfold ff_X12_contrast at h
  obtain ⟨u, h1, h2⟩ := os_bd h
  have h2 := Option.some.inj h2
  subst h2
  unfold ff_X2_span at h1
  obtain ⟨u0, -, h1⟩ := os_bd h1
  unfold ff_X2_span_l11 at h1
  refine lo_res (Q := os_nn) (fun r hr s v e => ?_) _ _ _ h1
  have e : ff_X2_span_c11 N o r s.1 s.2.1 s.2.2 = some v := e
  unfold ff_X2_span_c11 at e
  rcases os_if2 e with ⟨-, e⟩ | ⟨-, e⟩
  · obtain ⟨hn, e⟩ := os_if e
    rw [← Option.some.inj e]; exact hn
  · unfold ff_X2_span_l22 at e
    refine lo_res (Q := os_nn) (fun r2 hr2 s v e => ?_) _ _ _ e
    have e : ff_X2_span_c22 N o r r2 s.1 s.2.1 s.2.2.1 s.2.2.2 = some v := e
    unfold ff_X2_span_c22 ff_X2_span_b53 ff_X2_span_b67 at e
    rcases os_if2 e with ⟨-, e⟩ | ⟨-, e⟩
    · exact hr _ _ e
    · obtain ⟨u, -, e⟩ := os_bd e
      rcases os_if2 e with ⟨-, e⟩ | ⟨-, e⟩
      · rcases os_if2 e with ⟨-, e⟩ | ⟨-, e⟩ <;> exact hr2 _ _ e
      · rcases os_if2 e with ⟨-, e⟩ | ⟨-, e⟩ <;> exact hr2 _ _ e
theorem nn_light {d : Int} (hS : sv S) (hj : jr o oh P m S T H n U) (hd : ib d) (h : ff_X12_light N x o (Int32.ofInt d) = some (0, c)) : os_nn c := by
  have hs := sv_a hS
  unfold ff_X12_light at h
  rw [pc_cks hS hj.1 hd, Option.bind_some] at h
  by_cases cd : 0 ≤ d ∧ d ≤ (S 2 : Int)
  · rw [if_pos cd, if_pos rfl, pc_lightOf hj.1 cd.1 (by omega), Option.bind_some] at h
    rw [← (show _ = c from congrArg (fun z => z.2) (Option.some.inj h))]
    exact fl_n (by omega) (by omega) (by omega)
  · rw [if_neg cd, if_neg (by decide)] at h
    have := congrArg (fun z => z.1) (Option.some.inj h)
    cases this
theorem nn_wanted {a b : Int} (hS : sv S) (hj : jr o oh P m S T H n U) (ha : ib a) (hb : ib b) (h : ff_X12_wanted N x o (Int32.ofInt a) (Int32.ofInt b) = some (0, c)) : os_nn c := by
  have hTv := hj.2.2.2.2.1
  unfold ff_X12_wanted at h
  rw [pc_chk hS hj.1 ha hb, Option.bind_some] at h
  by_cases cd : ic S a b
  · have ht := hTv a b cd
    rw [if_pos cd, if_pos rfl, pc_wishAt hS hj.1 hTv cd, Option.bind_some] at h
    rw [← (show _ = c from congrArg (fun z => z.2) (Option.some.inj h))]
    exact fl_wn (by omega)
  · rw [if_neg cd, if_neg (by decide)] at h
    have := congrArg (fun z => z.1) (Option.some.inj h)
    cases this
theorem nn_estimate {a b : Int} (hS : sv S) (hj : jr o oh P m S T H n U) (ha : ib a) (hb : ib b) (h : ff_X12_estimate N x o (Int32.ofInt a) (Int32.ofInt b) = some (0, c)) : os_nn c := by
  have hHv := hj.2.2.2.2.2.1
  unfold ff_X12_estimate at h
  rw [pc_chk hS hj.1 ha hb, Option.bind_some] at h
  by_cases cd : ic S a b
  · rw [if_pos cd, if_pos rfl, pc_glow hS hj.1 hHv cd, Option.bind_some] at h
    rw [← (show _ = c from congrArg (fun z => z.2) (Option.some.inj h))]
    exact fq_nnF (g_eF hS hHv cd)
  · rw [if_neg cd, if_neg (by decide)] at h
    have := congrArg (fun z => z.1) (Option.some.inj h)
    cases this
theorem nn_error {a b : Int} (hS : sv S) (hj : jr o oh P m S T H n U) (ha : ib a) (hb : ib b) (h : ff_X12_error N x o (Int32.ofInt a) (Int32.ofInt b) = some (0, c)) : os_nn c := by
  have hTv := hj.2.2.2.2.1
  have hHv := hj.2.2.2.2.2.1
  unfold ff_X12_error at h
  rw [pc_chk hS hj.1 ha hb, Option.bind_some] at h
  by_cases cd : ic S a b
  · rw [if_pos cd, if_pos rfl, pc_miss hS hj.1 hHv hTv cd, Option.bind_some] at h
    rw [← (show _ = c from congrArg (fun z => z.2) (Option.some.inj h))]
    exact (g_mF hS hHv hTv cd).1
  · rw [if_neg cd, if_neg (by decide)] at h
    have := congrArg (fun z => z.1) (Option.some.inj h)
    cases this
end Nan
