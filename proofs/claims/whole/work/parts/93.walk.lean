/-! THE CLAIM OUT OF ONE WALK OF THE LAW'S BODY. Your part is whole_start (and what it stands on); all else here is the same for every law, but numbers. -/
def R_law : String := "ReliefBuilderLaw"
def lw_P (b : Addr) (xs : List Int32) (args : Array Value) (s : State) : Prop := args = #[.ref b] ∧ s.IntsAt b xs ∧ xs.length ≤ 3072 ∧ (Jvm.Cond.and given_1 narrow_1).before args s = true
/-- what a walk over the start with the record d0 says of its end, said of the start itself -/
theorem lw_closed {s t : State} {o : Outcome} {d0 : Drawn} {L : List Loc} {k n : Nat} (hd0 : s.drawn.sameBut d0 lw_cs) (hv : ∃ v, o = .returned v) (hW : (s.setDrawn d0).WarmedH t.vm) (hs : (s.setDrawn d0).sameButNew ({ t with vm := s.vm } : State) L k n) : State.butDraws s t lw_cs (fun t1 => Framed s o t1 L k n) := by
  have h2 : t.drawn = d0 := congrArg State.drawn hs.1
  refine ⟨⟨hv, hW, State.sameButNew.setDrawn hs s.drawn⟩, ?_, by decide⟩
  rw [h2]
  exact hd0
def lw_Q (_ : Array Value) (s : State) (o : Outcome) (t : State) : Prop := o = .returned (some (.int 1)) ∧ State.butDraws s t lw_cs (fun t1 => Framed s o t1 [] 601024 7293034)
def lw_Z (below : List Frame) (a : Array Value) (s : State) : State → Prop := fun t => ∃ o, t.status = .running ∧ Ended t below o ∧ lw_Q a s o t
/-- the law's own end, with 1 on the stack, nothing written that was there before, its room as the claim has it; d0: the record of draws at this point (at the entry s.drawn: begin with 'refine W.base ?_' and 'have hd0 := Drawn.sameBut.refl s.drawn lw_cs') -/
theorem lw_ret {p : Program} {l : Launch} {e : Env} {s : State} {m : MethodId} {below : List Frame} {meth : Method} {c : Code} {b : Nat} {d0 : Drawn} (hd0 : s.drawn.sameBut d0 lw_cs) (hx : p.tables.exec = Jvm.exec) (hb : c.code = code) (hr : meth.sig.returnType = ret) (hlocks : meth.locks = false) {pc : Nat} {H : Heap} {ls : Array Slot} (hdg : decode code pc = .ok (.ireturn, 1)) : W p l e room_1 (s.setDrawn d0) m #[Value.ref b] below meth c H [] 601024 7293034 (lw_Z below #[Value.ref b] s) (F0 m pc ls [.int 1]) := by
  intro T hT X
  obtain ⟨fs, hret, hrun, hended, hW, hframe⟩ := X.leave (v := some (.int 1)) (hlocks := hlocks) (fun h => by rw [hr] at h; cases h)
  have hmeth' : T.vm.method? m = some meth := X.method'
  refine ⟨T.setFrames fs, ?_, .returned (some (.int 1)), hrun, hended, rfl, lw_closed hd0 ⟨_, rfl⟩ hW hframe⟩
  jvm_step X.here [X.here.top, hx, hb, hdg, hmeth', hr, ret, narrow_b1]
  (try refine ⟨rfl, ?_⟩); (try refine ⟨rfl, ?_⟩)
  first | (intro acts; rw [hret _ acts rfl rfl rfl]) | rw [hret _ _ rfl rfl rfl]
  exact Steps.refl _
/-- what holds at the law's entry: the machine, the code, the tables' words (any of lw_tbl by 'hts w (by decide +kernel)'), the script of L ints xs at the cell b, what the Statement gives of the start (any of its parts by flat_of_before) -/
def lw_At (p : Program) (s : State) (m : MethodId) (meth : Method) (c : Code) (b L : Nat) (xs : Nat → Int32) : Prop :=
  p.tables.exec = Jvm.exec ∧ c.code = code ∧ meth.sig.returnType = ret ∧ c.maxLocals = 10 ∧ s.vm.findClass R_law = some m.cls ∧ (∀ w ∈ lw_tbl, w.before #[Value.ref b] s = true) ∧ va_X b L xs s s.heap ∧ b < s.heap.size ∧ meth.locks = false ∧ (Jvm.Cond.and given_1 narrow_1).before #[Value.ref b] s = true
theorem sa_cl {s : State} {b : Nat} (hts0 : ∀ w ∈ lw_tbl, w.before #[Value.ref b] s = true) : ∃ (dC : Nat → ClassId) (dI : Nat → Nat → Nat), ∀ (k : Nat) (q : vw_C), vwCl[k]? = some q → u_Kn s q.1 q.2.1 q.2.2 (dC k) (dI k) := by
  obtain ⟨c0, i0, k0⟩ := u_known (C := RX3) (T := TX3) (N := 3) (n := 3) hts0 li_X30 (hts0 _ (List.mem_of_getElem? (i := 276) (by decide +kernel)))
  obtain ⟨c1, i1, k1⟩ := u_known (C := RX4) (T := TX4) (N := 4) (n := 4) hts0 li_X40 (hts0 _ (List.mem_of_getElem? (i := 306) (by decide +kernel)))
  obtain ⟨c2, i2, k2⟩ := u_known (C := RX5) (T := TX5) (N := 10) (n := 10) hts0 li_X50 (hts0 _ (List.mem_of_getElem? (i := 160) (by decide +kernel)))
  obtain ⟨c3, i3, k3⟩ := u_known (C := RX6) (T := TX6) (N := 1) (n := 1) hts0 li_X60 (hts0 _ (List.mem_of_getElem? (i := 325) (by decide +kernel)))
  obtain ⟨c4, i4, k4⟩ := u_known (C := RX7) (T := TX7) (N := 8) (n := 8) hts0 li_X70 (hts0 _ (List.mem_of_getElem? (i := 380) (by decide +kernel)))
  obtain ⟨c5, i5, k5⟩ := u_known (C := RX8) (T := TX8) (N := 7) (n := 7) hts0 li_X80 (hts0 _ (List.mem_of_getElem? (i := 412) (by decide +kernel)))
  obtain ⟨c6, i6, k6⟩ := u_known (C := RX10) (T := TX10) (N := 11) (n := 11) hts0 li_X100 (hts0 _ (List.mem_of_getElem? (i := 336) (by decide +kernel)))
  obtain ⟨c7, i7, k7⟩ := u_known (C := RX11) (T := TX11) (N := 1) (n := 1) hts0 li_X110 (hts0 _ (List.mem_of_getElem? (i := 296) (by decide +kernel)))
  obtain ⟨c8, i8, k8⟩ := u_known (C := RX12) (T := TX12) (N := 15) (n := 15) hts0 li_X120 (hts0 _ (List.mem_of_getElem? (i := 152) (by decide +kernel)))
  obtain ⟨c9, i9, k9⟩ := u_known (C := RX13) (T := TX13) (N := 48) (n := 48) hts0 li_X130 (hts0 _ (List.mem_of_getElem? (i := 1615) (by decide +kernel)))
  refine ⟨fun k => [c0, c1, c2, c3, c4, c5, c6, c7, c8, c9].getD k 0, fun k => [i0, i1, i2, i3, i4, i5, i6, i7, i8, i9].getD k i0, fun k q hq => ?_⟩
  match k, hq with
  | 0, hq => cases hq; exact k0
  | 1, hq => cases hq; exact k1
  | 2, hq => cases hq; exact k2
  | 3, hq => cases hq; exact k3
  | 4, hq => cases hq; exact k4
  | 5, hq => cases hq; exact k5
  | 6, hq => cases hq; exact k6
  | 7, hq => cases hq; exact k7
  | 8, hq => cases hq; exact k8
  | 9, hq => cases hq; exact k9
  | k + 10, hq => simp at hq
set_option maxHeartbeats 4000000 in
set_option maxRecDepth 100000 in
/-- the law, from its entry -/
theorem whole_start {p : Program} {e : Env} {s : State} {m : MethodId} {below : List Frame} {meth : Method} {c : Code} (l : Launch) (hflags : l.flags = flags0) {b L : Nat} {xs : Nat → Int32} (hL : L ≤ 3072) (C0 : lw_At p s m meth c b L xs) : W p l e room_1 s m #[Value.ref b] below meth c s.heap [] 0 0 (lw_Z below #[Value.ref b] s) (entryFrame m ([Value.ref b] : List Value).toArray 10) := by
  obtain ⟨hx, hb, hr, hml, hown, hts0, hX, hbl, hlocks, hgv⟩ := id C0
  have hst : l.stackTraces = false := by
    unfold Launch.stackTraces
    rw [hflags]
    decide
  have hb : c.code = cL_law := hb
  have hown : s.vm.findClass RL = some m.cls := hown
  have hts : ∀ w ∈ wsL_law, w.before #[Value.ref b] s = true := fun w h => hts0 w (li_law w h)
  have hA : ∀ q : Nat, s.heap.size ≤ q → (fun q : Nat => s.heap.size ≤ q) q := fun _ h => h
  have hbA : ¬ (fun q : Nat => s.heap.size ≤ q) b := Nat.not_le.mpr hbl
  have hw : ∀ w ∈ sw_w, w.before #[Value.ref b] s = true := fun w h => hts0 w (sw_w_in w h)
  have hY := sa_Y hw
  obtain ⟨zz, hZ⟩ := sa_S hts0 hgv
  obtain ⟨kA, hkk⟩ := sa_kk hw
  obtain ⟨dC, dI, hKc⟩ := sa_cl hts0
  obtain ⟨o1, oP, m1, mP, h1, h2, h3, h4, hloop⟩ := ww_all
  have hK : va_K (dC, dI) vwCl (kk_T kA) s := ⟨hKc, hkk⟩
  have hS : va_S (fun q : Nat => s.heap.size ≤ q) s.heap s.heap [] := va_S.rf
  have hP : va_P (dC, dI) vwCl [] s.heap := fun k q h => by simp at h
  have hD : va_D (fun q : Nat => s.heap.size ≤ q) [] := ⟨fun i j p q h => by simp at h, fun k q h => by simp at h⟩
  have hl := lv_entry ([.ref b]) (n := 10) (Nat.le_of_ble_eq_true rfl)
  rw [lg_entry_eq]
  generalize (lg_sl ([.ref b]) ++ List.replicate (10 - (lg_sl ([.ref b])).length) Slot.unset).toArray = ls at hl ⊢
  have hl : lv_has ls 10 [(0, .ref b)] := hl
  refine va_new (ci := 8) (fs := [.null, .null, .null, .null, .null, .null, .null, .null, .null, .null, .null, .null, .int 0, .int 0, .int 0]) (C := RX12) (T := TX12) (N := 15) hx hb hts0 li_X120 tyX12 tyX12_ok hown (hts0 _ (List.mem_of_getElem? (i := 151) (by decide +kernel))) (hts0 _ (List.mem_of_getElem? (i := 152) (by decide +kernel))) (hts0 _ (List.mem_of_getElem? (i := 121) (by decide +kernel))) hK hP hD hS hA rfl (fun j hj => by rcases (show j = 0 ∨ j = 1 ∨ j = 2 ∨ j = 3 ∨ j = 4 ∨ j = 5 ∨ j = 6 ∨ j = 7 ∨ j = 8 ∨ j = 9 ∨ j = 10 ∨ j = 11 ∨ j = 12 ∨ j = 13 ∨ j = 14 by omega) with rfl | rfl | rfl | rfl | rfl | rfl | rfl | rfl | rfl | rfl | rfl | rfl | rfl | rfl | rfl <;> rfl) (Nat.le_of_ble_eq_true rfl) (Nat.le_of_ble_eq_true rfl) dL_law_0 (fun q0v H hP hD hS => ?_)
  have hP : va_P (dC, dI) vwCl [(q0v, .inr (8, [.null, .null, .null, .null, .null, .null, .null, .null, .null, .null, .null, .null, .int 0, .int 0, .int 0]))] H := hP
  have hD : va_D (fun q : Nat => s.heap.size ≤ q) [(q0v, .inr (8, [.null, .null, .null, .null, .null, .null, .null, .null, .null, .null, .null, .null, .int 0, .int 0, .int 0]))] := hD
  refine lv_dup hx hb dL_law_3 rfl ?_
  refine mi_callI ⟨hx, hb, hml, hown, hts⟩ (mm_X12_init l (dC, dI) kA zz 200000 q0v o1 oP h1 h2) (cwI 0 hts gL_law_X12_init rfl rfl rfl (hts0 _ (List.mem_of_getElem? (i := 121) (by decide +kernel))) (hts0 _ (List.mem_of_getElem? (i := 153) (by decide +kernel))) (hts0 _ (List.mem_of_getElem? (i := 154) (by decide +kernel))) rfl (by decide +kernel) ⟨(Nat.le_of_ble_eq_true rfl), (Nat.le_of_ble_eq_true rfl)⟩) hY rfl hl.1 (As := []) (rest := [.ref q0v]) rfl (Nat.le_of_ble_eq_true rfl) dL_law_4 ⟨(Nat.le_of_ble_eq_true rfl), (Nat.le_of_ble_eq_true rfl)⟩ hK hP hD hS hA [0] [] [0, 1, 2, 3, 4, 5, 6, 7, 8, 9, 10, 11, 12, 13, 14, 15, 16, 17, 18, 19, 20, 21, 22, 23, 24, 25, 26, 27, 28, 29, 30, 31, 32, 33, 34, 35, 36, 37, 38, 39, 40, 41, 42, 43, 44, 45, 46, 47, 48, 49, 50, 51, 52, 53, 54, 55, 56, 57, 58, 59, 60, 61, 62, 63, 64, 65, 66, 67] (wc := [(q0v, .inr (8, [.null, .null, .null, .null, .null, .null, .null, .null, .null, .null, .null, .null, .int 0, .int 0, .int 0]))]) (wr := ([] : va_W)) rfl (by decide) rfl (by decide) (by decide) (w2 := fun g => (ce_X12 kA g (ss_I os_zero 14 (-1)) ++ (ce_X5 kA (g 1) oP ++ (ce_X5 kA (g 2) oP ++ (ce_X5 kA (g 3) oP ++ (ce_X5 kA (g 4) oP ++ (ce_X3 kA (g 5) (fun k => g (6 + k)) os_zero ++ (ce_X5 kA (g 6) oP ++ (ce_X5 kA (g 7) oP ++ (ce_X5 kA (g 8) oP ++ (ce_X5 kA (g 9) oP ++ (ce_X5 kA (g 10) oP ++ (ce_X5 kA (g 11) oP ++ (ce_X5 kA (g 12) oP ++ (ce_X11 kA (g 13) os_zero ++ (ce_X4 kA (g 14) (g 1) os_zero ++ (ce_X6 kA (g 15) (ss_A os_zero 0 (os_fill 12 (-1) (fun _ => 0))) ++ (ce_X10 kA (g 16) os_zero ++ (ce_X7 kA (g 17) (g 16) (g 2) os_zero ++ (ce_X8 kA (zz 2) (g 18) (g 16) os_zero)))))))))))))))))))) (fun _ => rfl) (by decide) (fun g H locs g_0 hP hD hS => ?_)
  have hP : va_P (dC, dI) vwCl (ce_X12 kA g (ss_I os_zero 14 (-1)) ++ (ce_X5 kA (g 1) oP ++ (ce_X5 kA (g 2) oP ++ (ce_X5 kA (g 3) oP ++ (ce_X5 kA (g 4) oP ++ (ce_X3 kA (g 5) (fun k => g (6 + k)) os_zero ++ (ce_X5 kA (g 6) oP ++ (ce_X5 kA (g 7) oP ++ (ce_X5 kA (g 8) oP ++ (ce_X5 kA (g 9) oP ++ (ce_X5 kA (g 10) oP ++ (ce_X5 kA (g 11) oP ++ (ce_X5 kA (g 12) oP ++ (ce_X11 kA (g 13) os_zero ++ (ce_X4 kA (g 14) (g 1) os_zero ++ (ce_X6 kA (g 15) (ss_A os_zero 0 (os_fill 12 (-1) (fun _ => 0))) ++ (ce_X10 kA (g 16) os_zero ++ (ce_X7 kA (g 17) (g 16) (g 2) os_zero ++ (ce_X8 kA (zz 2) (g 18) (g 16) os_zero))))))))))))))))))) H := hP
  have hD : va_D (fun q : Nat => s.heap.size ≤ q) (ce_X12 kA g (ss_I os_zero 14 (-1)) ++ (ce_X5 kA (g 1) oP ++ (ce_X5 kA (g 2) oP ++ (ce_X5 kA (g 3) oP ++ (ce_X5 kA (g 4) oP ++ (ce_X3 kA (g 5) (fun k => g (6 + k)) os_zero ++ (ce_X5 kA (g 6) oP ++ (ce_X5 kA (g 7) oP ++ (ce_X5 kA (g 8) oP ++ (ce_X5 kA (g 9) oP ++ (ce_X5 kA (g 10) oP ++ (ce_X5 kA (g 11) oP ++ (ce_X5 kA (g 12) oP ++ (ce_X11 kA (g 13) os_zero ++ (ce_X4 kA (g 14) (g 1) os_zero ++ (ce_X6 kA (g 15) (ss_A os_zero 0 (os_fill 12 (-1) (fun _ => 0))) ++ (ce_X10 kA (g 16) os_zero ++ (ce_X7 kA (g 17) (g 16) (g 2) os_zero ++ (ce_X8 kA (zz 2) (g 18) (g 16) os_zero))))))))))))))))))) := hD
  refine W.eq (g2 := F0 m 7 ls [.ref (g 0 0)]) (by rw [g_0]) ?_
  refine lv_astore_n (lv' := [(1, .ref (g 0 0)), (0, .ref b)]) hx hb dL_law_7 rfl hl (by decide) rfl (fun ls hl => ?_)
  refine va_new (ci := 9) (fs := [.int 0, .null, .int 0, .int 0, .int 0, .int 0, .int 0, .int 0, .int 0, .int 0, .int 0, .int 0, .long 0, .null, .null, .null, .null, .null, .int 0, .int 0, .int 0, .int 0, .int 0, .int 0, .null, .null, .null, .null, .null, .int 0, .null, .null, .null, .null, .null, .null, .null, .null, .int 0, .int 0, .int 0, .int 0, .null, .int 0, .int 0, .null, .null, .null]) (C := RX13) (T := TX13) (N := 48) hx hb hts0 li_X130 tyX13 tyX13_ok hown (hts0 _ (List.mem_of_getElem? (i := 1614) (by decide +kernel))) (hts0 _ (List.mem_of_getElem? (i := 1615) (by decide +kernel))) (hts0 _ (List.mem_of_getElem? (i := 131) (by decide +kernel))) hK hP hD hS hA rfl (fun j hj => by rcases (show j = 0 ∨ j = 1 ∨ j = 2 ∨ j = 3 ∨ j = 4 ∨ j = 5 ∨ j = 6 ∨ j = 7 ∨ j = 8 ∨ j = 9 ∨ j = 10 ∨ j = 11 ∨ j = 12 ∨ j = 13 ∨ j = 14 ∨ j = 15 ∨ j = 16 ∨ j = 17 ∨ j = 18 ∨ j = 19 ∨ j = 20 ∨ j = 21 ∨ j = 22 ∨ j = 23 ∨ j = 24 ∨ j = 25 ∨ j = 26 ∨ j = 27 ∨ j = 28 ∨ j = 29 ∨ j = 30 ∨ j = 31 ∨ j = 32 ∨ j = 33 ∨ j = 34 ∨ j = 35 ∨ j = 36 ∨ j = 37 ∨ j = 38 ∨ j = 39 ∨ j = 40 ∨ j = 41 ∨ j = 42 ∨ j = 43 ∨ j = 44 ∨ j = 45 ∨ j = 46 ∨ j = 47 by omega) with rfl | rfl | rfl | rfl | rfl | rfl | rfl | rfl | rfl | rfl | rfl | rfl | rfl | rfl | rfl | rfl | rfl | rfl | rfl | rfl | rfl | rfl | rfl | rfl | rfl | rfl | rfl | rfl | rfl | rfl | rfl | rfl | rfl | rfl | rfl | rfl | rfl | rfl | rfl | rfl | rfl | rfl | rfl | rfl | rfl | rfl | rfl | rfl <;> rfl) (Nat.le_of_ble_eq_true rfl) (Nat.le_of_ble_eq_true rfl) dL_law_8 (fun q1v H hP hD hS => ?_)
  refine lv_dup hx hb dL_law_11 rfl ?_
  refine mi_callI ⟨hx, hb, hml, hown, hts⟩ (mm_X13_init l (dC, dI) kA 200000 q1v m1 mP h3 h4) (cwI 0 hts gL_law_X13_init rfl rfl rfl (hts0 _ (List.mem_of_getElem? (i := 131) (by decide +kernel))) (hts0 _ (List.mem_of_getElem? (i := 1616) (by decide +kernel))) (hts0 _ (List.mem_of_getElem? (i := 1617) (by decide +kernel))) rfl (by decide +kernel) ⟨(Nat.le_of_ble_eq_true rfl), (Nat.le_of_ble_eq_true rfl)⟩) hY rfl hl.1 (As := []) (rest := [.ref q1v]) rfl (Nat.le_of_ble_eq_true rfl) dL_law_12 ⟨(Nat.le_of_ble_eq_true rfl), (Nat.le_of_ble_eq_true rfl)⟩ hK hP hD hS hA [68] [0, 1, 2, 3, 4, 5, 6, 7, 8, 9, 10, 11, 12, 13, 14, 15, 16, 17, 18, 19, 20, 21, 22, 23, 24, 25, 26, 27, 28, 29, 30, 31, 32, 33, 34, 35, 36, 37, 38, 39, 40, 41, 42, 43, 44, 45, 46, 47, 48, 49, 50, 51, 52, 53, 54, 55, 56, 57, 58, 59, 60, 61, 62, 63, 64, 65, 66, 67] [0, 1, 2, 3, 4, 5, 6, 7, 8, 9, 10, 11, 12, 13, 14, 15, 16, 17, 18, 19, 20, 21, 22, 23, 24, 25, 26, 27, 28, 29, 30, 31, 32, 33, 34, 35, 36, 37, 38, 39, 40, 41, 42, 43, 44, 45, 46, 47, 48, 49, 50, 51, 52, 53, 54, 55, 56, 57, 58, 59, 60, 61, 62, 63, 64, 65, 66, 67, 68, 69, 70, 71, 72, 73, 74, 75, 76, 77, 78, 79, 80, 81, 82, 83, 84, 85, 86, 87, 88, 89, 90, 91] (wc := [(q1v, .inr (9, [.int 0, .null, .int 0, .int 0, .int 0, .int 0, .int 0, .int 0, .int 0, .int 0, .int 0, .int 0, .long 0, .null, .null, .null, .null, .null, .int 0, .int 0, .int 0, .int 0, .int 0, .int 0, .null, .null, .null, .null, .null, .int 0, .null, .null, .null, .null, .null, .null, .null, .null, .int 0, .int 0, .int 0, .int 0, .null, .int 0, .int 0, .null, .null, .null]))]) (wr := (ce_X12 kA g (ss_I os_zero 14 (-1)) ++ (ce_X5 kA (g 1) oP ++ (ce_X5 kA (g 2) oP ++ (ce_X5 kA (g 3) oP ++ (ce_X5 kA (g 4) oP ++ (ce_X3 kA (g 5) (fun k => g (6 + k)) os_zero ++ (ce_X5 kA (g 6) oP ++ (ce_X5 kA (g 7) oP ++ (ce_X5 kA (g 8) oP ++ (ce_X5 kA (g 9) oP ++ (ce_X5 kA (g 10) oP ++ (ce_X5 kA (g 11) oP ++ (ce_X5 kA (g 12) oP ++ (ce_X11 kA (g 13) os_zero ++ (ce_X4 kA (g 14) (g 1) os_zero ++ (ce_X6 kA (g 15) (ss_A os_zero 0 (os_fill 12 (-1) (fun _ => 0))) ++ (ce_X10 kA (g 16) os_zero ++ (ce_X7 kA (g 17) (g 16) (g 2) os_zero ++ (ce_X8 kA (zz 2) (g 18) (g 16) os_zero)))))))))))))))))))) rfl (by decide) rfl (by decide) (by decide) (w2 := fun q => (ce_X12 kA g (ss_I os_zero 14 (-1)) ++ (ce_X5 kA (g 1) oP ++ (ce_X5 kA (g 2) oP ++ (ce_X5 kA (g 3) oP ++ (ce_X5 kA (g 4) oP ++ (ce_X3 kA (g 5) (fun k => g (6 + k)) os_zero ++ (ce_X5 kA (g 6) oP ++ (ce_X5 kA (g 7) oP ++ (ce_X5 kA (g 8) oP ++ (ce_X5 kA (g 9) oP ++ (ce_X5 kA (g 10) oP ++ (ce_X5 kA (g 11) oP ++ (ce_X5 kA (g 12) oP ++ (ce_X11 kA (g 13) os_zero ++ (ce_X4 kA (g 14) (g 1) os_zero ++ (ce_X6 kA (g 15) (ss_A os_zero 0 (os_fill 12 (-1) (fun _ => 0))) ++ (ce_X10 kA (g 16) os_zero ++ (ce_X7 kA (g 17) (g 16) (g 2) os_zero ++ (ce_X8 kA (zz 2) (g 18) (g 16) os_zero ++ (ce_X13 kA (q 0) mP))))))))))))))))))))) (fun _ => rfl) (by decide) (fun q H locs q_0 hP hD hS => ?_)
  have hP : va_P (dC, dI) vwCl (ce_X12 kA g (ss_I os_zero 14 (-1)) ++ (ce_X5 kA (g 1) oP ++ (ce_X5 kA (g 2) oP ++ (ce_X5 kA (g 3) oP ++ (ce_X5 kA (g 4) oP ++ (ce_X3 kA (g 5) (fun k => g (6 + k)) os_zero ++ (ce_X5 kA (g 6) oP ++ (ce_X5 kA (g 7) oP ++ (ce_X5 kA (g 8) oP ++ (ce_X5 kA (g 9) oP ++ (ce_X5 kA (g 10) oP ++ (ce_X5 kA (g 11) oP ++ (ce_X5 kA (g 12) oP ++ (ce_X11 kA (g 13) os_zero ++ (ce_X4 kA (g 14) (g 1) os_zero ++ (ce_X6 kA (g 15) (ss_A os_zero 0 (os_fill 12 (-1) (fun _ => 0))) ++ (ce_X10 kA (g 16) os_zero ++ (ce_X7 kA (g 17) (g 16) (g 2) os_zero ++ (ce_X8 kA (zz 2) (g 18) (g 16) os_zero ++ (ce_X13 kA (q 0) mP)))))))))))))))))))) H := hP
  have hD : va_D (fun q : Nat => s.heap.size ≤ q) (ce_X12 kA g (ss_I os_zero 14 (-1)) ++ (ce_X5 kA (g 1) oP ++ (ce_X5 kA (g 2) oP ++ (ce_X5 kA (g 3) oP ++ (ce_X5 kA (g 4) oP ++ (ce_X3 kA (g 5) (fun k => g (6 + k)) os_zero ++ (ce_X5 kA (g 6) oP ++ (ce_X5 kA (g 7) oP ++ (ce_X5 kA (g 8) oP ++ (ce_X5 kA (g 9) oP ++ (ce_X5 kA (g 10) oP ++ (ce_X5 kA (g 11) oP ++ (ce_X5 kA (g 12) oP ++ (ce_X11 kA (g 13) os_zero ++ (ce_X4 kA (g 14) (g 1) os_zero ++ (ce_X6 kA (g 15) (ss_A os_zero 0 (os_fill 12 (-1) (fun _ => 0))) ++ (ce_X10 kA (g 16) os_zero ++ (ce_X7 kA (g 17) (g 16) (g 2) os_zero ++ (ce_X8 kA (zz 2) (g 18) (g 16) os_zero ++ (ce_X13 kA (q 0) mP)))))))))))))))))))) := hD
  refine W.eq (g2 := F0 m 15 ls [.ref (q 0 0)]) (by rw [q_0]) ?_
  refine lv_astore_n (lv' := [(2, .ref (q 0 0)), (1, .ref (g 0 0)), (0, .ref b)]) hx hb dL_law_15 rfl hl (by decide) rfl (fun ls hl => ?_)
  refine lv_iconst (v := 1) hx hb dL_law_16 (by decide) ?_
  refine mi_newa (atype := .long) (ty := .long) (a0 := (1, .inr (.inl (os_L os_zero)))) 4 hx hb (hts0 _ (List.mem_of_getElem? (i := 2385) (by decide +kernel))) rfl rfl (fun c0 h9 => ⟨_, rfl, va_nm_long h9⟩) hK hP hD hS hA (fun _ => rfl) (by decide) rfl (Nat.le_of_ble_eq_true rfl) (Nat.le_of_ble_eq_true rfl) (Nat.le_of_ble_eq_true rfl) dL_law_17 (fun q2v H hP hD hS => ?_)
  refine lv_astore_n (lv' := [(3, .ref q2v), (2, .ref (q 0 0)), (1, .ref (g 0 0)), (0, .ref b)]) hx hb dL_law_19 rfl hl (by decide) rfl (fun ls hl => ?_)
  refine lv_iconst (v := 1) hx hb dL_law_20 (by decide) ?_
  refine mi_newa (atype := .double) (ty := .double) (a0 := (1, .inr (.inr (.inr (.inl (fun j => Int64.toUInt64 (os_L os_zero j))))))) 5 hx hb (hts0 _ (List.mem_of_getElem? (i := 2386) (by decide +kernel))) rfl rfl (fun c0 h9 => ⟨_, rfl, va_nm_double h9⟩) hK hP hD hS hA (fun _ => rfl) (by decide) rfl (Nat.le_of_ble_eq_true rfl) (Nat.le_of_ble_eq_true rfl) (Nat.le_of_ble_eq_true rfl) dL_law_21 (fun q3v H hP hD hS => ?_)
  have hP : va_P (dC, dI) vwCl (ce_X12 kA g (ss_I os_zero 14 (-1)) ++ (ce_X5 kA (g 1) oP ++ (ce_X5 kA (g 2) oP ++ (ce_X5 kA (g 3) oP ++ (ce_X5 kA (g 4) oP ++ (ce_X3 kA (g 5) (fun k => g (6 + k)) os_zero ++ (ce_X5 kA (g 6) oP ++ (ce_X5 kA (g 7) oP ++ (ce_X5 kA (g 8) oP ++ (ce_X5 kA (g 9) oP ++ (ce_X5 kA (g 10) oP ++ (ce_X5 kA (g 11) oP ++ (ce_X5 kA (g 12) oP ++ (ce_X11 kA (g 13) os_zero ++ (ce_X4 kA (g 14) (g 1) os_zero ++ (ce_X6 kA (g 15) (ss_A os_zero 0 (os_fill 12 (-1) (fun _ => 0))) ++ (ce_X10 kA (g 16) os_zero ++ (ce_X7 kA (g 17) (g 16) (g 2) os_zero ++ (ce_X8 kA (zz 2) (g 18) (g 16) os_zero ++ (ce_X13 kA (q 0) mP ++ (ce_XJ kA (fun _ => q2v) os_zero ++ (ce_XD kA (fun _ => q3v) os_zero)))))))))))))))))))))) H := hP.sub [0, 1, 2, 3, 4, 5, 6, 7, 8, 9, 10, 11, 12, 13, 14, 15, 16, 17, 18, 19, 20, 21, 22, 23, 24, 25, 26, 27, 28, 29, 30, 31, 32, 33, 34, 35, 36, 37, 38, 39, 40, 41, 42, 43, 44, 45, 46, 47, 48, 49, 50, 51, 52, 53, 54, 55, 56, 57, 58, 59, 60, 61, 62, 63, 64, 65, 66, 67, 68, 69, 70, 71, 72, 73, 74, 75, 76, 77, 78, 79, 80, 81, 82, 83, 84, 85, 86, 87, 88, 89, 90, 91, 92, 93] rfl
  have hD : va_D (fun q : Nat => s.heap.size ≤ q) (ce_X12 kA g (ss_I os_zero 14 (-1)) ++ (ce_X5 kA (g 1) oP ++ (ce_X5 kA (g 2) oP ++ (ce_X5 kA (g 3) oP ++ (ce_X5 kA (g 4) oP ++ (ce_X3 kA (g 5) (fun k => g (6 + k)) os_zero ++ (ce_X5 kA (g 6) oP ++ (ce_X5 kA (g 7) oP ++ (ce_X5 kA (g 8) oP ++ (ce_X5 kA (g 9) oP ++ (ce_X5 kA (g 10) oP ++ (ce_X5 kA (g 11) oP ++ (ce_X5 kA (g 12) oP ++ (ce_X11 kA (g 13) os_zero ++ (ce_X4 kA (g 14) (g 1) os_zero ++ (ce_X6 kA (g 15) (ss_A os_zero 0 (os_fill 12 (-1) (fun _ => 0))) ++ (ce_X10 kA (g 16) os_zero ++ (ce_X7 kA (g 17) (g 16) (g 2) os_zero ++ (ce_X8 kA (zz 2) (g 18) (g 16) os_zero ++ (ce_X13 kA (q 0) mP ++ (ce_XJ kA (fun _ => q2v) os_zero ++ (ce_XD kA (fun _ => q3v) os_zero)))))))))))))))))))))) := hD.sub [0, 1, 2, 3, 4, 5, 6, 7, 8, 9, 10, 11, 12, 13, 14, 15, 16, 17, 18, 19, 20, 21, 22, 23, 24, 25, 26, 27, 28, 29, 30, 31, 32, 33, 34, 35, 36, 37, 38, 39, 40, 41, 42, 43, 44, 45, 46, 47, 48, 49, 50, 51, 52, 53, 54, 55, 56, 57, 58, 59, 60, 61, 62, 63, 64, 65, 66, 67, 68, 69, 70, 71, 72, 73, 74, 75, 76, 77, 78, 79, 80, 81, 82, 83, 84, 85, 86, 87, 88, 89, 90, 91, 92, 93] (by decide) rfl
  refine lv_astore (lv' := [(4, .ref q3v), (3, .ref q2v), (2, .ref (q 0 0)), (1, .ref (g 0 0)), (0, .ref b)]) hx hb dL_law_23 hl (by decide) rfl (fun ls hl => ?_)
  refine lv_iconst (v := 0) hx hb dL_law_25 (by decide) ?_
  refine lv_istore (lv' := [(5, .int 0), (4, .ref q3v), (3, .ref q2v), (2, .ref (q 0 0)), (1, .ref (g 0 0)), (0, .ref b)]) hx hb dL_law_26 hl (by decide) rfl (fun ls hl => ?_)
  refine ll_loop l hst zz (dC, dI) kA hx hb hml hown hts hK hA hZ hX hbl hbA ?_ 200000 g (q 0) (fun _ => q2v) (fun _ => q3v) (L / 6 + 1) (ss_I os_zero 14 (-1)) oP oP oP oP os_zero oP oP oP oP oP oP oP os_zero os_zero (ss_A os_zero 0 (os_fill 12 (-1) (fun _ => 0))) os_zero os_zero os_zero mP os_zero os_zero 0 _ _ ?_ ?_ H _ ls hP hD hS (lv_sub hl [5, 4, 3, 2, 1, 0] rfl) (hloop L xs oP os_zero os_zero os_zero os_zero os_zero os_zero (by omega))
  · intro H locs ls kc ks hS hkc hks
    refine lv_iconst (v := 1) hx hb dL_law_3506 (by decide) ?_
    refine va_forget (fun q hq => hS.2.2 q hq) ?_
    refine W.widen (k := 601024) (n := 7293034) hkc hks ?_
    refine W.base ?_
    exact lw_ret (d0 := s.drawn) (Drawn.sameBut.refl s.drawn lw_cs) hx hb hr hlocks dL_law_3507
  · show _ ≤ 601024
    simp only []
    omega
  · show _ ≤ 7293034
    simp only []
    omega
