abbrev ce_X3 (kA : Nat → ClassId) (q : Nat → Nat) (qh : Nat → Nat → Nat) (o : os_T) : va_W := [(q 0, .inr (2, [.ref (q 1), .int (os_I o 1), .int (os_I o 2)])), (q 1, .inl (kA 6, 7, .inr (.inr (.inr (.inr (fun k => some (qh k 0)))))))]
abbrev ce_X4 (kA : Nat → ClassId) (q : Nat → Nat) (q_panel : Nat → Nat) (o : os_T) : va_W := [(q 0, .inr (3, [.ref (q_panel 0), .ref (q 1), .ref (q 2), .int (os_I o 3)])), (q 1, .inl (kA 0, 192, .inl (os_A o 0))), (q 2, .inl (kA 1, 192, .inl (os_A o 1)))]
abbrev ce_X5 (kA : Nat → ClassId) (q : Nat → Nat) (o : os_T) : va_W := [(q 0, .inr (4, [.int (os_I o 0), .int (os_I o 1), .int (os_I o 2), .int (os_I o 3), .int (os_I o 4), .int (os_I o 5), .int (os_I o 6), .ref (q 1), .ref (q 2), .ref (q 3)])), (q 1, .inl (kA 0, 192, .inl (os_A o 0))), (q 2, .inl (kA 0, 192, .inl (os_A o 1))), (q 3, .inl (kA 3, 21, .inr (.inr (.inl (os_F o 0)))))]
abbrev ce_X6 (kA : Nat → ClassId) (q : Nat → Nat) (o : os_T) : va_W := [(q 0, .inr (5, [.ref (q 1)])), (q 1, .inl (kA 0, 12, .inl (os_A o 0)))]
abbrev ce_X7 (kA : Nat → ClassId) (q : Nat → Nat) (q_tokens : Nat → Nat) (q_draft : Nat → Nat) (o : os_T) : va_W := [(q 0, .inr (6, [.ref (q_tokens 0), .ref (q_draft 0), .int (os_I o 2), .int (os_I o 3), .int (os_I o 4), .int (os_I o 5), .int (os_I o 6), .int (os_I o 7)]))]
abbrev ce_X8 (kA : Nat → ClassId) (ec : Nat → Nat) (q : Nat → Nat) (q_tokens : Nat → Nat) (o : os_T) : va_W := [(q 0, .inr (7, [.ref (q_tokens 0), .ref (q 1), .ref (q 2), .ref (q 3), .ref (q 4), .int (os_I o 5), .int (os_I o 6)])), (q 1, .inl (kA 7, 30, .inr (.inr (.inr (.inr (fun k => (os_R o 0 k).map ec)))))), (q 2, .inl (kA 0, 150, .inl (os_A o 0))), (q 3, .inl (kA 0, 30, .inl (os_A o 1))), (q 4, .inl (kA 0, 60, .inl (os_A o 2)))]
abbrev ce_X10 (kA : Nat → ClassId) (q : Nat → Nat) (o : os_T) : va_W := [(q 0, .inr (8, [.ref (q 1), .ref (q 2), .ref (q 3), .ref (q 4), .int (os_I o 4), .int (os_I o 5), .int (os_I o 6), .int (os_I o 7), .int (os_I o 8), .int (os_I o 9), .int (os_I o 10)])), (q 1, .inl (kA 2, 900, .inl (os_A o 0))), (q 2, .inl (kA 0, 900, .inl (os_A o 1))), (q 3, .inl (kA 0, 900, .inl (os_A o 2))), (q 4, .inl (kA 0, 900, .inl (os_A o 3)))]
abbrev ce_X11 (kA : Nat → ClassId) (q : Nat → Nat) (o : os_T) : va_W := [(q 0, .inr (9, [.ref (q 1)])), (q 1, .inl (kA 1, 192, .inl (os_A o 0)))]
abbrev ce_X12 (kA : Nat → ClassId) (g : Nat → Nat → Nat) (o : os_T) : va_W := [(g 0 0, .inr (10, [.ref (g 1 0), .ref (g 2 0), .ref (g 0 1), .ref (g 0 2), .ref (g 5 0), .ref (g 13 0), .ref (g 14 0), .ref (g 15 0), .ref (g 16 0), .ref (g 17 0), .ref (g 18 0), .ref (g 0 3), .int (os_I o 12), .int (os_I o 13), .int (os_I o 14)])), (g 0 1, .inl (kA 6, 2, .inr (.inr (.inr (.inr (fun k => some (g (3 + k) 0))))))), (g 0 2, .inl (kA 1, 2, .inl (os_A o 0))), (g 0 3, .inl (kA 2, 576, .inl (os_A o 1)))]
abbrev ss_LF (o : os_T) (f : Nat → Int64) : os_T := (o.1, f, o.2.2)
abbrev ce_XJ (kA : Nat → ClassId) (q : Nat → Nat) (o : os_T) : va_W := [(q 0, .inl (kA 4, 1, .inr (.inl (os_L o))))]
abbrev ce_XD (kA : Nat → ClassId) (q : Nat → Nat) (o : os_T) : va_W := [(q 0, .inl (kA 5, 1, .inr (.inr (.inr (.inl (fun j => Int64.toUInt64 (os_L o j)))))))]
theorem os_updD {F : Nat → Int64} {i : Nat} {x : UInt64} : vf_upd (fun j => Int64.toUInt64 (F j)) i x = fun j => Int64.toUInt64 (vp_updL F i (UInt64.toInt64 x) j) := by
  funext j
  unfold vf_upd vp_updL
  split
  · exact (UInt64.toUInt64_toInt64 x).symm
  · rfl
