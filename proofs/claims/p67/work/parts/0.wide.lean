/-! The laws of floats stand in the rest of the library (JvmDerived.FloatLaws, FloatLayer): this row names one of them first of all, so that the claim is read over the whole of it from its first part on -/
theorem wq_first : True := by
  have _h := @Jvm.FP.Core.fadd_mag
  trivial
