/-! ===== the two shares: their numbers ===== -/
theorem fp_d : ∀ c, c < 15 → c ≠ 0 → ∀ s, s < 127 → (vf_n64 (FP.ddiv (FP.i2d (nI s)) (FP.i2d (nI c))) ∧ Op.cmpValue (FP.dcmp (FP.ddiv (FP.i2d (nI s)) (FP.i2d (nI c))) (FP.ddiv (FP.i2d (nI s)) (FP.i2d (nI c)))) .l = 0) := by
  unfold vf_n64
  decide +kernel
theorem fp_f : ∀ c, c < 15 → c ≠ 0 → ∀ s, s < 15 → (vf_n32 (FP.fdiv (FP.i2f (nI s)) (FP.i2f (nI c))) ∧ vf_n64 (FP.f2d (FP.fdiv (FP.i2f (nI s)) (FP.i2f (nI c)))) ∧ Op.cmpValue (FP.dcmp (FP.f2d (FP.fdiv (FP.i2f (nI s)) (FP.i2f (nI c)))) (FP.f2d (FP.fdiv (FP.i2f (nI s)) (FP.i2f (nI c))))) .l = 0) := by
  unfold vf_n64 vf_n32
  decide +kernel
