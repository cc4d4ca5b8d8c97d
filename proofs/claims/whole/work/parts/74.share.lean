/-! ===== mean size, resident share, drawers by residents ===== -/
def sumE (f : Nat → Int32) : Nat → Int32
  | 0 => 0
  | k + 1 => sumE f k + f k
theorem sumE_n {f : Nat → Int32} {m : Nat} : ∀ c, (∀ k, k < c → ∃ s, s ≤ m ∧ f k = nI s) → ∃ S, S ≤ m * c ∧ sumE f c = nI S := by
  intro c
  induction c with
  | zero => intro _; exact ⟨0, by omega, rfl⟩
  | succ c ih =>
    intro h
    obtain ⟨S, hS, e⟩ := ih (fun k hk => h k (by omega))
    obtain ⟨s, hs, e2⟩ := h c (by omega)
    refine ⟨S + s, by rw [Nat.mul_succ]; omega, ?_⟩
    rw [sumE, e, e2, nI_add]
theorem sumE_congr {f g : Nat → Int32} : ∀ c, (∀ k, k < c → f k = g k) → sumE f c = sumE g c := by
  intro c
  induction c with
  | zero => intro _; rfl
  | succ c ih =>
    intro h
    rw [sumE, sumE, ih (fun k hk => h k (by omega)), h c (by omega)]
theorem s3_sizeSum {post : Int32 → Prop} {o : Off} {c : Nat} (hc : o 0 0 = nI c) (h14 : c ≤ 14) (h : post (sumE (fun k => o 2 k) c)) : wp_X3_sizeSum post o := by
  suffices hl : ∀ r k : Nat, k + r = c → wl_X3_sizeSum_4 post o (r + 1) (sumE (fun k => o 2 k) k) (nI k) from ⟨c + 1, hl c 0 (by omega)⟩
  intro r
  induction r with
  | zero =>
    intro k hk
    rw [wl_X3_sizeSum_4, hc, show k = c by omega]
    exact iT (Int32.le_refl _) h
  | succ r ih =>
    intro k hk
    have ih := ih (k + 1) (by omega)
    rw [wl_X3_sizeSum_4, hc]
    refine iF (nI_ge (by omega) (by omega)) ⟨vpk (by omega) (by omega), fun v1 e1 v2 e2 => ?_⟩
    rw [nI_add1] at e2
    rw [kc (by omega)] at e1
    subst e1; subst e2
    exact ih
def resT (v : vW) (k : Nat) : Bool := decide (v k 2 = 3)
theorem res_sum {v : vW} : ∀ c, (∀ k, k < c → v k 2 = 3 → ∃ d, d < 5 ∧ v k 3 = nI d) → cnt (inS v 3 (nI 0)) c + cnt (inS v 3 (nI 1)) c + cnt (inS v 3 (nI 2)) c + cnt (inS v 3 (nI 3)) c + cnt (inS v 3 (nI 4)) c = cnt (resT v) c := by
  intro c
  induction c with
  | zero => intro _; rfl
  | succ c ih =>
    intro h
    have ih := ih (fun k hk => h k (by omega))
    simp only [cnt]
    by_cases e : v c 2 = 3
    · obtain ⟨d, hd, e3⟩ := h c (by omega) e
      have hr : resT v c = true := decide_eq_true e
      have hi : ∀ i, i < 5 → inS v 3 (nI i) c = decide (d = i) := fun i hi => by
        unfold inS
        rw [e3]
        exact decide_eq_decide.mpr ⟨fun y => (nI_eqi (by omega) (by omega)).mp y.2, fun y => ⟨e, by rw [y]⟩⟩
      rw [hi 0 (by omega), hi 1 (by omega), hi 2 (by omega), hi 3 (by omega), hi 4 (by omega), hr]
      have : d = 0 ∨ d = 1 ∨ d = 2 ∨ d = 3 ∨ d = 4 := by omega
      rcases this with rfl | rfl | rfl | rfl | rfl <;> simp <;> omega
    · have hr : resT v c = false := decide_eq_false e
      have hi : ∀ i, inS v 3 (nI i) c = false := fun i => decide_eq_false (fun y => e y.1)
      rw [hi 0, hi 1, hi 2, hi 3, hi 4, hr]
      simp only [Bool.false_eq_true, if_false]
      omega
theorem s3_residentSum {post : Int32 → Prop} {o : Off} {c : Nat} (hc : o 0 0 = nI c) (h14 : c ≤ 14) (h : post (nI (cnt (inS (cV o) 3 (nI 0)) c + cnt (inS (cV o) 3 (nI 1)) c + cnt (inS (cV o) 3 (nI 2)) c + cnt (inS (cV o) 3 (nI 3)) c + cnt (inS (cV o) 3 (nI 4)) c))) : wp_X3_residentSum post o := by
  have step : ∀ (m k S : Nat), k < 5 → wl_X3_residentSum_4 post o m (nI (S + cnt (inS (cV o) 3 (nI k)) c)) (nI (k + 1)) → wl_X3_residentSum_4 post o (m + 1) (nI S) (nI k) := by
    intro m k S hk h
    rw [wl_X3_residentSum_4]
    refine iF (by rw [show (5 : Int32) = nI 5 from rfl, nI_lei (by omega) (by omega)]; omega) (s3_countOf hc h14 (fun v2 e2 v3 e3 => ?_))
    rw [nI_add] at e2
    rw [nI_add1] at e3
    subst e2; subst e3
    exact h
  refine ⟨6, step 5 0 0 (by omega) (step 4 1 _ (by omega) (step 3 2 _ (by omega) (step 2 3 _ (by omega) (step 1 4 _ (by omega) ?_))))⟩
  rw [wl_X3_residentSum_4]
  refine iT (by decide) ?_
  rw [Nat.zero_add]
  exact h
theorem op_47 {j : Nat} {E M : Off} {z : Nat → Int64} {zd : Nat → UInt64} {a1 a2 a3 : Int32} (hj : j < 512) (hI : inv j E M) : wc_47 (lwInv (j + 1)) E M z zd a1 a2 a3 := by
  obtain ⟨c, T, hc, hm, h14, hR, hV⟩ := inv_c hI
  by_cases h0 : c = 0
  · subst h0
    have hr : ∀ Q : UInt64 → Off → Prop, Q 0 (st M 0 5 1) → wp_X5_meanSize Q M := fun Q h => ⟨i0_160, iT (by rw [c0, hm]; decide) (s5_checked (b := false) (iF (by decide) h))⟩
    exact jT hc ⟨rfl, hr _ (fin_x i1ne rfl (inv_t 1 hI))⟩
  have hne : ¬ nI c = 0 := by
    rw [show (0 : Int32) = nI 0 from rfl, nI_eqi (by omega) (by omega)]; exact h0
  have hnle : ¬ nI c ≤ 0 := by
    rw [show (0 : Int32) = nI 0 from rfl, nI_lei (by omega) (by omega)]; omega
  obtain ⟨S, hS, eS⟩ := sumE_n (f := fun k => rV M k 1) (m := 9) c (fun k hk => by
    obtain ⟨s, h1, h9, e⟩ := (vV1_of hV hk).2.1
    exact ⟨s, h9, e⟩)
  obtain ⟨f1, f2⟩ := fp_d c (by omega) h0 S (by omega)
  have hr : ∀ Q : UInt64 → Off → Prop, Q (FP.ddiv (FP.i2d (nI S)) (FP.i2d (nI c))) (st M 0 5 0) → wp_X5_meanSize Q M := by
    intro Q h
    refine ⟨i0_160, iF (by rw [c0, hm]; exact hnle) (s5_checked (b := true) (iT (by decide) ⟨c + 1, ?_⟩))⟩
    suffices hl : ∀ r k : Nat, k + r = c → wl_X5_meanSize_27 Q (r + 1) (st M 0 5 (bI (!true))) (sumE (fun k => rV M k 1) k) (nI k) from hl c 0 (by omega)
    intro r
    induction r with
    | zero =>
      intro k hk
      rw [wl_X5_meanSize_27, c0, show k = c by omega, eS]
      have hm2 : st M 0 5 (bI (!true)) 1 0 = nI c := hm
      rw [hm2]
      exact ⟨i0_160, iT (Int32.le_refl _) ⟨i0_160, f1, h⟩⟩
    | succ r ih =>
      intro k hk
      have ih := ih (k + 1) (by omega)
      rw [wl_X5_meanSize_27, c0]
      have hm2 : st M 0 5 (bI (!true)) 1 0 = nI c := hm
      rw [hm2]
      refine ⟨i0_160, iF (nI_ge (by omega) (by omega)) (s5_s (f := 1) (by omega) (by decide) (fun v4 e4 v5 e5 => ?_))⟩
      rw [nI_add1] at e5
      subst e4; subst e5
      exact ih
  refine jF (fun y => hne (hc.symm.trans y)) (s3_sizeSum hc h14 ?_)
  have e2 : sumE (fun k => E 2 k) c = nI S := by
    rw [← eS]
    exact sumE_congr c (fun k hk => (vE1_of hR hk).2.1)
  rw [e2, hc]
  refine ⟨f1, hr _ ⟨rfl, fun _ => ?_, inv_t 0 hI⟩⟩
  have : ∀ x, vf_upd zd (0 : Int32).toNatClampNeg x (0 : Int32).toNatClampNeg = x := fun x => if_pos rfl
  rw [this]
  exact f2
theorem op_48 {j : Nat} {E M : Off} {z : Nat → Int64} {zd : Nat → UInt64} {a1 a2 a3 : Int32} (hj : j < 512) (hI : inv j E M) : wc_48 (lwInv (j + 1)) E M z zd a1 a2 a3 := by
  obtain ⟨c, T, hc, hm, h14, hR, hV⟩ := inv_c hI
  by_cases h0 : c = 0
  · subst h0
    have hr : ∀ Q : UInt32 → Off → Prop, Q 0 (st M 0 5 1) → wp_X5_residentShare Q M := fun Q h => ⟨i0_160, iT (by rw [c0, hm]; decide) (s5_checked (b := false) (iF (by decide) h))⟩
    exact jT hc ⟨rfl, hr _ (fin_x i1ne rfl (inv_t 1 hI))⟩
  have hne : ¬ nI c = 0 := by
    rw [show (0 : Int32) = nI 0 from rfl, nI_eqi (by omega) (by omega)]; exact h0
  have hnle : ¬ nI c ≤ 0 := by
    rw [show (0 : Int32) = nI 0 from rfl, nI_lei (by omega) (by omega)]; omega
  have hS := cnt_le (resT (rV M)) c
  obtain ⟨f1, f2, f3⟩ := fp_f c (by omega) h0 (cnt (resT (rV M)) c) (by omega)
  have hr : ∀ Q : UInt32 → Off → Prop, Q (FP.fdiv (FP.i2f (nI (cnt (resT (rV M)) c))) (FP.i2f (nI c))) (st M 0 5 0) → wp_X5_residentShare Q M := by
    intro Q h
    refine ⟨i0_160, iF (by rw [c0, hm]; exact hnle) (s5_checked (b := true) (iT (by decide) ⟨c + 1, ?_⟩))⟩
    suffices hl : ∀ r k : Nat, k + r = c → wl_X5_residentShare_27 Q (r + 1) (st M 0 5 (bI (!true))) (nI (cnt (resT (rV M)) k)) (nI k) from hl c 0 (by omega)
    intro r
    induction r with
    | zero =>
      intro k hk
      rw [wl_X5_residentShare_27, c0, show k = c by omega]
      have hm2 : st M 0 5 (bI (!true)) 1 0 = nI c := hm
      rw [hm2]
      exact ⟨i0_160, iT (Int32.le_refl _) ⟨i0_160, f1, h⟩⟩
    | succ r ih =>
      intro k hk
      have ih := ih (k + 1) (by omega)
      rw [wl_X5_residentShare_27, c0]
      have hm2 : st M 0 5 (bI (!true)) 1 0 = nI c := hm
      rw [hm2]
      refine ⟨i0_160, iF (nI_ge (by omega) (by omega)) ?_⟩
      by_cases e : rV M k 2 = 3
      · refine s5_is_t (by omega) e (b10 (fun v6 e6 v7 e7 => ?_))
        rw [nI_add1] at e6 e7
        subst e6; subst e7
        rw [cnt_t (decide_eq_true e)] at ih
        exact ih
      · refine s5_is_f (by omega) e (b00 (fun v4 e4 v5 e5 => ?_))
        rw [nI_add0] at e4
        rw [nI_add1] at e5
        subst e4; subst e5
        rw [cnt_f (fun y => e (of_decide_eq_true y))] at ih
        exact ih
  refine jF (fun y => hne (hc.symm.trans y)) (s3_residentSum hc h14 ?_)
  have e2 : cnt (inS (cV E) 3 (nI 0)) c + cnt (inS (cV E) 3 (nI 1)) c + cnt (inS (cV E) 3 (nI 2)) c + cnt (inS (cV E) 3 (nI 3)) c + cnt (inS (cV E) 3 (nI 4)) c = cnt (resT (rV M)) c := by
    rw [cntS_eq (rE_v hR) (by decide) (Nat.le_refl c), cntS_eq (rE_v hR) (by decide) (Nat.le_refl c), cntS_eq (rE_v hR) (by decide) (Nat.le_refl c), cntS_eq (rE_v hR) (by decide) (Nat.le_refl c), cntS_eq (rE_v hR) (by decide) (Nat.le_refl c)]
    exact res_sum c (fun k hk e => (vV1_of hV hk).2.2.2.1 (by rw [show rV M k 2 = 3 from e]; decide))
  rw [e2, hc]
  refine ⟨f1, f2, hr _ ⟨rfl, fun _ => ?_, inv_t 0 hI⟩⟩
  have : ∀ x, vf_upd zd (0 : Int32).toNatClampNeg x (0 : Int32).toNatClampNeg = x := fun x => if_pos rfl
  rw [this]
  exact ⟨f2, f3⟩
def full (L Q : Nat → Nat) (a b : Nat) : Bool := decide (L b < L a) || (decide (L a = L b) && (decide (Q b < Q a) || (decide (Q a = Q b) && decide (a < b))))
theorem sub_0 {a b : Nat} (ha : a < 1000) (hb : b < 1000) : nI a - nI b = 0 ↔ a = b := by
  rw [← Int32.toInt_inj, Int32.toInt_sub, nI_toInt (by omega), nI_toInt (by omega), Int32.toInt_zero, Int.bmod_eq_of_le (by omega) (by omega)]
  omega
theorem sub_le {a b : Nat} (ha : a < 1000) (hb : b < 1000) : nI a - nI b ≤ 0 ↔ a ≤ b := by
  rw [Int32.le_iff_toInt_le, Int32.toInt_sub, nI_toInt (by omega), nI_toInt (by omega), Int32.toInt_zero, Int.bmod_eq_of_le (by omega) (by omega)]
  omega
theorem half_n : ∀ x, x < 15 → nI x / 2 = nI (x / 2) := by decide +kernel
theorem s3_ranks {post : Int32 → Prop} {o : Off} {c a b : Nat} (hc : o 0 0 = nI c) (h14 : c ≤ 14) (ha : a < 5) (hb : b < 5) (h : post (bI (full (fun d => cnt (inS (cV o) 3 (nI d)) c) (fun d => cnt (prd (cV o) (nI d)) c / 2) a b))) : wp_X3_ranksAhead post o (nI a) (nI b) := by
  unfold wp_X3_ranksAhead
  refine s3_countOf hc h14 (s3_countOf hc h14 (fun v3 e3 => ?_))
  subst e3
  have l1 := cnt_le (inS (cV o) 3 (nI a)) c
  have l2 := cnt_le (inS (cV o) 3 (nI b)) c
  have q1 := cnt_le (prd (cV o) (nI a)) c
  have q2 := cnt_le (prd (cV o) (nI b)) c
  rw [sub_0 (by omega) (by omega), sub_le (by omega) (by omega)]
  unfold full at h
  simp only [] at h
  by_cases e1 : cnt (inS (cV o) 3 (nI a)) c = cnt (inS (cV o) 3 (nI b)) c
  · refine iT e1 (s3_pairsIn hc h14 (s3_pairsIn hc h14 (fun v6 e6 => ?_)))
    rw [half_n _ (by omega), half_n _ (by omega)] at e6
    subst e6
    rw [sub_0 (by omega) (by omega), sub_le (by omega) (by omega)]
    rw [decide_eq_false (show ¬ cnt (inS (cV o) 3 (nI b)) c < cnt (inS (cV o) 3 (nI a)) c by omega), decide_eq_true e1, Bool.false_or, Bool.true_and] at h
    by_cases e2 : cnt (prd (cV o) (nI a)) c / 2 = cnt (prd (cV o) (nI b)) c / 2
    · refine iT e2 ?_
      rw [nI_lei (by omega) (by omega)]
      rw [decide_eq_false (show ¬ cnt (prd (cV o) (nI b)) c / 2 < cnt (prd (cV o) (nI a)) c / 2 by omega), decide_eq_true e2, Bool.false_or, Bool.true_and] at h
      by_cases e3 : a < b
      · rw [decide_eq_true e3] at h
        exact iF (by omega) h
      · rw [decide_eq_false e3] at h
        exact iT (by omega) h
    · refine iF e2 ?_
      rw [decide_eq_false e2, Bool.false_and, Bool.or_false] at h
      by_cases e3 : cnt (prd (cV o) (nI a)) c / 2 ≤ cnt (prd (cV o) (nI b)) c / 2
      · rw [decide_eq_false (by omega)] at h
        exact iT e3 h
      · rw [decide_eq_true (by omega)] at h
        exact iF e3 h
  · refine iF e1 ?_
    rw [decide_eq_false e1, Bool.false_and, Bool.or_false] at h
    by_cases e3 : cnt (inS (cV o) 3 (nI a)) c ≤ cnt (inS (cV o) 3 (nI b)) c
    · rw [decide_eq_false (by omega)] at h
      exact iT e3 h
    · rw [decide_eq_true (by omega)] at h
      exact iF e3 h
theorem s5_isFuller {post : Int32 → Prop} {M : Off} {c a b : Nat} (hm : M 1 0 = nI c) (h14 : c ≤ 14) (ha : a < 5) (hb : b < 5) (h : post (bI (full (fun d => cnt (inS (rV M) 3 (nI d)) c) (fun d => cnt (prR (rV M) (nI d)) c / 2) a b))) : wp_X5_isFuller post M (nI a) (nI b) := by
  unfold wp_X5_isFuller
  have l1 := cnt_le (inS (rV M) 3 (nI a)) c
  have l2 := cnt_le (inS (rV M) 3 (nI b)) c
  have q1 := cnt_le (prR (rV M) (nI a)) c
  have q2 := cnt_le (prR (rV M) (nI b)) c
  unfold full at h
  simp only [] at h
  refine s5_livingIn hm h14 (s5_livingIn hm h14 ?_)
  rw [nI_eqi (by omega) (by omega)]
  by_cases e1 : cnt (inS (rV M) 3 (nI a)) c = cnt (inS (rV M) 3 (nI b)) c
  · refine iT e1 (s5_pairsIn hm h14 (s5_pairsIn hm h14 ?_))
    rw [half_n _ (by omega), half_n _ (by omega), nI_lti (by omega) (by omega)]
    rw [decide_eq_false (show ¬ cnt (inS (rV M) 3 (nI b)) c < cnt (inS (rV M) 3 (nI a)) c by omega), decide_eq_true e1, Bool.false_or, Bool.true_and] at h
    by_cases e2 : cnt (prR (rV M) (nI b)) c / 2 < cnt (prR (rV M) (nI a)) c / 2
    · rw [decide_eq_true e2, Bool.true_or] at h
      exact iT e2 h
    · refine iF e2 (s5_pairsIn hm h14 (s5_pairsIn hm h14 ?_))
      rw [half_n _ (by omega), half_n _ (by omega), nI_eqi (by omega) (by omega)]
      rw [decide_eq_false e2, Bool.false_or] at h
      by_cases e3 : cnt (prR (rV M) (nI a)) c / 2 = cnt (prR (rV M) (nI b)) c / 2
      · refine jT e3 ?_
        rw [nI_lei (by omega) (by omega)]
        rw [decide_eq_true e3, Bool.true_and] at h
        by_cases e4 : a < b
        · rw [decide_eq_true e4] at h
          exact iF (by omega) h
        · rw [decide_eq_false e4] at h
          exact iT (by omega) h
      · rw [decide_eq_false e3, Bool.false_and] at h
        exact jF e3 h
  · refine iF e1 (s5_livingIn hm h14 (s5_livingIn hm h14 ?_))
    rw [nI_lei (by omega) (by omega)]
    rw [decide_eq_false e1, Bool.false_and, Bool.or_false] at h
    by_cases e3 : cnt (inS (rV M) 3 (nI a)) c ≤ cnt (inS (rV M) 3 (nI b)) c
    · rw [decide_eq_false (by omega)] at h
      exact iT e3 h
    · rw [decide_eq_true (by omega)] at h
      exact iF e3 h
theorem i5le {k : Nat} (h : k < 1000) : (5 : Int32) ≤ nI k ↔ 5 ≤ k := by rw [show (5 : Int32) = nI 5 from rfl, nI_lei (by omega) (by omega)]
theorem s3_rankedAhead {post : Int32 → Prop} {o : Off} {c a : Nat} (hc : o 0 0 = nI c) (h14 : c ≤ 14) (ha : a < 5) (h : post (nI (cnt (fun y => full (fun d => cnt (inS (cV o) 3 (nI d)) c) (fun d => cnt (prd (cV o) (nI d)) c / 2) y a) 5))) : wp_X3_rankedAhead post o (nI a) := by
  suffices hl : ∀ r k : Nat, k + r = 5 → wl_X3_rankedAhead_4 post o (r + 1) (nI a) (nI (cnt (fun y => full (fun d => cnt (inS (cV o) 3 (nI d)) c) (fun d => cnt (prd (cV o) (nI d)) c / 2) y a) k)) (nI k) from ⟨6, hl 5 0 rfl⟩
  intro r
  induction r with
  | zero =>
    intro k hk
    rw [wl_X3_rankedAhead_4, i5le (by omega), show k = 5 by omega]
    exact iT (Nat.le_refl _) h
  | succ r ih =>
    intro k hk
    have ih := ih (k + 1) (by omega)
    rw [wl_X3_rankedAhead_4, i5le (by omega)]
    refine iF (by omega) (s3_ranks hc h14 (by omega) ha ?_)
    simp (disch := omega) only [nI_add1, forall_eq]
    cases hb : full (fun d => cnt (inS (cV o) 3 (nI d)) c) (fun d => cnt (prd (cV o) (nI d)) c / 2) k a
    · rw [cnt_f (by simp [hb])] at ih
      exact b00 ih
    · rw [cnt_t (by simp [hb])] at ih
      exact b10 ih
def rkD (L Q : Nat → Nat) (p : Int32) : Int32 := fstF (fun a => decide (nI (cnt (fun y => full L Q y a) 5) = p)) 5 0
theorem s3_rankedDrawer {post : Int32 → Prop} {o : Off} {c : Nat} {p : Int32} (hc : o 0 0 = nI c) (h14 : c ≤ 14) (h : post (rkD (fun d => cnt (inS (cV o) 3 (nI d)) c) (fun d => cnt (prd (cV o) (nI d)) c / 2) p)) : wp_X3_rankedDrawer post o p := by
  unfold rkD at h
  suffices hl : ∀ r k : Nat, k + r = 5 → post (fstF (fun a => decide (nI (cnt (fun y => full (fun d => cnt (inS (cV o) 3 (nI d)) c) (fun d => cnt (prd (cV o) (nI d)) c / 2) y a) 5) = p)) r k) → wl_X3_rankedDrawer_2 post o (r + 1) p (nI k) from ⟨6, hl 5 0 rfl h⟩
  intro r
  induction r with
  | zero =>
    intro k hk h
    rw [wl_X3_rankedDrawer_2, i5le (by omega)]
    exact iT (by omega) h
  | succ r ih =>
    intro k hk h
    rw [fstF] at h
    rw [wl_X3_rankedDrawer_2, i5le (by omega)]
    refine iF (by omega) (s3_rankedAhead hc h14 (by omega) ?_)
    simp (disch := omega) only [nI_add1, forall_eq]
    by_cases e : nI (cnt (fun y => full (fun d => cnt (inS (cV o) 3 (nI d)) c) (fun d => cnt (prd (cV o) (nI d)) c / 2) y k) 5) = p
    · rw [if_pos (decide_eq_true e)] at h
      exact jT e h
    · rw [if_neg (by simp only [decide_eq_true_eq]; exact e)] at h
      exact jF e (ih (k + 1) (by omega) h)
theorem full_eq {L L2 Q Q2 : Nat → Nat} {a b : Nat} (ha : L a = L2 a) (hb : L b = L2 b) (qa : Q a = Q2 a) (qb : Q b = Q2 b) : full L Q a b = full L2 Q2 a b := by
  unfold full
  rw [ha, hb, qa, qb]
theorem op_46 {j : Nat} {E M : Off} {z : Nat → Int64} {zd : Nat → UInt64} {a1 a2 a3 : Int32} (hj : j < 512) (hI : inv j E M) : wc_46 (lwInv (j + 1)) E M z zd a1 a2 a3 := by
  obtain ⟨c, T, hc, hm, h14, hR, hV⟩ := inv_c hI
  have hm2 : (st M 0 5 0) 1 0 = nI c := hm
  have hin : ∀ (Q : Int32 → Off → Prop) (K : Off → Int32 → Int32 → Prop) (a : Nat), a < 5 → ((¬ nI (cnt (fun y => full (fun d => cnt (inS (rV M) 3 (nI d)) c) (fun d => cnt (prR (rV M) (nI d)) c / 2) y a) 5) = a1 → K (st M 0 5 0) a1 (nI (a + 1))) ∧ (nI (cnt (fun y => full (fun d => cnt (inS (rV M) 3 (nI d)) c) (fun d => cnt (prR (rV M) (nI d)) c / 2) y a) 5) = a1 → Q (nI a) (st M 0 5 0))) → wl_X5_drawerByResidents_17 Q K 6 (st M 0 5 0) a1 (nI a) 0 0 := by
    intro Q K a ha h
    suffices hl : ∀ r k : Nat, k + r = 5 → wl_X5_drawerByResidents_17 Q K (r + 1) (st M 0 5 0) a1 (nI a) (nI (cnt (fun y => full (fun d => cnt (inS (rV M) 3 (nI d)) c) (fun d => cnt (prR (rV M) (nI d)) c / 2) y a) k)) (nI k) from hl 5 0 rfl
    intro r
    induction r with
    | zero =>
      intro k hk
      rw [wl_X5_drawerByResidents_17, i5le (by omega), show k = 5 by omega]
      refine iT (Nat.le_refl _) ⟨fun y v4 e4 => ?_, h.2⟩
      rw [nI_add1] at e4
      subst e4
      exact h.1 y
    | succ r ih =>
      intro k hk
      have ih := ih (k + 1) (by omega)
      rw [wl_X5_drawerByResidents_17, i5le (by omega)]
      refine iF (by omega) (s5_isFuller hm2 h14 (by omega) ha ?_)
      simp (disch := omega) only [nI_add1, nI_add0, forall_eq]
      cases hb : full (fun d => cnt (inS (rV M) 3 (nI d)) c) (fun d => cnt (prR (rV M) (nI d)) c / 2) k a
      · rw [cnt_f (by simp [hb])] at ih
        have hb2 : full (fun d => cnt (inS (rV (st M 0 5 0)) 3 (nI d)) c) (fun d => cnt (prR (rV (st M 0 5 0)) (nI d)) c / 2) k a = false := hb
        rw [hb2]
        exact b00 ih
      · rw [cnt_t (by simp [hb])] at ih
        have hb2 : full (fun d => cnt (inS (rV (st M 0 5 0)) 3 (nI d)) c) (fun d => cnt (prR (rV (st M 0 5 0)) (nI d)) c / 2) k a = true := hb
        rw [hb2]
        exact b10 ih
  have hr : ∀ (Q : Int32 → Off → Prop), (∀ r k : Nat, k + r = 5 → ((fstF (fun a => decide (nI (cnt (fun y => full (fun d => cnt (inS (rV M) 3 (nI d)) c) (fun d => cnt (prR (rV M) (nI d)) c / 2) y a) 5) = a1)) r k = -1 → Q 0 (st (st M 0 5 0) 0 5 1)) ∧ (∀ i, fstF (fun a => decide (nI (cnt (fun y => full (fun d => cnt (inS (rV M) 3 (nI d)) c) (fun d => cnt (prR (rV M) (nI d)) c / 2) y a) 5) = a1)) r k = nI i → i < 5 → Q (nI i) (st M 0 5 0))) → wl_X5_drawerByResidents_7 Q (r + 1) (st M 0 5 0) a1 (nI k)) := by
    intro Q r
    induction r with
    | zero =>
      intro k hk h
      rw [wl_X5_drawerByResidents_7, i5le (by omega)]
      refine iT (by omega) (fun o1 e1 => ?_)
      subst e1
      exact h.1 rfl
    | succ r ih =>
      intro k hk h
      rw [fstF] at h
      rw [wl_X5_drawerByResidents_7, i5le (by omega)]
      refine iF (by omega) ⟨6, hin _ _ k (by omega) ⟨fun y => ?_, fun y => ?_⟩⟩
      · rw [if_neg (by simp only [decide_eq_true_eq]; exact y)] at h
        exact ih (k + 1) (by omega) h
      · rw [if_pos (decide_eq_true y)] at h
        exact h.2 k rfl (by omega)
  have hrk : rkD (fun d => cnt (inS (cV E) 3 (nI d)) c) (fun d => cnt (prd (cV E) (nI d)) c / 2) a1 = rkD (fun d => cnt (inS (rV M) 3 (nI d)) c) (fun d => cnt (prR (rV M) (nI d)) c / 2) a1 := by
    have hL : ∀ d, cnt (inS (cV E) 3 (nI d)) c = cnt (inS (rV M) 3 (nI d)) c := fun d => cntS_eq (rE_v hR) (by decide) (Nat.le_refl c)
    have hQ : ∀ d, cnt (prd (cV E) (nI d)) c / 2 = cnt (prR (rV M) (nI d)) c / 2 := fun d => by rw [cntP_eq hR hV]; rfl
    have e1 : (fun d => cnt (inS (cV E) 3 (nI d)) c) = (fun d => cnt (inS (rV M) 3 (nI d)) c) := funext hL
    have e2 : (fun d => cnt (prd (cV E) (nI d)) c / 2) = (fun d => cnt (prR (rV M) (nI d)) c / 2) := funext hQ
    rw [e1, e2]
  refine s3_rankedDrawer hc h14 ?_
  rw [hrk]
  unfold rkD
  have hw : ∀ (Q : Int32 → Off → Prop), ((fstF (fun a => decide (nI (cnt (fun y => full (fun d => cnt (inS (rV M) 3 (nI d)) c) (fun d => cnt (prR (rV M) (nI d)) c / 2) y a) 5) = a1)) 5 0 = -1 → Q 0 (st (st M 0 5 0) 0 5 1)) ∧ (∀ i, fstF (fun a => decide (nI (cnt (fun y => full (fun d => cnt (inS (rV M) 3 (nI d)) c) (fun d => cnt (prR (rV M) (nI d)) c / 2) y a) 5) = a1)) 5 0 = nI i → i < 5 → Q (nI i) (st M 0 5 0))) → wp_X5_drawerByResidents Q M a1 := fun Q h o1 e1 => by
    subst e1
    exact ⟨6, hr Q 5 0 rfl h⟩
  rcases fstF_v (P := fun a => decide (nI (cnt (fun y => full (fun d => cnt (inS (rV M) 3 (nI d)) c) (fun d => cnt (prR (rV M) (nI d)) c / 2) y a) 5) = a1)) (c := 5) with e | ⟨i, hi, -, e⟩
  · rw [e]
    refine iT rfl (l01 ⟨rfl, hw _ ⟨fun _ => fin_x i1ne (by simp [st_at]) (inv_tt 0 1 hI), fun i y hi => ?_⟩⟩)
    rw [e] at y
    exact absurd y.symm (fun q => (nI_eqm (by omega)).mp q)
  · rw [e]
    refine iF (fun y => (nI_eqm (by omega)).mp y) (l11 (hw _ ⟨fun y => ?_, fun i2 y hi2 => ?_⟩))
    · rw [e] at y
      exact absurd y (fun q => (nI_eqm (by omega)).mp q)
    · rw [e] at y
      exact fin_i (by simp [st_at]) y (inv_t 0 hI)
