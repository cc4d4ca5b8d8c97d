/-! ===== the calls that read, second part ===== -/
theorem fit_eq {v w : vW} {c a b : Nat} (h : vE v w c) (ha : a < c) (hb : b < c) : fit v a b = fit w a b := by
  obtain ⟨a0, a1, -⟩ := h a ha
  obtain ⟨b0, b1, -⟩ := h b hb
  unfold fit
  rw [a0, a1, b0, b1]
theorem op_12 {j : Nat} {E M : Off} {z : Nat → Int64} {zd : Nat → UInt64} {a1 a2 a3 : Int32} (hI : inv j E M) : wc_12 (lwInv (j + 1)) E M z zd a1 a2 a3 := by
  obtain ⟨c, T, hc, hm, h14, hR, hV⟩ := inv_c hI
  cases hs : isS a1 c
  · refine s4_sock_f hc hs ⟨rfl, s5_isSock hm h14 ?_⟩
    rw [hs]
    exact ⟨fun _ => s5_checked (b := false) ⟨fun _ => fin_x i1ne rfl (inv_t 1 hI), fun y => absurd y (by decide)⟩, fun y => absurd rfl y⟩
  · obtain ⟨a, ha, rfl⟩ := isS_c hs h14
    refine s4_sock_t hc hs ?_
    cases hs2 : isS a2 c
    · refine s4_sock_f hc hs2 ⟨rfl, s5_isSock hm h14 ?_⟩
      rw [hs]
      refine ⟨fun y => absurd y (by decide), fun _ => s5_isSock hm h14 ?_⟩
      rw [hs2]
      exact ⟨fun _ => s5_checked (b := false) ⟨fun _ => fin_x i1ne rfl (inv_t 1 hI), fun y => absurd y (by decide)⟩, fun y => absurd rfl y⟩
    · obtain ⟨b, hb, rfl⟩ := isS_c hs2 h14
      refine s4_sock_t hc hs2 (s3_match (by omega) (by omega) ⟨bI_B _, ?_⟩)
      have e := fit_eq (rE_v hR) ha hb
      rw [e]
      cases hf : fit (nV (M 1)) a b
      · refine ⟨fun _ => s5_isSock hm h14 ?_, fun y => absurd rfl y⟩
        rw [hs]
        refine ⟨fun y => absurd y (by decide), fun _ => s5_isSock hm h14 ?_⟩
        rw [hs2]
        refine ⟨fun y => absurd y (by decide), fun _ => s5_checked (b := true) ⟨fun y => absurd rfl y, fun _ => s5_fits (by omega) (by omega) ?_⟩⟩
        rw [show fit (rV (st M 0 5 (bI !true))) a b = false from hf]
        exact ⟨fun _ => fin_b0 rfl (inv_t 0 hI), fun y => absurd rfl y⟩
      · refine ⟨fun y => absurd y (by decide), fun _ => s5_isSock hm h14 ?_⟩
        rw [hs]
        refine ⟨fun y => absurd y (by decide), fun _ => s5_isSock hm h14 ?_⟩
        rw [hs2]
        refine ⟨fun y => absurd y (by decide), fun _ => s5_checked (b := true) ⟨fun y => absurd rfl y, fun _ => s5_fits (by omega) (by omega) ?_⟩⟩
        rw [show fit (rV (st M 0 5 (bI !true))) a b = true from hf]
        exact ⟨fun y => absurd y (by decide), fun _ => fin_b1 rfl (inv_t 0 hI)⟩
theorem op_18 {j : Nat} {E M : Off} {z : Nat → Int64} {zd : Nat → UInt64} {a1 a2 a3 : Int32} (hI : inv j E M) : wc_18 (lwInv (j + 1)) E M z zd a1 a2 a3 := by
  obtain ⟨c, T, hc, hm, h14, hR, hV⟩ := inv_c hI
  cases hs : isD a1
  · exact s4_drawer_f hs (Or.inl ⟨rfl, ckD_f hs (fin_x i1ne rfl (inv_t 1 hI))⟩)
  · refine s4_drawer_t hs (s3_queued hc h14 ?_)
    rw [que_eq (rE_v hR)]
    rcases fstF_v (P := fun k => inS (nV (M 1)) 1 a1 k && decide (nI (ahd (nV (M 1)) c a1 k) = a2)) (c := c) with h | ⟨q, hq, -, h⟩
    · rw [show que (nV (M 1)) c a1 a2 = -1 from h]
      refine ⟨fun _ => ⟨fun y => absurd rfl y, fun _ => Or.inr ⟨rfl, ckD_t hs (s5_inQueue hm h14 ?_)⟩⟩, fun y => absurd rfl y⟩
      rw [show que (rV (st M 0 5 0)) c a1 a2 = -1 from h]
      refine ⟨fun y => absurd y (by decide), fun _ o1 h1 => ?_⟩
      subst h1
      exact fin_x i2ne rfl (inv_tt 0 2 hI)
    · rw [show que (nV (M 1)) c a1 a2 = nI q from h]
      refine ⟨fun y => ((nI_eqm (by omega)).mp y).elim, fun _ => ⟨fun _ => ckD_t hs (s5_inQueue hm h14 ?_), fun y => absurd y (by decide)⟩⟩
      rw [show que (rV (st M 0 5 0)) c a1 a2 = nI q from h]
      exact ⟨fun _ => fin_i rfl rfl (inv_t 0 hI), fun y => absurd ((nI_lei (a := 0) (by omega) (by omega)).mpr (by omega)) y⟩
theorem op_19 {j : Nat} {E M : Off} {z : Nat → Int64} {zd : Nat → UInt64} {a1 a2 a3 : Int32} (hI : inv j E M) : wc_19 (lwInv (j + 1)) E M z zd a1 a2 a3 := by
  obtain ⟨c, T, hc, hm, h14, hR, hV⟩ := inv_c hI
  cases hs : isD a1
  · exact s4_drawer_f hs ⟨rfl, ckD_f hs (fin_x i1ne rfl (inv_t 1 hI))⟩
  · refine s4_drawer_t hs (s3_countOf hc h14 (ckD_t hs (s5_askingFor hm h14 (fin_i rfl ?_ (inv_t 0 hI)))))
    rw [cntS_eq (rE_v hR) (by decide) (Nat.le_refl c)]
    rfl
theorem op_35 {j : Nat} {E M : Off} {z : Nat → Int64} {zd : Nat → UInt64} {a1 a2 a3 : Int32} (hI : inv j E M) : wc_35 (lwInv (j + 1)) E M z zd a1 a2 a3 := by
  obtain ⟨c, T, hc, hm, h14, hR, hV⟩ := inv_c hI
  cases hs : isD a1
  · exact s4_drawer_f hs ⟨rfl, ckD_f hs (fin_x i1ne rfl (inv_t 1 hI))⟩
  · refine s4_drawer_t hs (s3_countOf hc h14 (ckD_t hs (s5_livingIn hm h14 (fin_i rfl ?_ (inv_t 0 hI)))))
    rw [cntS_eq (rE_v hR) (by decide) (Nat.le_refl c)]
    rfl
theorem cntP_eq {o : Off} {n : Nat → Int32} {c T : Nat} {d : Int32} (h : rE o n c) (hv : vN n c T) : cnt (prd (cV o) d) c = cnt (prR (nV n) d) c :=
  cnt_congr fun i hi => prd_eq h hv hi
theorem op_25 {j : Nat} {E M : Off} {z : Nat → Int64} {zd : Nat → UInt64} {a1 a2 a3 : Int32} (hI : inv j E M) : wc_25 (lwInv (j + 1)) E M z zd a1 a2 a3 := by
  obtain ⟨c, T, hc, hm, h14, hR, hV⟩ := inv_c hI
  cases hs : isD a1
  · exact s4_drawer_f hs ⟨rfl, ckD_f hs (fin_x i1ne rfl (inv_t 1 hI))⟩
  · refine s4_drawer_t hs (s3_pairsIn hc h14 (ckD_t hs (s5_pairsIn hm h14 (fin_i rfl ?_ (inv_t 0 hI)))))
    rw [cntP_eq hR hV]
    rfl
theorem op_34 {j : Nat} {E M : Off} {z : Nat → Int64} {zd : Nat → UInt64} {a1 a2 a3 : Int32} (hI : inv j E M) : wc_34 (lwInv (j + 1)) E M z zd a1 a2 a3 := by
  obtain ⟨c, T, hc, hm, h14, hR, hV⟩ := inv_c hI
  cases hs : isD a1
  · exact s4_drawer_f hs ⟨rfl, ckD_f hs (fin_x i1ne rfl (inv_t 1 hI))⟩
  · obtain ⟨d, hd, rfl⟩ := isD_c hs
    refine s4_drawer_t hs ⟨vpk hd (by omega), ckD_t hs ?_⟩
    rw [show (120 : Int32) = nI 120 from rfl, nI_add]
    refine ⟨vpk (by omega) (by omega), ?_⟩
    rw [kc (by omega), kc (by omega)]
    exact fin_i rfl (hR.2.2.2.2.2.2.2.1 d hd).1 (inv_t 0 hI)
theorem s5_resAt_l {post : Int32 → Off → Prop} {M : Off} {d p : Int32} {c : Nat} (hm : M 1 0 = nI c) (h14 : c ≤ 14) (h1 : ∀ j, j < c → post (nI j) M ∨ True) :
    ∀ r k : Nat, k + r = c → (∀ v, v = fstF (fun k => inS (rV M) 3 d k && decide (nI (cnt (inS (rV M) 3 d) k) = p)) r k → (v = -1 → post 0 (st M 0 5 2)) ∧ (¬ v = -1 → post v M)) → wl_X5_residentAt_18 post (r + 1) M d p (nI (cnt (inS (rV M) 3 d) k)) (nI k) := by
  intro r
  induction r with
  | zero =>
    intro k hk hp
    rw [wl_X5_residentAt_18, c0, hm, show k = c by omega]
    refine ⟨i0_160, fun _ o1 e => ?_, fun h => absurd (Int32.le_refl _) h⟩
    subst e
    exact (hp _ rfl).1 rfl
  | succ r ih =>
    intro k hk hp
    have ih := ih (k + 1) (by omega)
    rw [wl_X5_residentAt_18, c0, hm]
    refine ⟨i0_160, fun h => absurd h (nI_ge (by omega) (by omega)), fun _ => s5_livesIn (by omega) ?_⟩
    simp (disch := omega) only [bI_0, nI_add1, forall_eq]
    simp only [fstF] at hp
    cases hb : inS (rV M) 3 d k
    · rw [cnt_f (by simp [hb])] at ih
      simp only [hb, not_true_eq_false, not_false_eq_true, false_implies, true_implies, and_true, true_and, forall_const, reduceCtorEq, Bool.true_and, Bool.false_and, Bool.and_true, Bool.and_false, decide_true, decide_false, if_true, if_false, Bool.true_eq_false, Bool.false_eq_true, Bool.not_true, Bool.not_false, implies_true] at hp ⊢
      exact ih hp
    · rw [cnt_t hb] at ih
      simp only [hb, not_true_eq_false, not_false_eq_true, false_implies, true_implies, and_true, true_and, forall_const, reduceCtorEq, Bool.true_and, Bool.false_and, Bool.and_true, Bool.and_false, decide_true, decide_false, if_true, if_false, Bool.true_eq_false, Bool.false_eq_true, Bool.not_true, Bool.not_false, implies_true] at hp ⊢
      by_cases h2 : nI (cnt (inS (rV M) 3 d) k) = p
      · simp only [h2, not_true_eq_false, not_false_eq_true, false_implies, true_implies, and_true, true_and, forall_const, reduceCtorEq, Bool.true_and, Bool.false_and, Bool.and_true, Bool.and_false, decide_true, decide_false, if_true, if_false, Bool.true_eq_false, Bool.false_eq_true, Bool.not_true, Bool.not_false, implies_true] at hp ⊢
        exact (hp _ rfl).2 (fun y => (nI_eqm (by omega)).mp y)
      · simp only [h2, not_true_eq_false, not_false_eq_true, false_implies, true_implies, and_true, true_and, forall_const, reduceCtorEq, Bool.true_and, Bool.false_and, Bool.and_true, Bool.and_false, decide_true, decide_false, if_true, if_false, Bool.true_eq_false, Bool.false_eq_true, Bool.not_true, Bool.not_false, implies_true] at hp ⊢
        exact ih hp
theorem s5_resAt {post : Int32 → Off → Prop} {M : Off} {d p : Int32} {c : Nat} (hm : M 1 0 = nI c) (h14 : c ≤ 14) (h : (resAt (rV M) c d p = -1 → post 0 (st M 0 5 2)) ∧ (¬ resAt (rV M) c d p = -1 → post (resAt (rV M) c d p) M)) : ∃ m : Nat, wl_X5_residentAt_18 post m M d p 0 0 :=
  ⟨c + 1, s5_resAt_l hm h14 (fun _ _ => Or.inr trivial) c 0 (by omega) (fun v e => by subst e; exact h)⟩
theorem op_36 {j : Nat} {E M : Off} {z : Nat → Int64} {zd : Nat → UInt64} {a1 a2 a3 : Int32} (hI : inv j E M) : wc_36 (lwInv (j + 1)) E M z zd a1 a2 a3 := by
  obtain ⟨c, T, hc, hm, h14, hR, hV⟩ := inv_c hI
  cases hs : isD a1
  · exact s4_drawer_f hs (Or.inl ⟨rfl, ckD_f hs (fin_x i1ne rfl (inv_t 1 hI))⟩)
  · refine s4_drawer_t hs (s3_resident hc h14 ?_)
    rw [resAt_eq (rE_v hR)]
    by_cases h : resAt (nV (M 1)) c a1 a2 = -1
    · rw [h]
      exact ⟨fun _ => ⟨fun y => absurd rfl y, fun _ => Or.inr ⟨rfl, ckD_t hs (s5_resAt hm h14 ⟨fun _ => fin_x i2ne rfl (inv_tt 0 2 hI), fun y => absurd h y⟩)⟩⟩, fun y => absurd rfl y⟩
    · exact ⟨fun y => absurd y h, fun _ => ⟨fun _ => ckD_t hs (s5_resAt hm h14 ⟨fun y => absurd y h, fun _ => fin_i rfl rfl (inv_t 0 hI)⟩), fun y => absurd y (by decide)⟩⟩
theorem op_40 {j : Nat} {E M : Off} {z : Nat → Int64} {zd : Nat → UInt64} {a1 a2 a3 : Int32} (hI : inv j E M) : wc_40 (lwInv (j + 1)) E M z zd a1 a2 a3 := by
  obtain ⟨c, T, hc, hm, h14, hR, hV⟩ := inv_c hI
  refine ⟨vp_in_d (by decide), fun o1 h1 => ?_⟩
  subst h1
  exact ⟨hR.2.2.1, inv_t 0 hI⟩
theorem op_42 {j : Nat} {E M : Off} {z : Nat → Int64} {zd : Nat → UInt64} {a1 a2 a3 : Int32} (hI : inv j E M) : wc_42 (lwInv (j + 1)) E M z zd a1 a2 a3 := by
  obtain ⟨c, T, hc, hm, h14, hR, hV⟩ := inv_c hI
  refine ⟨vp_in_d (by decide), fun o1 h1 => ?_⟩
  subst h1
  exact ⟨hR.2.2.2.1, inv_t 0 hI⟩
theorem op_43 {j : Nat} {E M : Off} {z : Nat → Int64} {zd : Nat → UInt64} {a1 a2 a3 : Int32} (hI : inv j E M) : wc_43 (lwInv (j + 1)) E M z zd a1 a2 a3 := by
  obtain ⟨c, T, hc, hm, h14, hR, hV⟩ := inv_c hI
  refine ⟨vp_in_d (by decide), fun o1 h1 => ?_⟩
  subst h1
  exact ⟨hR.2.2.2.2.1, inv_t 0 hI⟩
theorem op_44 {j : Nat} {E M : Off} {z : Nat → Int64} {zd : Nat → UInt64} {a1 a2 a3 : Int32} (hI : inv j E M) : wc_44 (lwInv (j + 1)) E M z zd a1 a2 a3 := by
  obtain ⟨c, T, hc, hm, h14, hR, hV⟩ := inv_c hI
  refine ⟨vp_in_d (by decide), fun o1 h1 => ?_⟩
  subst h1
  exact ⟨hR.2.2.2.2.2.1, inv_t 0 hI⟩
theorem op_45 {j : Nat} {E M : Off} {z : Nat → Int64} {zd : Nat → UInt64} {a1 a2 a3 : Int32} (hI : inv j E M) : wc_45 (lwInv (j + 1)) E M z zd a1 a2 a3 := by
  obtain ⟨c, T, hc, hm, h14, hR, hV⟩ := inv_c hI
  refine ⟨vp_in_d (by decide), vp_in_d (by decide), fun o1 h1 => ?_⟩
  subst h1
  refine ⟨?_, inv_t 0 hI⟩
  rw [hR.2.2.2.1, hR.2.2.2.2.2.1]
  rfl
theorem inv_l {j : Nat} {E M : Off} (h : inv j E M) : iL E M := by
  obtain ⟨len, T, h0, h1, h2, h3, h4, -⟩ := h
  exact h4
theorem s5_present {post : Int32 → Off → Prop} {M : Off} {b : Bool} {p : Int32} (h : post (if b = true then p else 0) (st M 0 5 (bI (!b)))) : wp_X5_present post M (bI b) p := by
  refine s5_checked ?_
  cases b
  · exact ⟨fun y => absurd y (by decide), fun _ => h⟩
  · exact ⟨fun _ => h, fun y => absurd (by decide) y⟩
theorem nI_le0 {r : Nat} (h : r < 2147483648) : nI r ≤ 0 ↔ nI r = 0 := by
  rw [show (0 : Int32) = nI 0 from rfl, nI_lei h (by omega), nI_eqi h (by omega)]
  omega
theorem op_54 {j : Nat} {E M : Off} {z : Nat → Int64} {zd : Nat → UInt64} {a1 a2 a3 : Int32} (hI : inv j E M) : wc_54 (lwInv (j + 1)) E M z zd a1 a2 a3 := by
  obtain ⟨c, T, hc, hm, h14, hR, hV⟩ := inv_c hI
  obtain ⟨l1, l2, l3, l4, l5, l6⟩ := inv_l hI
  have hl : M 0 7 < 0 ↔ M 0 7 = -1 := by
    rcases l6 with e | ⟨w, hw, e⟩
    · rw [e]; decide
    · rw [e, show (0 : Int32) = nI 0 from rfl, nI_lti (by omega) (by omega), nI_eqm (by omega)]
      exact ⟨fun y => by omega, False.elim⟩
  by_cases h : M 0 7 = -1
  · exact ⟨fun _ => ⟨fun y => absurd rfl y, fun _ => ⟨rfl, fun _ => s5_present (b := false) (fin_x i1ne rfl (inv_t 1 hI)), fun y => absurd (hl.mpr h) y⟩⟩, fun y => absurd (l4.trans h) y⟩
  · exact ⟨fun y => absurd (l4.symm.trans y) h, fun _ => ⟨fun _ => ⟨fun y => absurd (hl.mp y) h, fun _ => s5_present (b := true) (fin_i rfl l4 (inv_t 0 hI))⟩, fun y => absurd y (by decide)⟩⟩
theorem op_55 {j : Nat} {E M : Off} {z : Nat → Int64} {zd : Nat → UInt64} {a1 a2 a3 : Int32} (hI : inv j E M) : wc_55 (lwInv (j + 1)) E M z zd a1 a2 a3 := by
  obtain ⟨c, T, hc, hm, h14, hR, hV⟩ := inv_c hI
  obtain ⟨l1, l2, l3, l4, ⟨r, l5, e5⟩, l6⟩ := inv_l hI
  have hl : M 0 8 ≤ 0 ↔ M 0 8 = 0 := by rw [e5]; exact nI_le0 (by omega)
  by_cases h : M 0 8 = 0
  · exact ⟨fun _ => ⟨fun y => absurd rfl y, fun _ => ⟨rfl, fun _ => s5_present (b := false) (fin_x i1ne rfl (inv_t 1 hI)), fun y => absurd (hl.mpr h) y⟩⟩, fun y => absurd (l1.trans h) y⟩
  · exact ⟨fun y => absurd (l1.symm.trans y) h, fun _ => ⟨fun _ => ⟨fun y => absurd (hl.mp y) h, fun _ => s5_present (b := true) (fin_i rfl l1 (inv_t 0 hI))⟩, fun y => absurd y (by decide)⟩⟩
theorem op_56 {j : Nat} {E M : Off} {z : Nat → Int64} {zd : Nat → UInt64} {a1 a2 a3 : Int32} (hI : inv j E M) : wc_56 (lwInv (j + 1)) E M z zd a1 a2 a3 := by
  obtain ⟨c, T, hc, hm, h14, hR, hV⟩ := inv_c hI
  obtain ⟨l1, l2, l3, l4, ⟨r, l5, e5⟩, l6⟩ := inv_l hI
  have hl : M 0 8 ≤ 0 ↔ M 0 8 = 0 := by rw [e5]; exact nI_le0 (by omega)
  by_cases h : M 0 8 = 0
  · exact ⟨fun _ => ⟨fun y => absurd rfl y, fun _ => ⟨rfl, fun _ => s5_present (b := false) (fin_x i1ne rfl (inv_t 1 hI)), fun y => absurd (hl.mpr h) y⟩⟩, fun y => absurd (l1.trans h) y⟩
  · exact ⟨fun y => absurd (l1.symm.trans y) h, fun _ => ⟨fun _ => ⟨fun y => absurd (hl.mp y) h, fun _ => s5_present (b := true) (fin_i rfl l2 (inv_t 0 hI))⟩, fun y => absurd y (by decide)⟩⟩
theorem op_57 {j : Nat} {E M : Off} {z : Nat → Int64} {zd : Nat → UInt64} {a1 a2 a3 : Int32} (hI : inv j E M) : wc_57 (lwInv (j + 1)) E M z zd a1 a2 a3 := by
  obtain ⟨c, T, hc, hm, h14, hR, hV⟩ := inv_c hI
  obtain ⟨l1, l2, l3, l4, l5, l6⟩ := inv_l hI
  by_cases h : M 0 8 = 17
  · exact ⟨fun y => absurd (l1.trans h) y, fun _ => ⟨fun _ => ⟨fun y => absurd h y, fun _ => s5_present (b := true) (fin_i rfl l3 (inv_t 0 hI))⟩, fun y => absurd y (by decide)⟩⟩
  · exact ⟨fun _ => ⟨fun y => absurd rfl y, fun _ => ⟨rfl, fun _ => s5_present (b := false) (fin_x i1ne rfl (inv_t 1 hI)), fun y => absurd y h⟩⟩, fun y => absurd (l1.symm.trans y) h⟩
