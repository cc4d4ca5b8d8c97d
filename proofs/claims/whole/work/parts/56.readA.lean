/-! ===== the calls that read, first part ===== -/
theorem isC32 : isC 32 := by
  have h := u16 32
  rwa [show ((32 : Int32).toUInt32 % 65536).toInt32 = 32 from by decide] at h
theorem inv_tt {j : Nat} {E M : Off} (t u : Int32) (h : inv j E M) : inv (j + 1) E (st (st M 0 5 t) 0 5 u) := inv_same (sameE_rf E) (sameM_tr (sameM_thr M t) (sameM_thr _ u)) h
theorem rE_v {o : Off} {n : Nat → Int32} {c : Nat} (h : rE o n c) : vE (cV o) (nV n) c := h.2.2.2.2.2.2.1
theorem vN_v {n : Nat → Int32} {c T : Nat} (h : vN n c T) : vV (nV n) c T := h.2.1
theorem vE_2 {o : Off} {n : Nat → Int32} {c k : Nat} (h : rE o n c) (hk : k < c) : o 3 k = n (8 + 8 * k + 2) := (rE_v h k hk).2.2.1
theorem vE_7 {o : Off} {n : Nat → Int32} {c k : Nat} (h : rE o n c) (hk : k < c) : o 8 k = n (8 + 8 * k + 7) := (rE_v h k hk).2.2.2.1
theorem par_c {n : Nat → Int32} {c T k : Nat} (h : vN n c T) (hk : k < c) : n (8 + 8 * k + 7) = -1 ∨ ∃ p, p < c ∧ n (8 + 8 * k + 7) = nI p := by
  rcases (vN_v h k hk).2.2.2.2.2.2 with e | ⟨p, hp, e, -⟩
  · exact Or.inl e
  · exact Or.inr ⟨p, hp, e⟩
theorem par_lt {n : Nat → Int32} {c T k : Nat} (h : vN n c T) (hk : k < c) : n (8 + 8 * k + 7) < 0 ↔ n (8 + 8 * k + 7) = -1 := by
  have h14 := h.1
  rcases par_c h hk with e | ⟨p, hp, e⟩
  · rw [e]; decide
  · rw [e, show (0 : Int32) = nI 0 from rfl, nI_lti (by omega) (by omega), nI_eqm (by omega)]
    constructor
    · intro q; omega
    · exact False.elim
theorem inS_eq {v w : vW} {c k : Nat} {s d : Int32} (h : vE v w c) (hs : ¬ s = 0) (hk : k < c) : inS v s d k = inS w s d k := by
  obtain ⟨h0, h1, h2, h7, h3, h4, h5, h6⟩ := h k hk
  unfold inS
  rw [h2]
  by_cases e : w k 2 = s
  · rw [h3 (by rw [e]; exact hs)]
  · simp only [e, false_and]
theorem inS_c {v : vW} {s d : Int32} {k : Nat} (h : inS v s d k = true) : v k 2 = s ∧ v k 3 = d := of_decide_eq_true h
theorem soon_eq {v w : vW} {c a b : Nat} (h : vE v w c) (ha : a < c) (hb : b < c) (h1 : w a 2 = 1) (h2 : w b 2 = 1) : soon v a b = soon w a b := by
  obtain ⟨-, -, -, -, -, ha4, ha5, -⟩ := h a ha
  obtain ⟨-, -, -, -, -, hb4, hb5, -⟩ := h b hb
  unfold soon
  rw [ha4 (Or.inl h1), hb4 (Or.inl h2), ha5 h1, hb5 h2]
theorem ahd_eq {v w : vW} {c k : Nat} {d : Int32} (h : vE v w c) (hk : k < c) (h1 : w k 2 = 1) : ahd v c d k = ahd w c d k := by
  unfold ahd
  refine cnt_congr fun i hi => ?_
  rw [inS_eq h (by decide) hi]
  cases e : inS w 1 d i
  · simp only [Bool.false_and]
  · rw [soon_eq h hi hk (inS_c e).1 h1]
theorem que_eq {v w : vW} {c : Nat} {d p : Int32} (h : vE v w c) : que v c d p = que w c d p := by
  unfold que
  refine fstF_congr _ _ fun i _ hi => ?_
  have hi : i < c := by omega
  rw [inS_eq h (by decide) hi]
  cases e : inS w 1 d i
  · simp only [Bool.false_and]
  · rw [ahd_eq h hi (inS_c e).1]
theorem cntS_eq {v w : vW} {c b : Nat} {s d : Int32} (h : vE v w c) (hs : ¬ s = 0) (hb : b ≤ c) : cnt (inS v s d) b = cnt (inS w s d) b :=
  cnt_congr fun i hi => inS_eq h hs (by omega)
theorem resAt_eq {v w : vW} {c : Nat} {d p : Int32} (h : vE v w c) : resAt v c d p = resAt w c d p := by
  unfold resAt
  refine fstF_congr _ _ fun i _ hi => ?_
  have hi : i < c := by omega
  rw [inS_eq h (by decide) hi, cntS_eq h (by decide) (Nat.le_of_lt hi)]
theorem prd_eq {o : Off} {n : Nat → Int32} {c T k : Nat} {d : Int32} (h : rE o n c) (hv : vN n c T) (hk : k < c) : prd (cV o) d k = prR (nV n) d k := by
  unfold prd prR
  rw [inS_eq (rE_v h) (by decide) hk]
  congr 2
  have e : cV o k 7 = nV n k 7 := (rE_v h k hk).2.2.2.1
  rw [e]
  exact decide_eq_decide.mpr (par_lt hv hk).symm
theorem fstF_v {P : Nat → Bool} {c : Nat} : fstF P c 0 = -1 ∨ ∃ j, j < c ∧ P j = true ∧ fstF P c 0 = nI j := by
  rcases fstF_cases (P := P) c 0 with ⟨h, -⟩ | ⟨j, -, h2, h3, h4, -⟩
  · exact Or.inl h
  · exact Or.inr ⟨j, by omega, h3, h4⟩
theorem s3_hasApp {post : Int32 → Prop} {o : Off} {k : Nat} (hk : k < 14) (h : post (bI (decide (o 3 k = 1) || decide (o 3 k = 2)))) : wp_X3_hasApplication post o (nI k) := by
  unfold wp_X3_hasApplication
  rw [kc (by omega)]
  by_cases h1 : o 3 k = 1
  · rw [decide_eq_true h1] at h
    exact ⟨vpk hk (by omega), fun _ => h, fun y => absurd h1 y⟩
  · rw [decide_eq_false h1] at h
    refine ⟨vpk hk (by omega), fun y => absurd y h1, fun _ => ⟨vpk hk (by omega), ?_⟩⟩
    by_cases h2 : o 3 k = 2
    · rw [decide_eq_true h2] at h
      exact ⟨fun y => absurd h2 y, fun _ => h⟩
    · rw [decide_eq_false h2] at h
      exact ⟨fun _ => h, fun y => absurd y h2⟩
theorem op_2 {j : Nat} {E M : Off} {z : Nat → Int64} {zd : Nat → UInt64} {a1 a2 a3 : Int32} (hI : inv j E M) : wc_2 (lwInv (j + 1)) E M z zd a1 a2 a3 := by
  obtain ⟨c, T, hc, hm, h14, hR, hV⟩ := inv_c hI
  cases hs : isS a1 c
  · exact s4_sock_f hc hs ⟨rfl, ckS_f hm h14 hs ⟨isC32, fin_x i1ne rfl (inv_t 1 hI)⟩⟩
  · obtain ⟨k, hk, rfl⟩ := isS_c hs h14
    refine s4_sock_t hc hs (s3_colourAt (by omega) ⟨u16 _, ckS_t hm h14 hs (s5_s (f := 0) (by omega) (by decide) ⟨u16 _, fin_i rfl ?_ (inv_t 0 hI)⟩)⟩)
    unfold u16F
    rw [show E 1 k = rV (st M 0 5 0) k 0 from (rE_v hR k hk).1]
theorem op_4 {j : Nat} {E M : Off} {z : Nat → Int64} {zd : Nat → UInt64} {a1 a2 a3 : Int32} (hI : inv j E M) : wc_4 (lwInv (j + 1)) E M z zd a1 a2 a3 := by
  obtain ⟨c, T, hc, hm, h14, hR, hV⟩ := inv_c hI
  cases hs : isS a1 c
  · exact s4_sock_f hc hs ⟨rfl, ckT_f hm h14 hs (fin_x i1ne rfl (inv_t 1 hI))⟩
  · obtain ⟨k, hk, rfl⟩ := isS_c hs h14
    have e := vE_2 hR hk
    refine s4_sock_t hc hs ⟨vpk (by omega) (by omega), ?_⟩
    rw [kc (by omega)]
    by_cases hq : rV M k 2 = 0
    · refine ⟨fun y => absurd (e.trans hq) y, fun _ => ⟨fun y => absurd y (by decide), fun _ => ckT_t hm h14 hs (s5_is (by omega) ?_)⟩⟩
      rw [decide_eq_true (show rV (st M 0 5 0) k 2 = 0 from hq)]
      exact ⟨fun y => absurd y (by decide), fun _ => fin_b1 rfl (inv_t 0 hI)⟩
    · refine ⟨fun _ => ⟨fun _ => ckT_t hm h14 hs (s5_is (by omega) ?_), fun y => absurd rfl y⟩, fun y => absurd (e.symm.trans y) hq⟩
      rw [decide_eq_false (show ¬ rV (st M 0 5 0) k 2 = 0 from hq)]
      exact ⟨fun _ => fin_b0 rfl (inv_t 0 hI), fun y => absurd rfl y⟩
theorem op_5 {j : Nat} {E M : Off} {z : Nat → Int64} {zd : Nat → UInt64} {a1 a2 a3 : Int32} (hI : inv j E M) : wc_5 (lwInv (j + 1)) E M z zd a1 a2 a3 := by
  obtain ⟨c, T, hc, hm, h14, hR, hV⟩ := inv_c hI
  cases hs : isS a1 c
  · exact s4_sock_f hc hs ⟨rfl, ckT_f hm h14 hs (fin_x i1ne rfl (inv_t 1 hI))⟩
  · obtain ⟨k, hk, rfl⟩ := isS_c hs h14
    have e := vE_2 hR hk
    refine s4_sock_t hc hs ⟨vpk (by omega) (by omega), ?_⟩
    rw [kc (by omega)]
    by_cases hq : rV M k 2 = 1
    · refine ⟨fun y => absurd (e.trans hq) y, fun _ => ⟨fun y => absurd y (by decide), fun _ => ckT_t hm h14 hs (s5_is (by omega) ?_)⟩⟩
      rw [decide_eq_true (show rV (st M 0 5 0) k 2 = 1 from hq)]
      exact ⟨fun y => absurd y (by decide), fun _ => fin_b1 rfl (inv_t 0 hI)⟩
    · refine ⟨fun _ => ⟨fun _ => ckT_t hm h14 hs (s5_is (by omega) ?_), fun y => absurd rfl y⟩, fun y => absurd (e.symm.trans y) hq⟩
      rw [decide_eq_false (show ¬ rV (st M 0 5 0) k 2 = 1 from hq)]
      exact ⟨fun _ => fin_b0 rfl (inv_t 0 hI), fun y => absurd rfl y⟩
theorem op_6 {j : Nat} {E M : Off} {z : Nat → Int64} {zd : Nat → UInt64} {a1 a2 a3 : Int32} (hI : inv j E M) : wc_6 (lwInv (j + 1)) E M z zd a1 a2 a3 := by
  obtain ⟨c, T, hc, hm, h14, hR, hV⟩ := inv_c hI
  cases hs : isS a1 c
  · exact s4_sock_f hc hs ⟨rfl, ckT_f hm h14 hs (fin_x i1ne rfl (inv_t 1 hI))⟩
  · obtain ⟨k, hk, rfl⟩ := isS_c hs h14
    have e := vE_2 hR hk
    refine s4_sock_t hc hs ⟨vpk (by omega) (by omega), ?_⟩
    rw [kc (by omega)]
    by_cases hq : rV M k 2 = 2
    · refine ⟨fun y => absurd (e.trans hq) y, fun _ => ⟨fun y => absurd y (by decide), fun _ => ckT_t hm h14 hs (s5_is (by omega) ?_)⟩⟩
      rw [decide_eq_true (show rV (st M 0 5 0) k 2 = 2 from hq)]
      exact ⟨fun y => absurd y (by decide), fun _ => fin_b1 rfl (inv_t 0 hI)⟩
    · refine ⟨fun _ => ⟨fun _ => ckT_t hm h14 hs (s5_is (by omega) ?_), fun y => absurd rfl y⟩, fun y => absurd (e.symm.trans y) hq⟩
      rw [decide_eq_false (show ¬ rV (st M 0 5 0) k 2 = 2 from hq)]
      exact ⟨fun _ => fin_b0 rfl (inv_t 0 hI), fun y => absurd rfl y⟩
theorem op_7 {j : Nat} {E M : Off} {z : Nat → Int64} {zd : Nat → UInt64} {a1 a2 a3 : Int32} (hI : inv j E M) : wc_7 (lwInv (j + 1)) E M z zd a1 a2 a3 := by
  obtain ⟨c, T, hc, hm, h14, hR, hV⟩ := inv_c hI
  cases hs : isS a1 c
  · exact s4_sock_f hc hs ⟨rfl, ckT_f hm h14 hs (fin_x i1ne rfl (inv_t 1 hI))⟩
  · obtain ⟨k, hk, rfl⟩ := isS_c hs h14
    have e := vE_2 hR hk
    refine s4_sock_t hc hs ⟨vpk (by omega) (by omega), ?_⟩
    rw [kc (by omega)]
    by_cases hq : rV M k 2 = 3
    · refine ⟨fun y => absurd (e.trans hq) y, fun _ => ⟨fun y => absurd y (by decide), fun _ => ckT_t hm h14 hs (s5_is (by omega) ?_)⟩⟩
      rw [decide_eq_true (show rV (st M 0 5 0) k 2 = 3 from hq)]
      exact ⟨fun y => absurd y (by decide), fun _ => fin_b1 rfl (inv_t 0 hI)⟩
    · refine ⟨fun _ => ⟨fun _ => ckT_t hm h14 hs (s5_is (by omega) ?_), fun y => absurd rfl y⟩, fun y => absurd (e.symm.trans y) hq⟩
      rw [decide_eq_false (show ¬ rV (st M 0 5 0) k 2 = 3 from hq)]
      exact ⟨fun _ => fin_b0 rfl (inv_t 0 hI), fun y => absurd rfl y⟩
theorem op_8 {j : Nat} {E M : Off} {z : Nat → Int64} {zd : Nat → UInt64} {a1 a2 a3 : Int32} (hI : inv j E M) : wc_8 (lwInv (j + 1)) E M z zd a1 a2 a3 := by
  obtain ⟨c, T, hc, hm, h14, hR, hV⟩ := inv_c hI
  cases hs : isS a1 c
  · exact s4_sock_f hc hs (Or.inl ⟨rfl, ckS_f hm h14 hs (fin_x i1ne rfl (inv_t 1 hI))⟩)
  · obtain ⟨k, hk, rfl⟩ := isS_c hs h14
    have e := vE_2 hR hk
    refine s4_sock_t hc hs ⟨vpk (by omega) (by omega), ?_⟩
    rw [kc (by omega)]
    by_cases hq : rV M k 2 = 0
    · refine ⟨fun _ => ⟨fun y => absurd rfl y, fun _ => Or.inr ⟨rfl, ckS_t hm h14 hs (s5_is (by omega) ?_)⟩⟩, fun y => absurd (e.trans hq) y⟩
      rw [decide_eq_true (show rV (st M 0 5 0) k 2 = 0 from hq)]
      refine ⟨fun _ => ⟨fun _ o1 h1 => ?_, fun y => absurd rfl y⟩, fun y => absurd y (by decide)⟩
      subst h1
      exact fin_x i2ne rfl (inv_tt 0 2 hI)
    · refine ⟨fun y => absurd (e.symm.trans y) hq, fun _ => ⟨fun _ => ⟨vpk (by omega) (by omega), ckS_t hm h14 hs (s5_is (by omega) ?_)⟩, fun y => absurd y (by decide)⟩⟩
      rw [decide_eq_false (show ¬ rV (st M 0 5 0) k 2 = 0 from hq), kc (by omega)]
      exact ⟨fun y => absurd rfl y, fun _ => ⟨fun y => absurd y (by decide), fun _ => s5_s (f := 3) (by omega) (by decide) (fin_i rfl ((rE_v hR k hk).2.2.2.2.1 hq) (inv_t 0 hI))⟩⟩
theorem op_9 {j : Nat} {E M : Off} {z : Nat → Int64} {zd : Nat → UInt64} {a1 a2 a3 : Int32} (hI : inv j E M) : wc_9 (lwInv (j + 1)) E M z zd a1 a2 a3 := by
  obtain ⟨c, T, hc, hm, h14, hR, hV⟩ := inv_c hI
  cases hs : isS a1 c
  · exact s4_sock_f hc hs (Or.inl ⟨rfl, ckS_f hm h14 hs (fin_x i1ne rfl (inv_t 1 hI))⟩)
  · obtain ⟨k, hk, rfl⟩ := isS_c hs h14
    have e := vE_2 hR hk
    refine s4_sock_t hc hs (s3_hasApp (by omega) ?_)
    by_cases hq : rV M k 2 = 1
    · rw [decide_eq_true (e.trans hq), Bool.true_or]
      refine ⟨fun _ => ⟨vpk (by omega) (by omega), ckS_t hm h14 hs (s5_is (by omega) ?_)⟩, fun y => absurd y (by decide)⟩
      rw [decide_eq_true (show rV (st M 0 5 0) k 2 = 1 from hq), kc (by omega)]
      exact ⟨fun _ => ⟨fun y => absurd y (by decide), fun _ => s5_s (f := 4) (by omega) (by decide) (fin_i rfl ((rE_v hR k hk).2.2.2.2.2.1 (Or.inl hq)) (inv_t 0 hI))⟩, fun y => absurd y (by decide)⟩
    · rw [decide_eq_false (show ¬ E 3 k = 1 from fun y => hq (e.symm.trans y))]
      by_cases hq2 : rV M k 2 = 2
      · rw [decide_eq_true (e.trans hq2)]
        refine ⟨fun _ => ⟨vpk (by omega) (by omega), ckS_t hm h14 hs (s5_is (by omega) ?_)⟩, fun y => absurd y (by decide)⟩
        rw [decide_eq_false (show ¬ rV (st M 0 5 0) k 2 = 1 from hq), kc (by omega)]
        refine ⟨fun y => absurd rfl y, fun _ => s5_is (by omega) ?_⟩
        rw [decide_eq_true (show rV (st M 0 5 0) k 2 = 2 from hq2)]
        exact ⟨fun y => absurd y (by decide), fun _ => ⟨fun y => absurd y (by decide), fun _ => s5_s (f := 4) (by omega) (by decide) (fin_i rfl ((rE_v hR k hk).2.2.2.2.2.1 (Or.inr hq2)) (inv_t 0 hI))⟩⟩
      · rw [decide_eq_false (show ¬ E 3 k = 2 from fun y => hq2 (e.symm.trans y))]
        refine ⟨fun y => absurd rfl y, fun _ => Or.inr ⟨rfl, ckS_t hm h14 hs (s5_is (by omega) ?_)⟩⟩
        rw [decide_eq_false (show ¬ rV (st M 0 5 0) k 2 = 1 from hq)]
        refine ⟨fun y => absurd rfl y, fun _ => s5_is (by omega) ?_⟩
        rw [decide_eq_false (show ¬ rV (st M 0 5 0) k 2 = 2 from hq2)]
        refine ⟨fun _ => ⟨fun _ o1 h1 => ?_, fun y => absurd rfl y⟩, fun y => absurd rfl y⟩
        subst h1
        exact fin_x i2ne rfl (inv_tt 0 2 hI)
theorem op_10 {j : Nat} {E M : Off} {z : Nat → Int64} {zd : Nat → UInt64} {a1 a2 a3 : Int32} (hI : inv j E M) : wc_10 (lwInv (j + 1)) E M z zd a1 a2 a3 := by
  obtain ⟨c, T, hc, hm, h14, hR, hV⟩ := inv_c hI
  cases hs : isS a1 c
  · exact s4_sock_f hc hs (Or.inl ⟨rfl, ckS_f hm h14 hs (fin_x i1ne rfl (inv_t 1 hI))⟩)
  · obtain ⟨k, hk, rfl⟩ := isS_c hs h14
    have e := vE_2 hR hk
    refine s4_sock_t hc hs ⟨vpk (by omega) (by omega), ?_⟩
    rw [kc (by omega)]
    by_cases hq : rV M k 2 = 3
    · refine ⟨fun y => absurd (e.trans hq) y, fun _ => ⟨fun _ => ⟨vpk (by omega) (by omega), ckS_t hm h14 hs (s5_is (by omega) ?_)⟩, fun y => absurd y (by decide)⟩⟩
      rw [decide_eq_true (show rV (st M 0 5 0) k 2 = 3 from hq), kc (by omega)]
      exact ⟨fun y => absurd y (by decide), fun _ => s5_s (f := 6) (by omega) (by decide) (fin_i rfl ((rE_v hR k hk).2.2.2.2.2.2.2 hq) (inv_t 0 hI))⟩
    · refine ⟨fun _ => ⟨fun y => absurd rfl y, fun _ => Or.inr ⟨rfl, ckS_t hm h14 hs (s5_is (by omega) ?_)⟩⟩, fun y => absurd (e.symm.trans y) hq⟩
      rw [decide_eq_false (show ¬ rV (st M 0 5 0) k 2 = 3 from hq)]
      refine ⟨fun _ o1 h1 => ?_, fun y => absurd rfl y⟩
      subst h1
      exact fin_x i2ne rfl (inv_tt 0 2 hI)
theorem op_11 {j : Nat} {E M : Off} {z : Nat → Int64} {zd : Nat → UInt64} {a1 a2 a3 : Int32} (hI : inv j E M) : wc_11 (lwInv (j + 1)) E M z zd a1 a2 a3 := by
  obtain ⟨c, T, hc, hm, h14, hR, hV⟩ := inv_c hI
  cases hs : isS a1 c
  · exact s4_sock_f hc hs (Or.inl ⟨rfl, ckS_f hm h14 hs (fin_x i1ne rfl (inv_t 1 hI))⟩)
  · obtain ⟨k, hk, rfl⟩ := isS_c hs h14
    have e := vE_7 hR hk
    have hl := par_lt hV hk
    refine s4_sock_t hc hs ⟨vpk (by omega) (by omega), ?_⟩
    rw [kc (by omega)]
    by_cases hq : rV M k 7 = -1
    · refine ⟨fun _ => ⟨fun y => absurd rfl y, fun _ => Or.inr ⟨rfl, ckS_t hm h14 hs (s5_isPaired (by omega) ?_)⟩⟩, fun y => absurd (e.trans hq) y⟩
      rw [decide_eq_true (show rV (st M 0 5 0) k 7 < 0 from hl.mpr hq)]
      refine ⟨fun _ o1 h1 => ?_, fun y => absurd rfl y⟩
      subst h1
      exact fin_x i2ne rfl (inv_tt 0 2 hI)
    · refine ⟨fun y => absurd (e.symm.trans y) hq, fun _ => ⟨fun _ => ⟨vpk (by omega) (by omega), ckS_t hm h14 hs (s5_isPaired (by omega) ?_)⟩, fun y => absurd y (by decide)⟩⟩
      rw [decide_eq_false (show ¬ rV (st M 0 5 0) k 7 < 0 from fun y => hq (hl.mp y)), kc (by omega)]
      exact ⟨fun y => absurd y (by decide), fun _ => s5_s (f := 7) (by omega) (by decide) (fin_i rfl e (inv_t 0 hI))⟩
