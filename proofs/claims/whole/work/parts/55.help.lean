/-! ===== small steps of the calls that read ===== -/
theorem put_self (E : Off) (n : Nat) : put E 0 n E = E := by
  funext k
  unfold put
  split
  · rfl
  · rfl
theorem put_at (E : Off) (n w : Nat) (o : Off) (k : Nat) : put E n w o k = if n ≤ k ∧ k < n + w then o (k - n) else E k := rfl
theorem rq_m1 {post : Off → Prop} {px : Nat → Off → Prop} {o : Off} (h : px 3 o) : wp_X4_require post px o (-1) :=
  ⟨fun _ => ⟨fun z => absurd rfl z, fun _ => h⟩, fun z => absurd rfl z⟩
theorem im21 : ((-2 : Int32) = -1) ↔ False := by decide
theorem im31 : ((-3 : Int32) = -1) ↔ False := by decide
theorem im32 : ((-3 : Int32) = -2) ↔ False := by decide
theorem rq_m2 {post : Off → Prop} {px : Nat → Off → Prop} {o : Off} (h : px 1 o) : wp_X4_require post px o (-2) := by
  unfold wp_X4_require wj_X4_require_11 wp_X4_requireIndex wj_X4_require_26 wp_X4_requireArgument
  simp only [im21, i10, not_true_eq_false, not_false_eq_true, false_implies, true_implies, and_true, true_and, forall_const, reduceCtorEq, Bool.true_and, Bool.false_and, Bool.and_true, Bool.and_false, decide_true, decide_false, if_true, if_false, Bool.true_eq_false, Bool.false_eq_true, Bool.not_true, Bool.not_false, implies_true]
  exact h
theorem rq_m3 {post : Off → Prop} {px : Nat → Off → Prop} {o : Off} (h : px 5 o) : wp_X4_require post px o (-3) := by
  unfold wp_X4_require wj_X4_require_11 wp_X4_requireIndex wj_X4_require_26 wp_X4_requireArgument wj_X4_require_41 wp_X4_requireElement
  simp only [im31, im32, i10, not_true_eq_false, not_false_eq_true, false_implies, true_implies, and_true, true_and, forall_const, reduceCtorEq, Bool.true_and, Bool.false_and, Bool.and_true, Bool.and_false, decide_true, decide_false, if_true, if_false, Bool.true_eq_false, Bool.false_eq_true, Bool.not_true, Bool.not_false, implies_true]
  exact h
theorem rq_0 {post : Off → Prop} {px : Nat → Off → Prop} {o : Off} (h : post o) : wp_X4_require post px o 0 := by
  unfold wp_X4_require wj_X4_require_11 wp_X4_requireIndex wj_X4_require_26 wp_X4_requireArgument wj_X4_require_41 wp_X4_requireElement
  simp only [show ((0 : Int32) = -1) ↔ False from by decide, show ((0 : Int32) = -2) ↔ False from by decide, show ((0 : Int32) = -3) ↔ False from by decide, i10, not_true_eq_false, not_false_eq_true, false_implies, true_implies, and_true, true_and, forall_const, reduceCtorEq, Bool.true_and, Bool.false_and, Bool.and_true, Bool.and_false, decide_true, decide_false, if_true, if_false, Bool.true_eq_false, Bool.false_eq_true, Bool.not_true, Bool.not_false, implies_true]
  exact h
def rjE (o : Off) (r d : Int32) : Off := st (st (st o 13 6 r) 13 7 d) 13 8 0
theorem rq_r {post : Off → Prop} {px : Nat → Off → Prop} {o : Off} {r : Nat} (h0 : 1 ≤ r) (h1 : r ≤ 17) (h : px 4 (rjE o (nI r) (o 12 0))) : wp_X4_require post px o (nI r) := by
  have e1 : (nI r = -1) ↔ False := nI_eqm (by omega)
  have e2 : (nI r = -2) ↔ False := ⟨fun z => by
    have h1 := nI_toInt (n := r) (by omega)
    rw [z, show (-2 : Int32).toInt = -2 from rfl] at h1
    omega, False.elim⟩
  have e3 : (nI r = -3) ↔ False := ⟨fun z => by
    have h1 := nI_toInt (n := r) (by omega)
    rw [z, show (-3 : Int32).toInt = -3 from rfl] at h1
    omega, False.elim⟩
  have e4 : (nI r = 0) ↔ False := by
    rw [show (0 : Int32) = nI 0 from rfl, nI_eqi (by omega) (by omega)]
    exact ⟨fun z => by omega, False.elim⟩
  unfold wp_X4_require wj_X4_require_11 wp_X4_requireIndex wj_X4_require_26 wp_X4_requireArgument wj_X4_require_41 wp_X4_requireElement wp_X4_reject
  simp only [e1, e2, e3, e4, i10, not_true_eq_false, not_false_eq_true, false_implies, true_implies, and_true, true_and, forall_const, reduceCtorEq, Bool.true_and, Bool.false_and, Bool.and_true, Bool.and_false, decide_true, decide_false, if_true, if_false, Bool.true_eq_false, Bool.false_eq_true, Bool.not_true, Bool.not_false, implies_true]
  intro o1 h1 o2 h2 o3 h3
  subst h1; subst h2; subst h3
  exact h
theorem s4_sock_t {post : Off → Prop} {px : Nat → Off → Prop} {E : Off} {p : Int32} {c : Nat} (hc : E 0 0 = nI c) (hs : isS p c = true) (h : post E) : wp_X4_requireSock post px E p := by
  refine s3_isSock hc ?_
  unfold isS at hs
  rw [hs]
  exact ⟨fun _ => h, fun z => by cases z⟩
theorem s4_sock_f {post : Off → Prop} {px : Nat → Off → Prop} {E : Off} {p : Int32} {c : Nat} (hc : E 0 0 = nI c) (hs : isS p c = false) (h : px 3 E) : wp_X4_requireSock post px E p := by
  refine s3_isSock hc ?_
  unfold isS at hs
  rw [hs]
  exact ⟨fun z => absurd rfl z, fun _ => h⟩
theorem s4_drawer_t {post : Off → Prop} {px : Nat → Off → Prop} {E : Off} {p : Int32} (hs : isD p = true) (h : post E) : wp_X4_requireDrawer post px E p := by
  refine s3_isDrawer ?_
  unfold isD at hs
  rw [hs]
  exact ⟨fun _ => h, fun z => by cases z⟩
theorem s4_drawer_f {post : Off → Prop} {px : Nat → Off → Prop} {E : Off} {p : Int32} (hs : isD p = false) (h : px 3 E) : wp_X4_requireDrawer post px E p := by
  refine s3_isDrawer ?_
  unfold isD at hs
  rw [hs]
  exact ⟨fun z => absurd rfl z, fun _ => h⟩
theorem fin_i {K : Prop} {z : Nat → Int64} {v w : Int32} {M1 : Off} (ht : M1 0 5 = 0) (e : v = w) (h : K) : wp_X5_thrown (fun t => (t = 0 ∧ (((0 : Int32) = 0 → lg_cmp (vp_updL z (0 : Int32).toNatClampNeg v.toInt64 (0 : Int32).toNatClampNeg) w.toInt64 = 0) ∧ K))) M1 :=
  ⟨ht, fun _ => by rw [e, updL_at]; exact cmp_self _, h⟩
theorem fin_x {K X : Prop} {n : Int32} {M1 : Off} (hn : ¬ n = 0) (ht : M1 0 5 = n) (h : K) : wp_X5_thrown (fun t => (t = n ∧ ((n = 0 → X) ∧ K))) M1 := ⟨ht, fun e => absurd e hn, h⟩
theorem fin_b0 {K : Prop} {z : Nat → Int64} {M1 : Off} (ht : M1 0 5 = 0) (h : K) : wp_X5_thrown (fun t => (t = 0 ∧ (((0 : Int32) = 0 → (((0 : Int32) = 0 → lg_cmp (vp_updL z (0 : Int32).toNatClampNeg 0 (0 : Int32).toNatClampNeg) 0 = 0) ∧ (¬ (0 : Int32) = 0 → lg_cmp (vp_updL z (0 : Int32).toNatClampNeg 0 (0 : Int32).toNatClampNeg) 1 = 0))) ∧ K))) M1 :=
  ⟨ht, fun _ => ⟨fun _ => by rw [updL_at]; exact cmp_self _, fun z => absurd rfl z⟩, h⟩
theorem fin_b1 {K : Prop} {z : Nat → Int64} {M1 : Off} (ht : M1 0 5 = 0) (h : K) : wp_X5_thrown (fun t => (t = 0 ∧ (((0 : Int32) = 0 → (((1 : Int32) = 0 → lg_cmp (vp_updL z (0 : Int32).toNatClampNeg 1 (0 : Int32).toNatClampNeg) 0 = 0) ∧ (¬ (1 : Int32) = 0 → lg_cmp (vp_updL z (0 : Int32).toNatClampNeg 1 (0 : Int32).toNatClampNeg) 1 = 0))) ∧ K))) M1 :=
  ⟨ht, fun _ => ⟨fun y => absurd y (by decide), fun _ => by rw [updL_at]; exact cmp_self _⟩, h⟩
theorem ckS_t {P Q : Off → Prop} {M : Off} {p : Int32} {c : Nat} (hm : M 1 0 = nI c) (h14 : c ≤ 14) (hs : isS p c = true) (h : P (st M 0 5 0)) : wp_X5_isSock (fun v1 => wp_X5_checked (fun v3 o2 => ((v3 ≤ 0 → P o2) ∧ (¬ v3 ≤ 0 → Q o2))) M v1) M p :=
  s5_isSock hm h14 (s5_checked (by rw [hs]; exact ⟨fun _ => h, fun z => absurd (by decide) z⟩))
theorem ckS_f {P Q : Off → Prop} {M : Off} {p : Int32} {c : Nat} (hm : M 1 0 = nI c) (h14 : c ≤ 14) (hs : isS p c = false) (h : Q (st M 0 5 1)) : wp_X5_isSock (fun v1 => wp_X5_checked (fun v3 o2 => ((v3 ≤ 0 → P o2) ∧ (¬ v3 ≤ 0 → Q o2))) M v1) M p :=
  s5_isSock hm h14 (s5_checked (by rw [hs]; exact ⟨fun z => absurd z (by decide), fun _ => h⟩))
theorem ckT_t {P Q : Off → Prop} {M : Off} {p : Int32} {c : Nat} (hm : M 1 0 = nI c) (h14 : c ≤ 14) (hs : isS p c = true) (h : P (st M 0 5 0)) : wp_X5_isSock (fun v1 => wp_X5_checked (fun v3 o2 => ((¬ v3 = 0 → Q o2) ∧ (v3 = 0 → P o2))) M v1) M p :=
  s5_isSock hm h14 (s5_checked (by rw [hs]; exact ⟨fun z => absurd rfl z, fun _ => h⟩))
theorem ckT_f {P Q : Off → Prop} {M : Off} {p : Int32} {c : Nat} (hm : M 1 0 = nI c) (h14 : c ≤ 14) (hs : isS p c = false) (h : Q (st M 0 5 1)) : wp_X5_isSock (fun v1 => wp_X5_checked (fun v3 o2 => ((¬ v3 = 0 → Q o2) ∧ (v3 = 0 → P o2))) M v1) M p :=
  s5_isSock hm h14 (s5_checked (by rw [hs]; exact ⟨fun _ => h, fun z => by cases z⟩))
theorem ckD_t {P Q : Off → Prop} {M : Off} {p : Int32} (hs : isD p = true) (h : P (st M 0 5 0)) : wp_X5_isDrawer (fun v1 => wp_X5_checked (fun v3 o2 => ((v3 ≤ 0 → P o2) ∧ (¬ v3 ≤ 0 → Q o2))) M v1) p :=
  s5_isDrawer (s5_checked (by rw [hs]; exact ⟨fun _ => h, fun z => absurd (by decide) z⟩))
theorem ckD_f {P Q : Off → Prop} {M : Off} {p : Int32} (hs : isD p = false) (h : Q (st M 0 5 1)) : wp_X5_isDrawer (fun v1 => wp_X5_checked (fun v3 o2 => ((v3 ≤ 0 → P o2) ∧ (¬ v3 ≤ 0 → Q o2))) M v1) p :=
  s5_isDrawer (s5_checked (by rw [hs]; exact ⟨fun z => absurd z (by decide), fun _ => h⟩))
theorem i1ne : ¬ ((1 : Int32) = 0) := by decide
theorem i2ne : ¬ ((2 : Int32) = 0) := by decide
theorem i3ne : ¬ ((3 : Int32) = 0) := by decide
theorem inv_c {j : Nat} {E M : Off} (h : inv j E M) : ∃ c T, E 0 0 = nI c ∧ M 1 0 = nI c ∧ c ≤ 14 ∧ rE E (M 1) c ∧ vN (M 1) c T := by
  obtain ⟨len, T, h0, ⟨c, hR, hV⟩, -⟩ := h
  exact ⟨c, T, hR.1, hR.2.1, hV.1, hR, hV⟩
theorem inv_t {j : Nat} {E M : Off} (t : Int32) (h : inv j E M) : inv (j + 1) E (st M 0 5 t) := inv_same (sameE_rf E) (sameM_thr M t) h
theorem vpk {k N : Nat} (h : k < N) (hN : N < 2147483648) : vp_in (nI k) N := (vp_in_i (by omega)).mpr h
theorem kc {k : Nat} (h : k < 2147483648) : (nI k).toNatClampNeg = k := nI_clampi h
theorem op_1 {j : Nat} {E M : Off} {z : Nat → Int64} {zd : Nat → UInt64} {a1 a2 a3 : Int32} (hI : inv j E M) : wc_1 (lwInv (j + 1)) E M z zd a1 a2 a3 := by
  obtain ⟨c, T, hc, hm, h14, hR, hV⟩ := inv_c hI
  refine ⟨i0_160, ?_⟩
  intro o1 h1
  subst h1
  refine ⟨?_, inv_t 0 hI⟩
  rw [hc, c0, hm]
theorem op_3 {j : Nat} {E M : Off} {z : Nat → Int64} {zd : Nat → UInt64} {a1 a2 a3 : Int32} (hI : inv j E M) : wc_3 (lwInv (j + 1)) E M z zd a1 a2 a3 := by
  obtain ⟨c, T, hc, hm, h14, hR, hV⟩ := inv_c hI
  cases hs : isS a1 c
  · exact s4_sock_f hc hs ⟨rfl, ckS_f hm h14 hs (fin_x i1ne rfl (inv_t 1 hI))⟩
  · obtain ⟨k, hk, rfl⟩ := isS_c hs h14
    refine s4_sock_t hc hs ⟨vpk (by omega) (by omega), ckS_t hm h14 hs (s5_s (f := 1) (by omega) (by decide) (fin_i rfl ?_ (inv_t 0 hI)))⟩
    rw [kc (by omega)]
    exact (hR.2.2.2.2.2.2.1 k hk).2.1
