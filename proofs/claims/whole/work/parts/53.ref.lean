/-! ===== the reference's methods, by pictures ===== -/
def rV (M : Off) : vW := fun k f => M 1 (8 + 8 * k + f)
def bitF (p : Int32) : Int32 := if p = 114 then 1 else if p = 103 then 2 else if p = 98 then 4 else if p = 119 then 8 else 0
def shutF (bits p : Int32) : Bool := decide (0 < (bits &&& bitF p))
def prR (v : vW) (d : Int32) (k : Nat) : Bool := inS v 3 d k && !decide (v k 7 < 0)
theorem i0_160 : vp_in (0 : Int32) 160 := vp_in_d (by decide)
theorem c0 : (0 : Int32).toNatClampNeg = 0 := by decide
theorem c1 : (1 : Int32).toNatClampNeg = 1 := by decide
theorem c2 : (2 : Int32).toNatClampNeg = 2 := by decide
theorem c3 : (3 : Int32).toNatClampNeg = 3 := by decide
theorem vp1 : vp_in (1 : Int32) 160 := vp_in_d (by decide)
theorem vp2 : vp_in (2 : Int32) 160 := vp_in_d (by decide)
theorem vp3 : vp_in (3 : Int32) 160 := vp_in_d (by decide)
theorem ix_sock {k f : Nat} : (8 : Int32) + 8 * nI k + nI f = nI (8 + 8 * k + f) := by
  rw [show (8 : Int32) = nI 8 from rfl, nI_mul, nI_add, nI_add]
theorem s5_s {post : Int32 → Prop} {M : Off} {k f : Nat} (hk : k < 14) (hf : f < 8) (h : post (rV M k f)) : wp_X5_s post M (nI k) (nI f) := by
  unfold wp_X5_s
  rw [ix_sock, vp_in_i (by omega), nI_clampi (by omega)]
  exact ⟨by omega, h⟩
def rset (M : Off) (k f : Nat) (v : Int32) : Off := st M 1 (8 + 8 * k + f) v
theorem s5_set {post : Off → Prop} {M : Off} {k f : Nat} {v : Int32} (hk : k < 14) (hf : f < 8) (h : post (rset M k f v)) : wp_X5_set post M (nI k) (nI f) v := by
  unfold wp_X5_set
  rw [ix_sock, vp_in_i (by omega), nI_clampi (by omega)]
  exact ⟨by omega, fun o e => by subst e; exact h⟩
def raway (M : Off) (k : Nat) : Off := rset (rset (rset (rset (rset (rset M k 2 0) k 3 0) k 4 0) k 5 0) k 6 0) k 7 (-1)
theorem s5_sendsAway {post : Off → Prop} {M : Off} {k : Nat} (hk : k < 14) (h : post (raway M k)) : wp_X5_sendsAway post M (nI k) :=
  s5_set (f := 2) hk (by decide) (s5_set (f := 3) hk (by decide) (s5_set (f := 4) hk (by decide) (s5_set (f := 5) hk (by decide) (s5_set (f := 6) hk (by decide) (s5_set (f := 7) hk (by decide) h)))))
theorem s5_is {post : Int32 → Prop} {M : Off} {k : Nat} {w : Int32} (hk : k < 14) (h : post (bI (decide (rV M k 2 = w)))) : wp_X5_is post M (nI k) w := by
  refine s5_s (f := 2) hk (by decide) ?_
  by_cases hb : rV M k 2 = w <;> simp only [hb, not_true_eq_false, not_false_eq_true, false_implies, true_implies, and_true, true_and, forall_const, reduceCtorEq, Bool.true_and, Bool.false_and, Bool.and_true, Bool.and_false, decide_true, decide_false, if_true, if_false, Bool.true_eq_false, Bool.false_eq_true, Bool.not_true, Bool.not_false, implies_true] at h ⊢ <;> exact h
theorem s5_livesIn {post : Int32 → Prop} {M : Off} {k : Nat} {d : Int32} (hk : k < 14) (h : post (bI (inS (rV M) 3 d k))) : wp_X5_livesIn post M (nI k) d := by
  refine s5_is hk ?_
  simp only [bI_0]
  unfold inS at h
  by_cases hb : rV M k 2 = 3
  · rw [decide_eq_true hb]
    refine ⟨fun z => (by cases z), fun _ => s5_s (f := 3) hk (by decide) ?_⟩
    by_cases hd : rV M k 3 = d <;> simp only [hb, hd, not_true_eq_false, not_false_eq_true, false_implies, true_implies, and_true, true_and, forall_const, reduceCtorEq, Bool.true_and, Bool.false_and, Bool.and_true, Bool.and_false, decide_true, decide_false, if_true, if_false, Bool.true_eq_false, Bool.false_eq_true, Bool.not_true, Bool.not_false, implies_true] at h ⊢ <;> exact h
  · rw [decide_eq_false hb]
    simp only [hb, not_true_eq_false, not_false_eq_true, false_implies, true_implies, and_true, true_and, forall_const, reduceCtorEq, Bool.true_and, Bool.false_and, Bool.and_true, Bool.and_false, decide_true, decide_false, if_true, if_false, Bool.true_eq_false, Bool.false_eq_true, Bool.not_true, Bool.not_false, implies_true, false_and] at h ⊢
    exact h
theorem s5_asksFor {post : Int32 → Prop} {M : Off} {k : Nat} {d : Int32} (hk : k < 14) (h : post (bI (inS (rV M) 1 d k))) : wp_X5_asksFor post M (nI k) d := by
  refine s5_is hk ?_
  simp only [bI_0]
  unfold inS at h
  by_cases hb : rV M k 2 = 1
  · rw [decide_eq_true hb]
    refine ⟨fun z => (by cases z), fun _ => s5_s (f := 3) hk (by decide) ?_⟩
    by_cases hd : rV M k 3 = d <;> simp only [hb, hd, not_true_eq_false, not_false_eq_true, false_implies, true_implies, and_true, true_and, forall_const, reduceCtorEq, Bool.true_and, Bool.false_and, Bool.and_true, Bool.and_false, decide_true, decide_false, if_true, if_false, Bool.true_eq_false, Bool.false_eq_true, Bool.not_true, Bool.not_false, implies_true] at h ⊢ <;> exact h
  · rw [decide_eq_false hb]
    simp only [hb, not_true_eq_false, not_false_eq_true, false_implies, true_implies, and_true, true_and, forall_const, reduceCtorEq, Bool.true_and, Bool.false_and, Bool.and_true, Bool.and_false, decide_true, decide_false, if_true, if_false, Bool.true_eq_false, Bool.false_eq_true, Bool.not_true, Bool.not_false, implies_true, false_and] at h ⊢
    exact h
theorem s5_isPaired {post : Int32 → Prop} {M : Off} {k : Nat} (hk : k < 14) (h : post (bI (!decide (rV M k 7 < 0)))) : wp_X5_isPaired post M (nI k) := by
  refine s5_s (f := 7) hk (by decide) ?_
  by_cases hb : rV M k 7 < 0 <;> simp only [hb, not_true_eq_false, not_false_eq_true, false_implies, true_implies, and_true, true_and, forall_const, reduceCtorEq, Bool.true_and, Bool.false_and, Bool.and_true, Bool.and_false, decide_true, decide_false, if_true, if_false, Bool.true_eq_false, Bool.false_eq_true, Bool.not_true, Bool.not_false, implies_true] at h ⊢ <;> exact h
theorem s5_fits {post : Int32 → Prop} {M : Off} {a b : Nat} (ha : a < 14) (hb : b < 14) (h : post (bI (fit (rV M) a b))) : wp_X5_fits post M (nI a) (nI b) := by
  unfold wp_X5_fits
  rw [nI_eqi (by omega) (by omega)]
  unfold fit at h
  by_cases e : a = b
  · simp only [e, not_true_eq_false, not_false_eq_true, false_implies, true_implies, and_true, true_and, forall_const, reduceCtorEq, Bool.true_and, Bool.false_and, Bool.and_true, Bool.and_false, decide_true, decide_false, if_true, if_false, Bool.true_eq_false, Bool.false_eq_true, Bool.not_true, Bool.not_false, implies_true, ne_eq] at h ⊢
    exact h
  · simp only [e, not_true_eq_false, not_false_eq_true, false_implies, true_implies, and_true, true_and, forall_const, reduceCtorEq, Bool.true_and, Bool.false_and, Bool.and_true, Bool.and_false, decide_true, decide_false, if_true, if_false, Bool.true_eq_false, Bool.false_eq_true, Bool.not_true, Bool.not_false, implies_true, ne_eq] at h ⊢
    refine s5_s (f := 1) ha (by decide) (s5_s (f := 1) hb (by decide) ?_)
    by_cases e1 : rV M a 1 = rV M b 1
    · simp only [e1, not_true_eq_false, not_false_eq_true, false_implies, true_implies, and_true, true_and, forall_const, reduceCtorEq, Bool.true_and, Bool.false_and, Bool.and_true, Bool.and_false, decide_true, decide_false, if_true, if_false, Bool.true_eq_false, Bool.false_eq_true, Bool.not_true, Bool.not_false, implies_true] at h ⊢
      refine s5_s (f := 0) ha (by decide) (s5_s (f := 0) hb (by decide) ?_)
      by_cases e2 : rV M a 0 = rV M b 0
      · simp only [e2, not_true_eq_false, not_false_eq_true, false_implies, true_implies, and_true, true_and, forall_const, reduceCtorEq, Bool.true_and, Bool.false_and, Bool.and_true, Bool.and_false, decide_true, decide_false, if_true, if_false, Bool.true_eq_false, Bool.false_eq_true, Bool.not_true, Bool.not_false, implies_true, Bool.true_or] at h ⊢
        exact h
      · simp only [e2, not_true_eq_false, not_false_eq_true, false_implies, true_implies, and_true, true_and, forall_const, reduceCtorEq, Bool.true_and, Bool.false_and, Bool.and_true, Bool.and_false, decide_true, decide_false, if_true, if_false, Bool.true_eq_false, Bool.false_eq_true, Bool.not_true, Bool.not_false, implies_true, Bool.false_or] at h ⊢
        refine s5_s (f := 0) ha (by decide) ?_
        by_cases e3 : rV M a 0 = 119
        · simp only [e3, not_true_eq_false, not_false_eq_true, false_implies, true_implies, and_true, true_and, forall_const, reduceCtorEq, Bool.true_and, Bool.false_and, Bool.and_true, Bool.and_false, decide_true, decide_false, if_true, if_false, Bool.true_eq_false, Bool.false_eq_true, Bool.not_true, Bool.not_false, implies_true, Bool.true_or] at h ⊢
          exact h
        · simp only [e3, not_true_eq_false, not_false_eq_true, false_implies, true_implies, and_true, true_and, forall_const, reduceCtorEq, Bool.true_and, Bool.false_and, Bool.and_true, Bool.and_false, decide_true, decide_false, if_true, if_false, Bool.true_eq_false, Bool.false_eq_true, Bool.not_true, Bool.not_false, implies_true, Bool.false_or] at h ⊢
          refine s5_s (f := 0) hb (by decide) ?_
          by_cases e4 : rV M b 0 = 119 <;> simp only [e4, not_true_eq_false, not_false_eq_true, false_implies, true_implies, and_true, true_and, forall_const, reduceCtorEq, Bool.true_and, Bool.false_and, Bool.and_true, Bool.and_false, decide_true, decide_false, if_true, if_false, Bool.true_eq_false, Bool.false_eq_true, Bool.not_true, Bool.not_false, implies_true] at h ⊢ <;> exact h
    · simp only [e1, not_true_eq_false, not_false_eq_true, false_implies, true_implies, and_true, true_and, forall_const, reduceCtorEq, Bool.true_and, Bool.false_and, Bool.and_true, Bool.and_false, decide_true, decide_false, if_true, if_false, Bool.true_eq_false, Bool.false_eq_true, Bool.not_true, Bool.not_false, implies_true] at h ⊢
      exact h
theorem s5_bitOf {post : Int32 → Prop} {p : Int32} (h : post (bitF p)) : wp_X5_bitOf post p := by
  unfold wp_X5_bitOf
  unfold bitF at h
  by_cases h1 : p = 114
  · rw [if_pos h1] at h
    simp only [h1, not_true_eq_false, not_false_eq_true, false_implies, true_implies, and_true, true_and, forall_const, reduceCtorEq, Bool.true_and, Bool.false_and, Bool.and_true, Bool.and_false, decide_true, decide_false, if_true, if_false, Bool.true_eq_false, Bool.false_eq_true, Bool.not_true, Bool.not_false, implies_true]; exact h
  · rw [if_neg h1] at h
    by_cases h2 : p = 103
    · rw [if_pos h2] at h
      simp only [h1, not_true_eq_false, not_false_eq_true, false_implies, true_implies, and_true, true_and, forall_const, reduceCtorEq, Bool.true_and, Bool.false_and, Bool.and_true, Bool.and_false, decide_true, decide_false, if_true, if_false, Bool.true_eq_false, Bool.false_eq_true, Bool.not_true, Bool.not_false, implies_true]
      simp only [h2, not_true_eq_false, not_false_eq_true, false_implies, true_implies, and_true, true_and, forall_const, reduceCtorEq, Bool.true_and, Bool.false_and, Bool.and_true, Bool.and_false, decide_true, decide_false, if_true, if_false, Bool.true_eq_false, Bool.false_eq_true, Bool.not_true, Bool.not_false, implies_true]; exact h
    · rw [if_neg h2] at h
      by_cases h3 : p = 98
      · rw [if_pos h3] at h
        simp only [h1, h2, not_true_eq_false, not_false_eq_true, false_implies, true_implies, and_true, true_and, forall_const, reduceCtorEq, Bool.true_and, Bool.false_and, Bool.and_true, Bool.and_false, decide_true, decide_false, if_true, if_false, Bool.true_eq_false, Bool.false_eq_true, Bool.not_true, Bool.not_false, implies_true]
        simp only [h3, not_true_eq_false, not_false_eq_true, false_implies, true_implies, and_true, true_and, forall_const, reduceCtorEq, Bool.true_and, Bool.false_and, Bool.and_true, Bool.and_false, decide_true, decide_false, if_true, if_false, Bool.true_eq_false, Bool.false_eq_true, Bool.not_true, Bool.not_false, implies_true]; exact h
      · rw [if_neg h3] at h
        by_cases h4 : p = 119
        · rw [if_pos h4] at h
          simp only [h1, h2, h3, not_true_eq_false, not_false_eq_true, false_implies, true_implies, and_true, true_and, forall_const, reduceCtorEq, Bool.true_and, Bool.false_and, Bool.and_true, Bool.and_false, decide_true, decide_false, if_true, if_false, Bool.true_eq_false, Bool.false_eq_true, Bool.not_true, Bool.not_false, implies_true]
          simp only [h4, not_true_eq_false, not_false_eq_true, false_implies, true_implies, and_true, true_and, forall_const, reduceCtorEq, Bool.true_and, Bool.false_and, Bool.and_true, Bool.and_false, decide_true, decide_false, if_true, if_false, Bool.true_eq_false, Bool.false_eq_true, Bool.not_true, Bool.not_false, implies_true]; exact h
        · rw [if_neg h4] at h
          simp only [h1, h2, h3, h4, not_true_eq_false, not_false_eq_true, false_implies, true_implies, and_true, true_and, forall_const, reduceCtorEq, Bool.true_and, Bool.false_and, Bool.and_true, Bool.and_false, decide_true, decide_false, if_true, if_false, Bool.true_eq_false, Bool.false_eq_true, Bool.not_true, Bool.not_false, implies_true]; exact h
theorem s5_isShut {post : Int32 → Prop} {M : Off} {d : Nat} {p : Int32} (hd : d < 5) (h : post (bI (shutF (M 1 (125 + d)) p))) : wp_X5_isShut post M (nI d) p := by
  unfold wp_X5_isShut
  rw [show (125 : Int32) = nI 125 from rfl, nI_add, vp_in_i (by omega), nI_clampi (by omega)]
  refine ⟨by omega, s5_bitOf ?_⟩
  unfold shutF at h
  rw [ile]
  by_cases hb : 0 < (M 1 (125 + d) &&& bitF p) <;> simp only [hb, not_true_eq_false, not_false_eq_true, false_implies, true_implies, and_true, true_and, forall_const, reduceCtorEq, Bool.true_and, Bool.false_and, Bool.and_true, Bool.and_false, decide_true, decide_false, if_true, if_false, Bool.true_eq_false, Bool.false_eq_true, Bool.not_true, Bool.not_false, implies_true] at h ⊢ <;> exact h
theorem nI_add0 (k : Nat) : nI k + 0 = nI k := by rw [show (0 : Int32) = nI 0 from rfl, nI_add]; rfl
theorem s5_livingIn {post : Int32 → Prop} {M : Off} {d : Int32} {c : Nat} (hc : M 1 0 = nI c) (h14 : c ≤ 14) (hp : post (nI (cnt (inS (rV M) 3 d) c))) : wp_X5_livingIn post M d := by
  suffices hl : ∀ r k : Nat, k + r = c → wl_X5_livingIn_4 post M (r + 1) d (nI (cnt (inS (rV M) 3 d) k)) (nI k) from ⟨c + 1, hl c 0 (by omega)⟩
  intro r
  induction r with
  | zero =>
    intro k hk
    rw [wl_X5_livingIn_4, c0, hc, show k = c by omega]
    exact ⟨i0_160, fun _ => hp, fun h => absurd (Int32.le_refl _) h⟩
  | succ r ih =>
    intro k hk
    have ih := ih (k + 1) (by omega)
    rw [wl_X5_livingIn_4, c0, hc]
    refine ⟨i0_160, fun h => absurd h (nI_ge (by omega) (by omega)), fun _ => s5_livesIn (by omega) ?_⟩
    simp (disch := omega) only [bI_0, nI_add1, nI_add0, forall_eq]
    cases hb : inS (rV M) 3 d k
    · rw [cnt_f (by simp [hb])] at ih
      simp only [not_true_eq_false, not_false_eq_true, false_implies, true_implies, and_true, true_and, forall_const, reduceCtorEq, Bool.true_and, Bool.false_and, Bool.and_true, Bool.and_false, decide_true, decide_false, if_true, if_false, Bool.true_eq_false, Bool.false_eq_true, Bool.not_true, Bool.not_false, implies_true]; exact ih
    · rw [cnt_t (by simp [hb])] at ih
      simp only [not_true_eq_false, not_false_eq_true, false_implies, true_implies, and_true, true_and, forall_const, reduceCtorEq, Bool.true_and, Bool.false_and, Bool.and_true, Bool.and_false, decide_true, decide_false, if_true, if_false, Bool.true_eq_false, Bool.false_eq_true, Bool.not_true, Bool.not_false, implies_true]; exact ih
theorem s5_askingFor {post : Int32 → Prop} {M : Off} {d : Int32} {c : Nat} (hc : M 1 0 = nI c) (h14 : c ≤ 14) (hp : post (nI (cnt (inS (rV M) 1 d) c))) : wp_X5_askingFor post M d := by
  suffices hl : ∀ r k : Nat, k + r = c → wl_X5_askingFor_4 post M (r + 1) d (nI (cnt (inS (rV M) 1 d) k)) (nI k) from ⟨c + 1, hl c 0 (by omega)⟩
  intro r
  induction r with
  | zero =>
    intro k hk
    rw [wl_X5_askingFor_4, c0, hc, show k = c by omega]
    exact ⟨i0_160, fun _ => hp, fun h => absurd (Int32.le_refl _) h⟩
  | succ r ih =>
    intro k hk
    have ih := ih (k + 1) (by omega)
    rw [wl_X5_askingFor_4, c0, hc]
    refine ⟨i0_160, fun h => absurd h (nI_ge (by omega) (by omega)), fun _ => s5_asksFor (by omega) ?_⟩
    simp (disch := omega) only [bI_0, nI_add1, nI_add0, forall_eq]
    cases hb : inS (rV M) 1 d k
    · rw [cnt_f (by simp [hb])] at ih
      simp only [not_true_eq_false, not_false_eq_true, false_implies, true_implies, and_true, true_and, forall_const, reduceCtorEq, Bool.true_and, Bool.false_and, Bool.and_true, Bool.and_false, decide_true, decide_false, if_true, if_false, Bool.true_eq_false, Bool.false_eq_true, Bool.not_true, Bool.not_false, implies_true]; exact ih
    · rw [cnt_t (by simp [hb])] at ih
      simp only [not_true_eq_false, not_false_eq_true, false_implies, true_implies, and_true, true_and, forall_const, reduceCtorEq, Bool.true_and, Bool.false_and, Bool.and_true, Bool.and_false, decide_true, decide_false, if_true, if_false, Bool.true_eq_false, Bool.false_eq_true, Bool.not_true, Bool.not_false, implies_true]; exact ih
theorem s5_pairsIn {post : Int32 → Prop} {M : Off} {d : Int32} {c : Nat} (hc : M 1 0 = nI c) (h14 : c ≤ 14) (hp : post (nI (cnt (prR (rV M) d) c) / 2)) : wp_X5_pairsIn post M d := by
  suffices hl : ∀ r k : Nat, k + r = c → wl_X5_pairsIn_4 post M (r + 1) d (nI (cnt (prR (rV M) d) k)) (nI k) from ⟨c + 1, hl c 0 (by omega)⟩
  intro r
  induction r with
  | zero =>
    intro k hk
    rw [wl_X5_pairsIn_4, c0, hc, show k = c by omega]
    exact ⟨i0_160, fun _ => hp, fun h => absurd (Int32.le_refl _) h⟩
  | succ r ih =>
    intro k hk
    have ih := ih (k + 1) (by omega)
    rw [wl_X5_pairsIn_4, c0, hc]
    refine ⟨i0_160, fun h => absurd h (nI_ge (by omega) (by omega)), fun _ => s5_livesIn (by omega) ?_⟩
    simp (disch := omega) only [bI_0, nI_add1, nI_add0, forall_eq]
    cases hb : inS (rV M) 3 d k
    · rw [cnt_f (by simp [prR, hb])] at ih
      simp only [not_true_eq_false, not_false_eq_true, false_implies, true_implies, and_true, true_and, forall_const, reduceCtorEq, Bool.true_and, Bool.false_and, Bool.and_true, Bool.and_false, decide_true, decide_false, if_true, if_false, Bool.true_eq_false, Bool.false_eq_true, Bool.not_true, Bool.not_false, implies_true]; exact ih
    · refine ⟨fun z => (by cases z), fun _ => s5_isPaired (by omega) ?_⟩
      simp only [bI_0]
      by_cases hq : rV M k 7 < 0
      · rw [cnt_f (by simp [prR, hb, hq])] at ih
        simp only [hq, not_true_eq_false, not_false_eq_true, false_implies, true_implies, and_true, true_and, forall_const, reduceCtorEq, Bool.true_and, Bool.false_and, Bool.and_true, Bool.and_false, decide_true, decide_false, if_true, if_false, Bool.true_eq_false, Bool.false_eq_true, Bool.not_true, Bool.not_false, implies_true]; exact ih
      · rw [cnt_t (by simp only [prR, hb, hq, not_true_eq_false, not_false_eq_true, false_implies, true_implies, and_true, true_and, forall_const, reduceCtorEq, Bool.true_and, Bool.false_and, Bool.and_true, Bool.and_false, decide_true, decide_false, if_true, if_false, Bool.true_eq_false, Bool.false_eq_true, Bool.not_true, Bool.not_false, implies_true])] at ih
        simp only [hq, not_true_eq_false, not_false_eq_true, false_implies, true_implies, and_true, true_and, forall_const, reduceCtorEq, Bool.true_and, Bool.false_and, Bool.and_true, Bool.and_false, decide_true, decide_false, if_true, if_false, Bool.true_eq_false, Bool.false_eq_true, Bool.not_true, Bool.not_false, implies_true]; exact ih
theorem s5_sooner {post : Int32 → Prop} {M : Off} {a b : Nat} (ha : a < 14) (hb : b < 14) (h : post (bI (soon (rV M) a b))) : wp_X5_isSooner post M (nI a) (nI b) := by
  unfold wp_X5_isSooner
  refine s5_s (f := 4) ha (by decide) (s5_s (f := 4) hb (by decide) ?_)
  unfold soon at h
  by_cases e1 : rV M a 4 = rV M b 4
  · rw [if_pos e1] at h
    simp only [e1, not_true_eq_false, not_false_eq_true, false_implies, true_implies, and_true, true_and, forall_const, reduceCtorEq, Bool.true_and, Bool.false_and, Bool.and_true, Bool.and_false, decide_true, decide_false, if_true, if_false, Bool.true_eq_false, Bool.false_eq_true, Bool.not_true, Bool.not_false, implies_true]
    refine s5_s (f := 5) ha (by decide) (s5_s (f := 5) hb (by decide) ?_)
    by_cases e2 : rV M a 5 = rV M b 5
    · rw [if_pos e2] at h
      rw [e2]
      have hn : ¬ rV M b 5 < rV M b 5 := fun z => Int32.lt_irrefl z
      refine ⟨fun z => absurd z hn, fun _ => s5_s (f := 5) ha (by decide) (s5_s (f := 5) hb (by decide) ?_)⟩
      rw [nI_lei (by omega) (by omega)]
      refine ⟨fun z => absurd e2 z, fun _ => ?_⟩
      by_cases e3 : a < b
      · rw [decide_eq_true e3] at h
        exact ⟨fun z => absurd z (by omega), fun _ => h⟩
      · rw [decide_eq_false e3] at h
        exact ⟨fun _ => h, fun z => absurd z (by omega)⟩
    · rw [if_neg e2] at h
      by_cases e3 : rV M a 5 < rV M b 5
      · rw [decide_eq_true e3] at h
        exact ⟨fun _ => h, fun z => absurd e3 z⟩
      · rw [decide_eq_false e3] at h
        refine ⟨fun z => absurd z e3, fun _ => s5_s (f := 5) ha (by decide) (s5_s (f := 5) hb (by decide) ?_)⟩
        exact ⟨fun _ => h, fun z => absurd z e2⟩
  · rw [if_neg e1] at h
    refine ⟨fun z => absurd z e1, fun _ => s5_s (f := 4) ha (by decide) (s5_s (f := 4) hb (by decide) ?_)⟩
    rw [ile]
    by_cases e3 : rV M b 4 < rV M a 4 <;> simp only [e3, not_true_eq_false, not_false_eq_true, false_implies, true_implies, and_true, true_and, forall_const, reduceCtorEq, Bool.true_and, Bool.false_and, Bool.and_true, Bool.and_false, decide_true, decide_false, if_true, if_false, Bool.true_eq_false, Bool.false_eq_true, Bool.not_true, Bool.not_false, implies_true] at h ⊢ <;> exact h
theorem s5_inQueue {post : Int32 → Prop} {M : Off} {d p : Int32} {c : Nat} (hc : M 1 0 = nI c) (h14 : c ≤ 14) (hp : post (que (rV M) c d p)) : wp_X5_inQueue post M d p := by
  suffices hl : ∀ r k : Nat, k + r = c → post (fstF (fun k => inS (rV M) 1 d k && decide (nI (ahd (rV M) c d k) = p)) r k) → wl_X5_inQueue_2 post M (r + 1) d p (nI k) from ⟨c + 1, hl c 0 (by omega) hp⟩
  intro r
  induction r with
  | zero =>
    intro k hk hp
    rw [wl_X5_inQueue_2, c0, hc, show k = c by omega]
    exact ⟨i0_160, fun _ => hp, fun h => absurd (Int32.le_refl _) h⟩
  | succ r ih =>
    intro k hk hp
    have ih := ih (k + 1) (by omega)
    rw [wl_X5_inQueue_2, c0, hc]
    refine ⟨i0_160, fun h => absurd h (nI_ge (by omega) (by omega)), fun _ => s5_asksFor (by omega) ?_⟩
    rw [fstF] at hp
    simp (disch := omega) only [bI_0, nI_add1, forall_eq]
    cases hb : inS (rV M) 1 d k
    · simp only [hb, not_true_eq_false, not_false_eq_true, false_implies, true_implies, and_true, true_and, forall_const, reduceCtorEq, Bool.true_and, Bool.false_and, Bool.and_true, Bool.and_false, decide_true, decide_false, if_true, if_false, Bool.true_eq_false, Bool.false_eq_true, Bool.not_true, Bool.not_false, implies_true] at hp ⊢
      exact ih hp
    · simp only [hb, not_true_eq_false, not_false_eq_true, false_implies, true_implies, and_true, true_and, forall_const, reduceCtorEq, Bool.true_and, Bool.false_and, Bool.and_true, Bool.and_false, decide_true, decide_false, if_true, if_false, Bool.true_eq_false, Bool.false_eq_true, Bool.not_true, Bool.not_false, implies_true] at hp ⊢
      suffices hl2 : ∀ r2 i : Nat, i + r2 = c → wl_X5_inQueue_30 post M (fun x1 x2 x3 => wl_X5_inQueue_2 post M (r + 1) x1 x2 x3) (r2 + 1) d p (nI k) (nI (cnt (fun j => inS (rV M) 1 d j && soon (rV M) j k) i)) (nI i) from ⟨c + 1, hl2 c 0 (by omega)⟩
      intro r2
      induction r2 with
      | zero =>
        intro i hi
        rw [wl_X5_inQueue_30, c0, hc, show i = c by omega]
        refine ⟨i0_160, fun _ => ?_, fun h => absurd (Int32.le_refl _) h⟩
        simp (disch := omega) only [nI_add1, forall_eq]
        by_cases h2 : nI (ahd (rV M) c d k) = p
        · simp only [h2, not_true_eq_false, not_false_eq_true, false_implies, true_implies, and_true, true_and, forall_const, reduceCtorEq, Bool.true_and, Bool.false_and, Bool.and_true, Bool.and_false, decide_true, decide_false, if_true, if_false, Bool.true_eq_false, Bool.false_eq_true, Bool.not_true, Bool.not_false, implies_true] at hp
          exact ⟨fun z => absurd h2 z, fun _ => hp⟩
        · simp only [h2, not_true_eq_false, not_false_eq_true, false_implies, true_implies, and_true, true_and, forall_const, reduceCtorEq, Bool.true_and, Bool.false_and, Bool.and_true, Bool.and_false, decide_true, decide_false, if_true, if_false, Bool.true_eq_false, Bool.false_eq_true, Bool.not_true, Bool.not_false, implies_true] at hp
          exact ⟨fun _ => ih hp, fun z => absurd z h2⟩
      | succ r2 ih2 =>
        intro i hi
        have ih2 := ih2 (i + 1) (by omega)
        rw [wl_X5_inQueue_30, c0, hc]
        refine ⟨i0_160, fun h => absurd h (nI_ge (by omega) (by omega)), fun _ => s5_asksFor (by omega) ?_⟩
        simp (disch := omega) only [bI_0, nI_add1, nI_add0, forall_eq]
        cases hb2 : inS (rV M) 1 d i
        · rw [cnt_f (by simp [hb2])] at ih2
          simp only [not_true_eq_false, not_false_eq_true, false_implies, true_implies, and_true, true_and, forall_const, reduceCtorEq, Bool.true_and, Bool.false_and, Bool.and_true, Bool.and_false, decide_true, decide_false, if_true, if_false, Bool.true_eq_false, Bool.false_eq_true, Bool.not_true, Bool.not_false, implies_true]; exact ih2
        · refine ⟨fun z => (by cases z), fun _ => s5_sooner (by omega) (by omega) ?_⟩
          simp only [bI_0]
          cases hs : soon (rV M) i k
          · rw [cnt_f (by simp [hb2, hs])] at ih2
            simp only [not_true_eq_false, not_false_eq_true, false_implies, true_implies, and_true, true_and, forall_const, reduceCtorEq, Bool.true_and, Bool.false_and, Bool.and_true, Bool.and_false, decide_true, decide_false, if_true, if_false, Bool.true_eq_false, Bool.false_eq_true, Bool.not_true, Bool.not_false, implies_true]; exact ih2
          · rw [cnt_t (by simp [hb2, hs])] at ih2
            simp only [not_true_eq_false, not_false_eq_true, false_implies, true_implies, and_true, true_and, forall_const, reduceCtorEq, Bool.true_and, Bool.false_and, Bool.and_true, Bool.and_false, decide_true, decide_false, if_true, if_false, Bool.true_eq_false, Bool.false_eq_true, Bool.not_true, Bool.not_false, implies_true]; exact ih2
