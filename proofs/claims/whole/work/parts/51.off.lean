/-! ===== the office's methods, by pictures: a sock's fields as v k f (0 colour, 1 size, 2 state, 3 drawer, 4 level, 5 made, 6 last day, 7 partner) ===== -/
abbrev vW : Type := Nat → Nat → Int32
def bI (b : Bool) : Int32 := if b = true then 1 else 0
theorem nI_add1 (k : Nat) : nI k + 1 = nI (k + 1) := (nI_succ k).symm
theorem ile (a b : Int32) : a ≤ b ↔ ¬ b < a := Int32.not_lt.symm
theorem bI_t : bI true = 1 := rfl
theorem bI_f : bI false = 0 := rfl
theorem bI_0 (b : Bool) : bI b = 0 ↔ b = false := by cases b <;> decide
theorem bI_B (b : Bool) : isB (bI b) := by cases b; exact Or.inl rfl; exact Or.inr rfl
theorem i10 : ((1 : Int32) = 0) ↔ False := by decide
theorem i01 : ((0 : Int32) = 1) ↔ False := by decide
def cV (o : Off) : vW := fun k f => o (f + 1) k
def inS (v : vW) (s d : Int32) (k : Nat) : Bool := decide (v k 2 = s ∧ v k 3 = d)
def sgl (v : vW) (d : Int32) (k : Nat) : Bool := inS v 3 d k && decide (v k 7 = -1)
def prd (v : vW) (d : Int32) (k : Nat) : Bool := inS v 3 d k && !decide (v k 7 = -1)
def fit (v : vW) (a b : Nat) : Bool := decide (a ≠ b) && (decide (v a 1 = v b 1) && (decide (v a 0 = v b 0) || (decide (v a 0 = 119) || decide (v b 0 = 119))))
def soon (v : vW) (a b : Nat) : Bool := if v a 4 = v b 4 then (if v a 5 = v b 5 then decide (a < b) else decide (v a 5 < v b 5)) else decide (v b 4 < v a 4)
/-- the first from k on, r looked at -/
def fstF (P : Nat → Bool) : Nat → Nat → Int32
  | 0, _ => -1
  | r + 1, k => if P k = true then nI k else fstF P r (k + 1)
theorem fstF_congr {P Q : Nat → Bool} : ∀ (r k : Nat), (∀ j, k ≤ j → j < k + r → P j = Q j) → fstF P r k = fstF Q r k := by
  intro r
  induction r with
  | zero => intro k h; rfl
  | succ r ih =>
    intro k h
    rw [fstF, fstF, h k (by omega) (by omega), ih (k + 1) (fun j h1 h2 => h j (by omega) (by omega))]
def ahd (v : vW) (c : Nat) (d : Int32) (k : Nat) : Nat := cnt (fun j => inS v 1 d j && soon v j k) c
def que (v : vW) (c : Nat) (d p : Int32) : Int32 := fstF (fun k => inS v 1 d k && decide (nI (ahd v c d k) = p)) c 0
def resAt (v : vW) (c : Nat) (d p : Int32) : Int32 := fstF (fun k => inS v 3 d k && decide (nI (cnt (inS v 3 d) k) = p)) c 0
theorem s3_is {post : Int32 → Prop} {o : Off} {w p : Int32} {k : Nat} (hk : k < 14) (h : post (bI (inS (cV o) w p k))) : wp_X3_is post o (nI k) w p := by
  unfold wp_X3_is
  simp (disch := omega) only [vp_in_i, nI_clampi, hk, true_and]
  unfold inS cV at h
  by_cases h1 : o 3 k = w <;> by_cases h2 : o 4 k = p <;> simp_all [bI]
theorem bI_c {P : Prop} {h : Decidable P} (p : P) : bI (decide P) = 1 := by rw [decide_eq_true p]; rfl
theorem s3_isSock {post : Int32 → Prop} {o : Off} {p : Int32} {c : Nat} (hc : o 0 0 = nI c) (h : post (bI (!decide (p < 0) && decide (p < nI c)))) : wp_X3_isSock post o p := by
  unfold wp_X3_isSock
  rw [hc]
  simp only [ile]
  by_cases h1 : p < 0 <;> by_cases h2 : p < nI c <;> simp only [h1, h2, not_true_eq_false, not_false_eq_true, false_implies, true_implies, and_true, true_and, forall_const, reduceCtorEq, Bool.true_and, Bool.false_and, Bool.and_true, Bool.and_false, decide_true, decide_false, if_true, if_false, Bool.true_eq_false, Bool.false_eq_true, Bool.not_true, Bool.not_false, implies_true] at h ⊢ <;> exact h
theorem s3_isDrawer {post : Int32 → Prop} {p : Int32} (h : post (bI (!decide (p < 0) && decide (p < 5)))) : wp_X3_isDrawer post p := by
  unfold wp_X3_isDrawer
  simp only [ile]
  by_cases h1 : p < 0 <;> by_cases h2 : p < 5 <;> simp only [h1, h2, not_true_eq_false, not_false_eq_true, false_implies, true_implies, and_true, true_and, forall_const, reduceCtorEq, Bool.true_and, Bool.false_and, Bool.and_true, Bool.and_false, decide_true, decide_false, if_true, if_false, Bool.true_eq_false, Bool.false_eq_true, Bool.not_true, Bool.not_false, implies_true] at h ⊢ <;> exact h
theorem s3_match {post : Int32 → Prop} {o : Off} {a b : Nat} (ha : a < 14) (hb : b < 14) (h : post (bI (fit (cV o) a b))) : wp_X3_match post o (nI a) (nI b) := by
  unfold wp_X3_match wj_X3_match_37 wj_X3_match_42
  simp (disch := omega) only [vp_in_i, nI_clampi, ha, hb, true_and, nI_eqi]
  unfold fit cV at h
  by_cases h0 : a = b <;> by_cases h1 : o 2 a = o 2 b <;> by_cases h2 : o 1 a = o 1 b <;> by_cases h3 : o 1 a = 119 <;> by_cases h4 : o 1 b = 119 <;> simp_all [bI]
theorem s3_countOf_l {post : Int32 → Prop} {o : Off} {w p : Int32} {c : Nat} (hc : o 0 0 = nI c) (h14 : c ≤ 14) (hp : post (nI (cnt (inS (cV o) w p) c))) :
    ∀ r k : Nat, k + r = c → wl_X3_countOf_5 post o (r + 1) w p (nI (cnt (inS (cV o) w p) k)) (nI k) := by
  intro r
  induction r with
  | zero =>
    intro k hk
    rw [wl_X3_countOf_5, hc, show k = c by omega]
    exact ⟨fun _ => hp, fun h => absurd (Int32.le_refl _) h⟩
  | succ r ih =>
    intro k hk
    have ih := ih (k + 1) (by omega)
    rw [wl_X3_countOf_5, hc]
    simp (disch := omega) only [nI_lei, vp_in_i, nI_clampi, nI_add1, forall_eq]
    by_cases h1 : o 3 k = w <;> by_cases h2 : o 4 k = p <;> simp_all [cnt, inS, cV] <;> omega
theorem s3_countOf {post : Int32 → Prop} {o : Off} {w p : Int32} {c : Nat} (hc : o 0 0 = nI c) (h14 : c ≤ 14) (hp : post (nI (cnt (inS (cV o) w p) c))) : wp_X3_countOf post o w p :=
  ⟨c + 1, s3_countOf_l hc h14 hp c 0 (by omega)⟩
theorem s3_resident {post : Int32 → Prop} {o : Off} {d p : Int32} {c : Nat} (hc : o 0 0 = nI c) (h14 : c ≤ 14) (hp : post (resAt (cV o) c d p)) : wp_X3_resident post o d p := by
  suffices hl : ∀ r k : Nat, k + r = c → post (fstF (fun k => inS (cV o) 3 d k && decide (nI (cnt (inS (cV o) 3 d) k) = p)) r k) → wl_X3_resident_5 post o (r + 1) d p (nI (cnt (inS (cV o) 3 d) k)) (nI k) from ⟨c + 1, hl c 0 (by omega) hp⟩
  intro r
  induction r with
  | zero =>
    intro k hk hp
    rw [wl_X3_resident_5, hc, show k = c by omega]
    exact ⟨fun _ => hp, fun h => absurd (Int32.le_refl _) h⟩
  | succ r ih =>
    intro k hk hp
    have ih := ih (k + 1) (by omega)
    rw [wl_X3_resident_5, hc]
    refine ⟨fun h => absurd h (nI_ge (by omega) (by omega)), fun _ => s3_is (by omega) ?_⟩
    rw [fstF] at hp
    simp (disch := omega) only [bI_0, nI_add1, forall_eq]
    cases hb : inS (cV o) 3 d k
    · rw [cnt_f (by simp [hb])] at ih
      simp_all
    · rw [cnt_t hb] at ih
      by_cases h2 : nI (cnt (inS (cV o) 3 d) k) = p <;> simp_all
theorem s3_ahead {post : Int32 → Prop} {o : Off} {a b : Nat} (ha : a < 14) (hb : b < 14) (h : post (bI (soon (cV o) a b))) : wp_X3_isDecidedAhead post o (nI a) (nI b) := by
  unfold wp_X3_isDecidedAhead
  simp (disch := omega) only [vp_in_i, nI_clampi, ha, hb, true_and, ile, nI_lti]
  unfold soon cV at h
  simp only [Nat.reduceAdd] at h
  by_cases h0 : o 5 a = o 5 b
  · by_cases h1 : o 6 a = o 6 b
    · by_cases h2 : a < b <;> simp only [h0, h1, h2, not_true_eq_false, not_false_eq_true, false_implies, true_implies, and_true, true_and, forall_const, reduceCtorEq, Bool.true_and, Bool.false_and, Bool.and_true, Bool.and_false, decide_true, decide_false, if_true, if_false, Bool.true_eq_false, Bool.false_eq_true, Bool.not_true, Bool.not_false, implies_true] at h ⊢ <;> exact h
    · by_cases h2 : o 6 a < o 6 b <;> simp only [h0, h1, h2, not_true_eq_false, not_false_eq_true, false_implies, true_implies, and_true, true_and, forall_const, reduceCtorEq, Bool.true_and, Bool.false_and, Bool.and_true, Bool.and_false, decide_true, decide_false, if_true, if_false, Bool.true_eq_false, Bool.false_eq_true, Bool.not_true, Bool.not_false, implies_true] at h ⊢ <;> exact h
  · by_cases h2 : o 5 b < o 5 a <;> simp only [h0, h2, not_true_eq_false, not_false_eq_true, false_implies, true_implies, and_true, true_and, forall_const, reduceCtorEq, Bool.true_and, Bool.false_and, Bool.and_true, Bool.and_false, decide_true, decide_false, if_true, if_false, Bool.true_eq_false, Bool.false_eq_true, Bool.not_true, Bool.not_false, implies_true] at h ⊢ <;> exact h
theorem s3_queuedAhead {post : Int32 → Prop} {o : Off} {d : Int32} {j c : Nat} (hc : o 0 0 = nI c) (h14 : c ≤ 14) (hj : j < 14) (hp : post (nI (ahd (cV o) c d j))) : wp_X3_queuedAhead post o (nI j) d := by
  suffices hl : ∀ r k : Nat, k + r = c → wl_X3_queuedAhead_5 post o (r + 1) (nI j) d (nI (cnt (fun i => inS (cV o) 1 d i && soon (cV o) i j) k)) (nI k) from ⟨c + 1, hl c 0 (by omega)⟩
  intro r
  induction r with
  | zero =>
    intro k hk
    rw [wl_X3_queuedAhead_5, hc, show k = c by omega]
    exact ⟨fun _ => hp, fun h => absurd (Int32.le_refl _) h⟩
  | succ r ih =>
    intro k hk
    have ih := ih (k + 1) (by omega)
    rw [wl_X3_queuedAhead_5, hc]
    refine ⟨fun h => absurd h (nI_ge (by omega) (by omega)), fun _ => s3_is (by omega) ?_⟩
    simp (disch := omega) only [bI_0, nI_add1, forall_eq]
    cases hb : inS (cV o) 1 d k
    · rw [cnt_f (by simp [hb])] at ih
      simp_all
    · refine ⟨fun h => (by cases h), fun _ => s3_ahead (by omega) hj ?_⟩
      simp only [bI_0]
      cases h2 : soon (cV o) k j
      · rw [cnt_f (by simp [hb, h2])] at ih
        simp_all
      · rw [cnt_t (by simp [hb, h2])] at ih
        simp_all
theorem s3_queued {post : Int32 → Prop} {o : Off} {d p : Int32} {c : Nat} (hc : o 0 0 = nI c) (h14 : c ≤ 14) (hp : post (que (cV o) c d p)) : wp_X3_queued post o d p := by
  suffices hl : ∀ r k : Nat, k + r = c → post (fstF (fun k => inS (cV o) 1 d k && decide (nI (ahd (cV o) c d k) = p)) r k) → wl_X3_queued_2 post o (r + 1) d p (nI k) from ⟨c + 1, hl c 0 (by omega) hp⟩
  intro r
  induction r with
  | zero =>
    intro k hk hp
    rw [wl_X3_queued_2, hc, show k = c by omega]
    exact ⟨fun _ => hp, fun h => absurd (Int32.le_refl _) h⟩
  | succ r ih =>
    intro k hk hp
    have ih := ih (k + 1) (by omega)
    rw [wl_X3_queued_2, hc]
    refine ⟨fun h => absurd h (nI_ge (by omega) (by omega)), fun _ => s3_is (by omega) ?_⟩
    rw [fstF] at hp
    simp (disch := omega) only [bI_0, nI_add1, forall_eq]
    cases hb : inS (cV o) 1 d k
    · simp_all
    · refine ⟨fun h => (by cases h), fun _ => s3_queuedAhead hc h14 (by omega) ?_⟩
      by_cases h2 : nI (ahd (cV o) c d k) = p <;> simp_all
theorem s3_pairsIn {post : Int32 → Prop} {o : Off} {d : Int32} {c : Nat} (hc : o 0 0 = nI c) (h14 : c ≤ 14) (hp : post (nI (cnt (prd (cV o) d) c) / 2)) : wp_X3_pairsIn post o d := by
  suffices hl : ∀ r k : Nat, k + r = c → wl_X3_pairsIn_4 post o (r + 1) d (nI (cnt (prd (cV o) d) k)) (nI k) from ⟨c + 1, hl c 0 (by omega)⟩
  intro r
  induction r with
  | zero =>
    intro k hk
    rw [wl_X3_pairsIn_4, hc, show k = c by omega]
    exact ⟨fun _ => hp, fun h => absurd (Int32.le_refl _) h⟩
  | succ r ih =>
    intro k hk
    have ih := ih (k + 1) (by omega)
    rw [wl_X3_pairsIn_4, hc]
    refine ⟨fun h => absurd h (nI_ge (by omega) (by omega)), fun _ => s3_is (by omega) ?_⟩
    simp (disch := omega) only [bI_0, nI_add1, forall_eq, vp_in_i, nI_clampi]
    cases hb : inS (cV o) 3 d k
    · rw [cnt_f (by simp [prd, hb])] at ih
      simp_all
    · by_cases h2 : o 8 k = -1
      · rw [cnt_f (by simp [prd, cV, h2])] at ih
        simp_all; omega
      · rw [cnt_t (by simp [prd, hb, cV, h2])] at ih
        simp_all; omega
theorem s3_isSingle {post : Int32 → Prop} {o : Off} {d : Int32} {k : Nat} (hk : k < 14) (h : post (bI (sgl (cV o) d k))) : wp_X3_isSingle post o (nI k) d := by
  unfold wp_X3_isSingle
  refine s3_is hk ?_
  simp (disch := omega) only [bI_0, vp_in_i, nI_clampi]
  unfold sgl at h
  cases hb : inS (cV o) 3 d k
  · simp_all [bI]
  · by_cases h2 : o 8 k = -1
    · simp_all [bI, cV]
    · simp_all [bI, cV]
