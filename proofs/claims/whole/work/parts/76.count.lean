/-! ===== how many pairs: by counting ===== -/
def cc (c : Nat) (v : vW) (P : Nat → Bool) (s : Nat) (p : Int32) : Nat := cnt (fun i => P i && (decide (v i 1 = nI s) && decide (v i 0 = p))) c
def fpr (r g b w : Nat) : Nat := r / 2 + g / 2 + b / 2 + min w (r % 2 + g % 2 + b % 2) + (w - min w (r % 2 + g % 2 + b % 2)) / 2
def ff (c : Nat) (v : vW) (P : Nat → Bool) (s : Nat) : Nat := fpr (cc c v P s 114) (cc c v P s 103) (cc c v P s 98) (cc c v P s 119)
def sumN (g : Nat → Nat) : Nat → Nat
  | 0 => 0
  | n + 1 => sumN g n + g (n + 1)
def FF (c : Nat) (v : vW) (P : Nat → Bool) : Nat := sumN (ff c v P) 9
theorem sumN_congr {g g2 : Nat → Nat} : ∀ n, (∀ s, s ≤ n → g s = g2 s) → sumN g n = sumN g2 n := by
  intro n
  induction n with
  | zero => intro _; rfl
  | succ n ih =>
    intro h
    rw [sumN, sumN, ih (fun s hs => h s (by omega)), h _ (Nat.le_refl _)]
theorem sumN_at {g g2 : Nat → Nat} {s0 : Nat} (h : ∀ s, s ≤ 9 → s ≠ s0 → g s = g2 s) (h1 : 1 ≤ s0) : ∀ n, n ≤ 9 → s0 ≤ n → sumN g n + g2 s0 = sumN g2 n + g s0 := by
  intro n
  induction n with
  | zero => intro _ h2; omega
  | succ n ih =>
    intro hn h2
    rw [sumN, sumN]
    by_cases e : s0 = n + 1
    · subst e
      rw [sumN_congr n (fun s hs => h s (by omega) (by omega))]
      omega
    · have := ih (by omega) (by omega)
      rw [h (n + 1) hn (fun y => e y.symm)]
      omega
theorem FF_congr {c : Nat} {v : vW} {P Q : Nat → Bool} (h : ∀ i, i < c → P i = Q i) : FF c v P = FF c v Q := by
  refine sumN_congr 9 (fun s _ => ?_)
  have hc : ∀ p, cc c v P s p = cc c v Q s p := fun p => cnt_congr (fun i hi => by rw [h i hi])
  unfold ff
  rw [hc, hc, hc, hc]
def rem (P : Nat → Bool) (k : Nat) : Nat → Bool := fun i => P i && !decide (i = k)
theorem cc_rem {c k s : Nat} {v : vW} {P : Nat → Bool} {p : Int32} (hk : k < c) (hP : P k = true) : cc c v P s p = cc c v (rem P k) s p + (if v k 1 = nI s ∧ v k 0 = p then 1 else 0) := by
  by_cases h : v k 1 = nI s ∧ v k 0 = p
  · rw [if_pos h]
    refine cnt_at hk ?_ ?_ (fun i hi => ?_)
    · simp [hP, h.1, h.2]
    · simp [rem]
    · simp [rem, hi]
  · rw [if_neg h]
    refine cnt_congr (fun i hi => ?_)
    by_cases e : i = k
    · subst e
      unfold rem
      by_cases h1 : v i 1 = nI s
      · have h2 : ¬ v i 0 = p := fun y => h ⟨h1, y⟩
        simp [h2]
      · simp [h1]
    · simp [rem, e]
theorem fpr_1r (r g b w : Nat) : fpr r g b w ≤ fpr (r + 1) g b w := by unfold fpr; omega
theorem fpr_1g (r g b w : Nat) : fpr r g b w ≤ fpr r (g + 1) b w := by unfold fpr; omega
theorem fpr_1b (r g b w : Nat) : fpr r g b w ≤ fpr r g (b + 1) w := by unfold fpr; omega
theorem fpr_1w (r g b w : Nat) : fpr r g b w ≤ fpr r g b (w + 1) := by unfold fpr; omega
theorem fpr_half (r g b w : Nat) : 2 * fpr r g b w ≤ r + g + b + w := by unfold fpr; omega
theorem fpr_2r (r g b w : Nat) : fpr r g b w + 1 = fpr (r + 2) g b w := by unfold fpr; omega
theorem fpr_2g (r g b w : Nat) : fpr r g b w + 1 = fpr r (g + 2) b w := by unfold fpr; omega
theorem fpr_2b (r g b w : Nat) : fpr r g b w + 1 = fpr r g (b + 2) w := by unfold fpr; omega
theorem fpr_2w (r g b w : Nat) : fpr r g b w + 1 ≤ fpr r g b (w + 2) := by unfold fpr; omega
theorem fpr_mr (r g b w : Nat) : fpr r g b w + 1 ≤ fpr (r + 1) g b (w + 1) := by unfold fpr; omega
theorem fpr_mg (r g b w : Nat) : fpr r g b w + 1 ≤ fpr r (g + 1) b (w + 1) := by unfold fpr; omega
theorem fpr_mb (r g b w : Nat) : fpr r g b w + 1 ≤ fpr r g (b + 1) (w + 1) := by unfold fpr; omega
def okV (v : vW) (c : Nat) : Prop := ∀ i, i < c → isCol (v i 0) ∧ ∃ s, 1 ≤ s ∧ s ≤ 9 ∧ v i 1 = nI s
theorem size_ne {a b : Nat} (ha : a ≤ 9) (h : nI a = nI b) (hb : b ≤ 9) : a = b := (nI_eqi (by omega) (by omega)).mp h
/-- one out: at its size alone -/
theorem FF_rem {c k s0 : Nat} {v : vW} {P : Nat → Bool} (hk : k < c) (hP : P k = true) (h1 : 1 ≤ s0) (h9 : s0 ≤ 9) (hs : v k 1 = nI s0) : FF c v (rem P k) + ff c v P s0 = FF c v P + ff c v (rem P k) s0 := by
  unfold FF
  refine (sumN_at (g := ff c v (rem P k)) (g2 := ff c v P) (s0 := s0) (fun s hs9 hne => ?_) h1 9 (Nat.le_refl _) h9)
  have hc : ∀ p, cc c v P s p = cc c v (rem P k) s p := fun p => by
    rw [cc_rem hk hP]
    by_cases e : v k 1 = nI s ∧ v k 0 = p
    · exfalso
      exact hne ((nI_eqi (by omega) (by omega)).mp (hs.symm.trans e.1)).symm
    · rw [if_neg e, Nat.add_zero]
  unfold ff
  rw [hc, hc, hc, hc]
/-- the counts of a size, with one of its socks out -/
theorem ff_k {c k s0 : Nat} {v : vW} {P : Nat → Bool} (hk : k < c) (hP : P k = true) (hs : v k 1 = nI s0) (hc : isCol (v k 0)) :
    (v k 0 = 114 ∧ cc c v P s0 114 = cc c v (rem P k) s0 114 + 1 ∧ cc c v P s0 103 = cc c v (rem P k) s0 103 ∧ cc c v P s0 98 = cc c v (rem P k) s0 98 ∧ cc c v P s0 119 = cc c v (rem P k) s0 119) ∨
    (v k 0 = 103 ∧ cc c v P s0 114 = cc c v (rem P k) s0 114 ∧ cc c v P s0 103 = cc c v (rem P k) s0 103 + 1 ∧ cc c v P s0 98 = cc c v (rem P k) s0 98 ∧ cc c v P s0 119 = cc c v (rem P k) s0 119) ∨
    (v k 0 = 98 ∧ cc c v P s0 114 = cc c v (rem P k) s0 114 ∧ cc c v P s0 103 = cc c v (rem P k) s0 103 ∧ cc c v P s0 98 = cc c v (rem P k) s0 98 + 1 ∧ cc c v P s0 119 = cc c v (rem P k) s0 119) ∨
    (v k 0 = 119 ∧ cc c v P s0 114 = cc c v (rem P k) s0 114 ∧ cc c v P s0 103 = cc c v (rem P k) s0 103 ∧ cc c v P s0 98 = cc c v (rem P k) s0 98 ∧ cc c v P s0 119 = cc c v (rem P k) s0 119 + 1) := by
  have h : ∀ p, cc c v P s0 p = cc c v (rem P k) s0 p + (if v k 1 = nI s0 ∧ v k 0 = p then 1 else 0) := fun p => cc_rem hk hP
  have h1 := h 114
  have h2 := h 103
  have h3 := h 98
  have h4 := h 119
  rcases hc with e | e | e | e
  · rw [e, if_pos ⟨hs, rfl⟩] at h1
    rw [e, if_neg (fun y => absurd y.2 (by decide))] at h2 h3 h4
    exact Or.inl ⟨e, h1, h2, h3, h4⟩
  · rw [e, if_pos ⟨hs, rfl⟩] at h2
    rw [e, if_neg (fun y => absurd y.2 (by decide))] at h1 h3 h4
    exact Or.inr (Or.inl ⟨e, h1, h2, h3, h4⟩)
  · rw [e, if_pos ⟨hs, rfl⟩] at h3
    rw [e, if_neg (fun y => absurd y.2 (by decide))] at h1 h2 h4
    exact Or.inr (Or.inr (Or.inl ⟨e, h1, h2, h3, h4⟩))
  · rw [e, if_pos ⟨hs, rfl⟩] at h4
    rw [e, if_neg (fun y => absurd y.2 (by decide))] at h1 h2 h3
    exact Or.inr (Or.inr (Or.inr ⟨e, h1, h2, h3, h4⟩))
theorem FF_le {c k : Nat} {v : vW} {P : Nat → Bool} (hv : okV v c) (hk : k < c) (hP : P k = true) : FF c v (rem P k) ≤ FF c v P := by
  obtain ⟨hc, s0, h1, h9, hs⟩ := hv k hk
  have h := FF_rem hk hP h1 h9 hs
  have hf : ff c v (rem P k) s0 ≤ ff c v P s0 := by
    unfold ff
    rcases ff_k hk hP hs hc with ⟨-, a, b, d, e⟩ | ⟨-, a, b, d, e⟩ | ⟨-, a, b, d, e⟩ | ⟨-, a, b, d, e⟩ <;> rw [a, b, d, e]
    · exact fpr_1r _ _ _ _
    · exact fpr_1g _ _ _ _
    · exact fpr_1b _ _ _ _
    · exact fpr_1w _ _ _ _
  omega
theorem rem_at {P : Nat → Bool} {k j : Nat} (hj : P j = true) (hne : j ≠ k) : rem P k j = true := by
  unfold rem
  rw [hj, decide_eq_false hne]; rfl
theorem FF_pair {c k j : Nat} {v : vW} {P : Nat → Bool} (hv : okV v c) (hk : k < c) (hj : j < c) (hP : P k = true) (hQ : P j = true) (hfit : fit v k j = true) : 1 + FF c v (rem (rem P k) j) ≤ FF c v P := by
  obtain ⟨hc, s0, h1, h9, hs⟩ := hv k hk
  obtain ⟨hc2, -⟩ := hv j hj
  have hne := fit_ne hfit
  unfold fit at hfit
  rw [Bool.and_eq_true, Bool.and_eq_true] at hfit
  obtain ⟨-, hsz, hcol⟩ := hfit
  have hs2 : v j 1 = nI s0 := (of_decide_eq_true hsz).symm.trans hs
  have hQ2 : rem P k j = true := rem_at hQ (Ne.symm hne)
  have e1 := FF_rem hk hP h1 h9 hs
  have e2 := FF_rem hj hQ2 h1 h9 hs2
  have hf : 1 + ff c v (rem (rem P k) j) s0 ≤ ff c v P s0 := by
    unfold ff
    rcases ff_k hk hP hs hc with ⟨q, a, b, d, e⟩ | ⟨q, a, b, d, e⟩ | ⟨q, a, b, d, e⟩ | ⟨q, a, b, d, e⟩ <;> rcases ff_k hj hQ2 hs2 hc2 with ⟨q2, a2, b2, d2, e3⟩ | ⟨q2, a2, b2, d2, e3⟩ | ⟨q2, a2, b2, d2, e3⟩ | ⟨q2, a2, b2, d2, e3⟩ <;> rw [q, q2] at hcol <;> rw [a, b, d, e, a2, b2, d2, e3, Nat.add_comm 1]
    · exact Nat.le_of_eq (fpr_2r _ _ _ _)
    · exact absurd hcol (by decide)
    · exact absurd hcol (by decide)
    · exact fpr_mr _ _ _ _
    · exact absurd hcol (by decide)
    · exact Nat.le_of_eq (fpr_2g _ _ _ _)
    · exact absurd hcol (by decide)
    · exact fpr_mg _ _ _ _
    · exact absurd hcol (by decide)
    · exact absurd hcol (by decide)
    · exact Nat.le_of_eq (fpr_2b _ _ _ _)
    · exact fpr_mb _ _ _ _
    · exact fpr_mr _ _ _ _
    · exact fpr_mg _ _ _ _
    · exact fpr_mb _ _ _ _
    · exact fpr_2w _ _ _ _
  omega
theorem cc_pos {c k s0 : Nat} {v : vW} {P : Nat → Bool} {p : Int32} (h : cc c v (rem P k) s0 p ≠ 0) : ∃ j, j < c ∧ j ≠ k ∧ P j = true ∧ rem P k j = true ∧ v j 1 = nI s0 ∧ v j 0 = p := by
  obtain ⟨j, hj, e⟩ := cnt_pos h
  rw [Bool.and_eq_true, Bool.and_eq_true] at e
  obtain ⟨e1, e2, e3⟩ := e
  have e4 := e1
  unfold rem at e1
  rw [Bool.and_eq_true] at e1
  refine ⟨j, hj, ?_, e1.1, e4, of_decide_eq_true e2, of_decide_eq_true e3⟩
  intro y
  rw [y] at e1
  simp at e1
theorem fit_of {v : vW} {k j s0 : Nat} (hne : j ≠ k) (h1 : v k 1 = nI s0) (h2 : v j 1 = nI s0) (h : v k 0 = v j 0 ∨ v k 0 = 119 ∨ v j 0 = 119) : fit v k j = true := by
  unfold fit
  rw [decide_eq_true (Ne.symm hne), decide_eq_true (h1.trans h2.symm)]
  rcases h with h | h | h
  · rw [decide_eq_true h]; rfl
  · rw [decide_eq_true h]; simp
  · rw [decide_eq_true h]; simp
/-- some way with this sock is the best -/
theorem FF_wit {c k : Nat} {v : vW} {P : Nat → Bool} (hv : okV v c) (hk : k < c) (hP : P k = true) : FF c v (rem P k) = FF c v P ∨ ∃ j, j < c ∧ j ≠ k ∧ P j = true ∧ fit v k j = true ∧ 1 + FF c v (rem (rem P k) j) = FF c v P := by
  obtain ⟨hc, s0, h1, h9, hs⟩ := hv k hk
  have e1 := FF_rem hk hP h1 h9 hs
  -- a partner, and what its going leaves
  have hw : ∀ p, cc c v (rem P k) s0 p ≠ 0 → (v k 0 = p ∨ v k 0 = 119 ∨ p = 119) → isCol p → (∀ j, v j 0 = p → j < c → rem P k j = true → v j 1 = nI s0 → 1 + ff c v (rem (rem P k) j) s0 = ff c v P s0) → ∃ j, j < c ∧ j ≠ k ∧ P j = true ∧ fit v k j = true ∧ 1 + FF c v (rem (rem P k) j) = FF c v P := by
    intro p hp hkp hcp hf
    obtain ⟨j, hj, hne, hPj, hrj, hsj, hcj⟩ := cc_pos hp
    refine ⟨j, hj, hne, hPj, fit_of hne hs hsj (by rw [hcj]; exact hkp), ?_⟩
    have e2 := FF_rem hj hrj h1 h9 hsj
    have := hf j hcj hj hrj hsj
    omega
  have hcs := ff_k hk hP hs hc
  rcases hcs with ⟨q, A1, A2, A3, A4⟩ | ⟨q, A1, A2, A3, A4⟩ | ⟨q, A1, A2, A3, A4⟩ | ⟨q, A1, A2, A3, A4⟩
  · by_cases z : cc c v (rem P k) s0 114 = 0
    · by_cases zw : cc c v (rem P k) s0 119 = 0
      · left
        have hf : ff c v (rem P k) s0 = ff c v P s0 := by
          unfold ff
          rw [A1, A2, A3, A4, z, zw]
          unfold fpr; omega
        omega
      · refine Or.inr (hw 119 (by omega) (Or.inr (Or.inr rfl)) (Or.inr (Or.inr (Or.inr rfl))) (fun j hcj hj hrj hsj => ?_))
        rcases ff_k (P := rem P k) hj hrj hsj (by rw [hcj]; exact Or.inr (Or.inr (Or.inr rfl))) with ⟨y, B1, B2, B3, B4⟩ | ⟨y, B1, B2, B3, B4⟩ | ⟨y, B1, B2, B3, B4⟩ | ⟨y, B1, B2, B3, B4⟩
        · exact absurd (hcj.symm.trans y) (by decide)
        · exact absurd (hcj.symm.trans y) (by decide)
        · exact absurd (hcj.symm.trans y) (by decide)
        · unfold ff
          rw [A1, A2, A3, A4]
          unfold fpr; omega
    · refine Or.inr (hw 114 (by omega) (Or.inl q) (Or.inl rfl) (fun j hcj hj hrj hsj => ?_))
      rcases ff_k (P := rem P k) hj hrj hsj (by rw [hcj]; exact Or.inl rfl) with ⟨y, B1, B2, B3, B4⟩ | ⟨y, B1, B2, B3, B4⟩ | ⟨y, B1, B2, B3, B4⟩ | ⟨y, B1, B2, B3, B4⟩
      · unfold ff
        rw [A1, A2, A3, A4]
        unfold fpr; omega
      · exact absurd (hcj.symm.trans y) (by decide)
      · exact absurd (hcj.symm.trans y) (by decide)
      · exact absurd (hcj.symm.trans y) (by decide)
  · by_cases z : cc c v (rem P k) s0 103 = 0
    · by_cases zw : cc c v (rem P k) s0 119 = 0
      · left
        have hf : ff c v (rem P k) s0 = ff c v P s0 := by
          unfold ff
          rw [A1, A2, A3, A4, z, zw]
          unfold fpr; omega
        omega
      · refine Or.inr (hw 119 (by omega) (Or.inr (Or.inr rfl)) (Or.inr (Or.inr (Or.inr rfl))) (fun j hcj hj hrj hsj => ?_))
        rcases ff_k (P := rem P k) hj hrj hsj (by rw [hcj]; exact Or.inr (Or.inr (Or.inr rfl))) with ⟨y, B1, B2, B3, B4⟩ | ⟨y, B1, B2, B3, B4⟩ | ⟨y, B1, B2, B3, B4⟩ | ⟨y, B1, B2, B3, B4⟩
        · exact absurd (hcj.symm.trans y) (by decide)
        · exact absurd (hcj.symm.trans y) (by decide)
        · exact absurd (hcj.symm.trans y) (by decide)
        · unfold ff
          rw [A1, A2, A3, A4]
          unfold fpr; omega
    · refine Or.inr (hw 103 (by omega) (Or.inl q) (Or.inr (Or.inl rfl)) (fun j hcj hj hrj hsj => ?_))
      rcases ff_k (P := rem P k) hj hrj hsj (by rw [hcj]; exact Or.inr (Or.inl rfl)) with ⟨y, B1, B2, B3, B4⟩ | ⟨y, B1, B2, B3, B4⟩ | ⟨y, B1, B2, B3, B4⟩ | ⟨y, B1, B2, B3, B4⟩
      · exact absurd (hcj.symm.trans y) (by decide)
      · unfold ff
        rw [A1, A2, A3, A4]
        unfold fpr; omega
      · exact absurd (hcj.symm.trans y) (by decide)
      · exact absurd (hcj.symm.trans y) (by decide)
  · by_cases z : cc c v (rem P k) s0 98 = 0
    · by_cases zw : cc c v (rem P k) s0 119 = 0
      · left
        have hf : ff c v (rem P k) s0 = ff c v P s0 := by
          unfold ff
          rw [A1, A2, A3, A4, z, zw]
          unfold fpr; omega
        omega
      · refine Or.inr (hw 119 (by omega) (Or.inr (Or.inr rfl)) (Or.inr (Or.inr (Or.inr rfl))) (fun j hcj hj hrj hsj => ?_))
        rcases ff_k (P := rem P k) hj hrj hsj (by rw [hcj]; exact Or.inr (Or.inr (Or.inr rfl))) with ⟨y, B1, B2, B3, B4⟩ | ⟨y, B1, B2, B3, B4⟩ | ⟨y, B1, B2, B3, B4⟩ | ⟨y, B1, B2, B3, B4⟩
        · exact absurd (hcj.symm.trans y) (by decide)
        · exact absurd (hcj.symm.trans y) (by decide)
        · exact absurd (hcj.symm.trans y) (by decide)
        · unfold ff
          rw [A1, A2, A3, A4]
          unfold fpr; omega
    · refine Or.inr (hw 98 (by omega) (Or.inl q) (Or.inr (Or.inr (Or.inl rfl))) (fun j hcj hj hrj hsj => ?_))
      rcases ff_k (P := rem P k) hj hrj hsj (by rw [hcj]; exact Or.inr (Or.inr (Or.inl rfl))) with ⟨y, B1, B2, B3, B4⟩ | ⟨y, B1, B2, B3, B4⟩ | ⟨y, B1, B2, B3, B4⟩ | ⟨y, B1, B2, B3, B4⟩
      · exact absurd (hcj.symm.trans y) (by decide)
      · exact absurd (hcj.symm.trans y) (by decide)
      · unfold ff
        rw [A1, A2, A3, A4]
        unfold fpr; omega
      · exact absurd (hcj.symm.trans y) (by decide)
  · by_cases o1 : cc c v (rem P k) s0 114 % 2 = 1
    · refine Or.inr (hw 114 (by omega) (Or.inr (Or.inl q)) (Or.inl rfl) (fun j hcj hj hrj hsj => ?_))
      rcases ff_k (P := rem P k) hj hrj hsj (by rw [hcj]; exact Or.inl rfl) with ⟨y, B1, B2, B3, B4⟩ | ⟨y, B1, B2, B3, B4⟩ | ⟨y, B1, B2, B3, B4⟩ | ⟨y, B1, B2, B3, B4⟩
      · unfold ff
        rw [A1, A2, A3, A4]
        unfold fpr; omega
      · exact absurd (hcj.symm.trans y) (by decide)
      · exact absurd (hcj.symm.trans y) (by decide)
      · exact absurd (hcj.symm.trans y) (by decide)
    by_cases o2 : cc c v (rem P k) s0 103 % 2 = 1
    · refine Or.inr (hw 103 (by omega) (Or.inr (Or.inl q)) (Or.inr (Or.inl rfl)) (fun j hcj hj hrj hsj => ?_))
      rcases ff_k (P := rem P k) hj hrj hsj (by rw [hcj]; exact Or.inr (Or.inl rfl)) with ⟨y, B1, B2, B3, B4⟩ | ⟨y, B1, B2, B3, B4⟩ | ⟨y, B1, B2, B3, B4⟩ | ⟨y, B1, B2, B3, B4⟩
      · exact absurd (hcj.symm.trans y) (by decide)
      · unfold ff
        rw [A1, A2, A3, A4]
        unfold fpr; omega
      · exact absurd (hcj.symm.trans y) (by decide)
      · exact absurd (hcj.symm.trans y) (by decide)
    by_cases o3 : cc c v (rem P k) s0 98 % 2 = 1
    · refine Or.inr (hw 98 (by omega) (Or.inr (Or.inl q)) (Or.inr (Or.inr (Or.inl rfl))) (fun j hcj hj hrj hsj => ?_))
      rcases ff_k (P := rem P k) hj hrj hsj (by rw [hcj]; exact Or.inr (Or.inr (Or.inl rfl))) with ⟨y, B1, B2, B3, B4⟩ | ⟨y, B1, B2, B3, B4⟩ | ⟨y, B1, B2, B3, B4⟩ | ⟨y, B1, B2, B3, B4⟩
      · exact absurd (hcj.symm.trans y) (by decide)
      · exact absurd (hcj.symm.trans y) (by decide)
      · unfold ff
        rw [A1, A2, A3, A4]
        unfold fpr; omega
      · exact absurd (hcj.symm.trans y) (by decide)
    by_cases zw : cc c v (rem P k) s0 119 = 0
    · left
      have hf : ff c v (rem P k) s0 = ff c v P s0 := by
        unfold ff
        rw [A1, A2, A3, A4]
        unfold fpr; omega
      omega
    · refine Or.inr (hw 119 (by omega) (Or.inl q) (Or.inr (Or.inr (Or.inr rfl))) (fun j hcj hj hrj hsj => ?_))
      rcases ff_k (P := rem P k) hj hrj hsj (by rw [hcj]; exact Or.inr (Or.inr (Or.inr rfl))) with ⟨y, B1, B2, B3, B4⟩ | ⟨y, B1, B2, B3, B4⟩ | ⟨y, B1, B2, B3, B4⟩ | ⟨y, B1, B2, B3, B4⟩
      · exact absurd (hcj.symm.trans y) (by decide)
      · exact absurd (hcj.symm.trans y) (by decide)
      · exact absurd (hcj.symm.trans y) (by decide)
      · unfold ff
        rw [A1, A2, A3, A4]
        unfold fpr; omega
theorem tot_le {v : vW} {P : Nat → Bool} : ∀ c, okV v c → sumN (fun s => cc c v P s 114 + cc c v P s 103 + cc c v P s 98 + cc c v P s 119) 9 ≤ cnt P c := by
  intro c
  induction c with
  | zero => intro _; exact Nat.le_refl _
  | succ c ih =>
    intro hv
    have ih := ih (fun i hi => hv i (by omega))
    obtain ⟨hc, s0, h1, h9, hs⟩ := hv c (by omega)
    have hcc : ∀ s p, cc (c + 1) v P s p = cc c v P s p + (if (P c && (decide (v c 1 = nI s) && decide (v c 0 = p))) = true then 1 else 0) := fun s p => rfl
    by_cases hP : P c = true
    · rw [cnt_t hP]
      have h := sumN_at (g := fun s => cc (c + 1) v P s 114 + cc (c + 1) v P s 103 + cc (c + 1) v P s 98 + cc (c + 1) v P s 119) (g2 := fun s => cc c v P s 114 + cc c v P s 103 + cc c v P s 98 + cc c v P s 119) (s0 := s0) (fun s hs9 hne => by
        have hn : ¬ v c 1 = nI s := fun y => hne ((nI_eqi (by omega) (by omega)).mp (hs.symm.trans y)).symm
        simp only [hcc, decide_eq_false hn, Bool.false_and, Bool.and_false, Bool.false_eq_true, if_false, Nat.add_zero]) h1 9 (Nat.le_refl _) h9
      have hs0 : cc (c + 1) v P s0 114 + cc (c + 1) v P s0 103 + cc (c + 1) v P s0 98 + cc (c + 1) v P s0 119 = cc c v P s0 114 + cc c v P s0 103 + cc c v P s0 98 + cc c v P s0 119 + 1 := by
        simp only [hcc, hP, hs, decide_true, Bool.true_and]
        rcases hc with e | e | e | e <;> rw [e] <;> simp <;> omega
      omega
    · have hz : ∀ s p, cc (c + 1) v P s p = cc c v P s p := fun s p => by
        rw [hcc]
        simp [hP]
      rw [cnt_f hP]
      simp only [hz]
      exact ih
theorem sumN_half {g g2 : Nat → Nat} (h : ∀ s, 2 * g s ≤ g2 s) : ∀ n, 2 * sumN g n ≤ sumN g2 n := by
  intro n
  induction n with
  | zero => exact Nat.le_refl _
  | succ n ih =>
    have := h (n + 1)
    rw [sumN, sumN]
    omega
theorem FF_half {c : Nat} {v : vW} {P : Nat → Bool} (hv : okV v c) : 2 * FF c v P ≤ cnt P c :=
  Nat.le_trans (sumN_half (fun s => fpr_half _ _ _ _) 9) (tot_le c hv)
