/-! ===== what holds between the class's state E and the reference's M ===== -/
def nV (n : Nat → Int32) : vW := fun k f => n (8 + 8 * k + f)
theorem rV_nV (M : Off) : rV M = nV (M 1) := rfl
def vE (v w : vW) (c : Nat) : Prop := ∀ k, k < c → v k 0 = w k 0 ∧ v k 1 = w k 1 ∧ v k 2 = w k 2 ∧ v k 7 = w k 7 ∧ (w k 2 ≠ 0 → v k 3 = w k 3) ∧ (w k 2 = 1 ∨ w k 2 = 2 → v k 4 = w k 4) ∧ (w k 2 = 1 → v k 5 = w k 5) ∧ (w k 2 = 3 → v k 6 = w k 6)
def rE (o : Off) (n : Nat → Int32) (c : Nat) : Prop := o 0 0 = nI c ∧ n 0 = nI c ∧ o 0 1 = n 1 ∧ o 0 2 = n 2 ∧ o 0 3 = n 3 ∧ o 0 4 = n 4 ∧ vE (cV o) (nV n) c ∧ (∀ d, d < 5 → o 9 d = n (120 + d) ∧ o 10 d = n (125 + d)) ∧
  (∀ a b, a < b → b < 5 → o 11 (5 * a + b) = n (130 + (5 * a + b)) ∧ o 11 (5 * b + a) = n (130 + (5 * a + b))) ∧ (∀ a, a < 5 → o 11 (6 * a) = 0)
def isCol (p : Int32) : Prop := p = 114 ∨ p = 103 ∨ p = 98 ∨ p = 119
def isCls (p : Int32) : Prop := p = 111 ∨ p = 115 ∨ p = 120
def vV (w : vW) (c T : Nat) : Prop := ∀ k, k < c → isCol (w k 0) ∧ (∃ s, 1 ≤ s ∧ s ≤ 9 ∧ w k 1 = nI s) ∧ (w k 2 = 0 ∨ w k 2 = 1 ∨ w k 2 = 2 ∨ w k 2 = 3) ∧ (w k 2 ≠ 0 → ∃ d, d < 5 ∧ w k 3 = nI d) ∧ (w k 2 = 1 ∨ w k 2 = 2 → ∃ x, 1 ≤ x ∧ x ≤ 3 ∧ w k 4 = nI x) ∧ (w k 2 = 3 → ∃ x, x ≤ T + 20 ∧ w k 6 = nI x) ∧
  (w k 7 = -1 ∨ ∃ p, p < c ∧ w k 7 = nI p ∧ w p 7 = nI k ∧ w k 2 = 3 ∧ w p 2 = 3 ∧ w k 3 = w p 3 ∧ fit w k p = true)
def vN (n : Nat → Int32) (c T : Nat) : Prop := c ≤ 14 ∧ vV (nV n) c T ∧ (∃ t, t ≤ T ∧ n 1 = nI t) ∧ (∀ d, d < 5 → ∃ q, q ≤ 9 ∧ n (120 + d) = nI q) ∧ (∀ d, d < 5 → ∃ b, b < 16 ∧ n (125 + d) = nI b) ∧ (∀ a b, a < b → b < 5 → n (130 + (5 * a + b)) = 0 ∨ isCls (n (130 + (5 * a + b)))) ∧ (∀ a b, b ≤ a → a < 5 → n (130 + (5 * a + b)) = 0)
def oK (o : Off) (n : Nat → Int32) (T : Nat) : Prop := ∃ c, rE o n c ∧ vN n c T
def iH (E M : Off) (T : Nat) : Prop := ∃ i kept, i < 8 ∧ kept ≤ 8 ∧ E 60 2 = nI i ∧ E 60 3 = nI kept ∧ M 0 6 = nI kept ∧ ∀ q, q < kept → oK (sh E (100 + 20 * ((i + 8 - kept + q) % 8))) (fun x => M 5 (160 * q + x)) T
def iS (E M : Off) (T : Nat) : Prop := (E 60 4 = 0 ∧ M 0 13 = 0) ∨ (E 60 4 = 1 ∧ M 0 13 = 1 ∧ oK (sh E 260) (M 4) T)
def iL (E M : Off) : Prop := E 13 6 = M 0 8 ∧ E 13 7 = M 0 9 ∧ E 13 8 = M 0 10 ∧ E 13 9 = M 0 7 ∧ (∃ r, r ≤ 17 ∧ M 0 8 = nI r) ∧ (M 0 7 = -1 ∨ ∃ w, w ≤ 60 ∧ M 0 7 = nI w)
def iI (E M : Off) (len : Nat) : Prop := E 40 3 = nI len ∧ M 0 19 = nI len ∧ len ≤ 60 ∧ ∀ i, i < len → E 41 i = M 7 i ∧ ∃ ch, 32 ≤ ch ∧ ch ≤ 126 ∧ M 7 i = nI ch
def iX (E M : Off) : Prop := ∃ ol, ol ≤ 16 ∧ E 50 3 = nI ol ∧ M 0 15 = nI ol ∧ E 50 1 = 0 ∧ ∀ i, i < ol → E 51 i = M 6 i ∧ ∃ ch, ch < 128 ∧ M 6 i = nI ch
def inv (j : Nat) (E M : Off) : Prop := ∃ len T, 20 * len + T ≤ 20 * j ∧ oK E (M 1) T ∧ iH E M T ∧ iS E M T ∧ iL E M ∧ iI E M len ∧ iX E M
def lwInv (j : Nat) : lwK := fun E M _ _ => inv j E M
theorem vV_mono {w : vW} {c T T2 : Nat} (h : vV w c T) (hT : T ≤ T2) : vV w c T2 := fun k hk => by
  obtain ⟨h1, h2, h3, h4, h5, h6, h7⟩ := h k hk
  exact ⟨h1, h2, h3, h4, h5, fun q => by obtain ⟨x, hx, e⟩ := h6 q; exact ⟨x, by omega, e⟩, h7⟩
theorem oK_mono {o : Off} {n : Nat → Int32} {T T2 : Nat} (h : oK o n T) (hT : T ≤ T2) : oK o n T2 := by
  obtain ⟨c, h1, h2, h3, ⟨t, ht, e⟩, h4⟩ := h
  exact ⟨c, h1, h2, vV_mono h3 hT, ⟨t, by omega, e⟩, h4⟩
theorem iH_mono {E M : Off} {T T2 : Nat} (h : iH E M T) (hT : T ≤ T2) : iH E M T2 := by
  obtain ⟨i, kept, h1, h2, h3, h4, h5, h6⟩ := h
  exact ⟨i, kept, h1, h2, h3, h4, h5, fun q hq => oK_mono (h6 q hq) hT⟩
theorem iS_mono {E M : Off} {T T2 : Nat} (h : iS E M T) (hT : T ≤ T2) : iS E M T2 := by
  rcases h with h | ⟨h1, h2, h3⟩
  · exact Or.inl h
  · exact Or.inr ⟨h1, h2, oK_mono h3 hT⟩
/-- a part that the change leaves alone -/
theorem sh_eq {E E1 : Off} {n : Nat} (h : ∀ k, n ≤ k → k < n + 12 → E1 k = E k) : ∀ k, k < 12 → sh E1 n k = sh E n k := fun k hk => h (n + k) (by omega) (by omega)
theorem rE_rows {o o1 : Off} {n : Nat → Int32} {c : Nat} (h : ∀ k, k < 12 → o1 k = o k) (hr : rE o n c) : rE o1 n c := by
  unfold rE vE cV at hr ⊢
  simp only [h 0 (by omega), h 1 (by omega), h 2 (by omega), h 3 (by omega), h 4 (by omega), h 5 (by omega), h 6 (by omega), h 7 (by omega), h 8 (by omega), h 9 (by omega), h 10 (by omega), h 11 (by omega), Nat.zero_add, Nat.reduceAdd] at hr ⊢
  exact hr
theorem oK_rows {o o1 : Off} {n : Nat → Int32} {T : Nat} (h : ∀ k, k < 12 → o1 k = o k) (hr : oK o n T) : oK o1 n T := by
  obtain ⟨c, h1, h2⟩ := hr
  exact ⟨c, rE_rows h h1, h2⟩
theorem iH_rows {E E1 M M1 : Off} {T : Nat} (h60 : E1 60 = E 60) (hp : ∀ k, 100 ≤ k → k < 260 → E1 k = E k) (hm : M1 0 6 = M 0 6) (h5 : M1 5 = M 5) (h : iH E M T) : iH E1 M1 T := by
  obtain ⟨i, kept, h1, h2, h3, h4, h5', h6⟩ := h
  refine ⟨i, kept, h1, h2, by rw [h60]; exact h3, by rw [h60]; exact h4, by rw [hm]; exact h5', fun q hq => ?_⟩
  rw [h5]
  exact oK_rows (sh_eq fun k hk1 hk2 => hp k (by omega) (by omega)) (h6 q hq)
theorem iS_rows {E E1 M M1 : Off} {T : Nat} (h60 : E1 60 = E 60) (hp : ∀ k, 260 ≤ k → k < 272 → E1 k = E k) (hm : M1 0 13 = M 0 13) (h4 : M1 4 = M 4) (h : iS E M T) : iS E1 M1 T := by
  rcases h with ⟨h1, h2⟩ | ⟨h1, h2, h3⟩
  · exact Or.inl ⟨by rw [h60]; exact h1, by rw [hm]; exact h2⟩
  · refine Or.inr ⟨by rw [h60]; exact h1, by rw [hm]; exact h2, ?_⟩
    rw [h4]
    exact oK_rows (sh_eq fun k hk1 hk2 => hp k (by omega) (by omega)) h3
/-- the class's rows that count: all but the detail's and the office before -/
def sameE (E E1 : Off) : Prop := ∀ k, k ≠ 12 → (k < 20 ∨ 32 ≤ k) → E1 k = E k
/-- the reference's: all but what was thrown, why, about, before, aside -/
def sameM (M M1 : Off) : Prop := M1 1 = M 1 ∧ M1 4 = M 4 ∧ M1 5 = M 5 ∧ M1 6 = M 6 ∧ M1 7 = M 7 ∧ ∀ i, i ≠ 5 → i ≠ 11 → i ≠ 12 → M1 0 i = M 0 i
theorem sameE_rf (E : Off) : sameE E E := fun _ _ _ => rfl
theorem inv_same {j : Nat} {E E1 M M1 : Off} (hE : sameE E E1) (hM : sameM M M1) (h : inv j E M) : inv (j + 1) E1 M1 := by
  obtain ⟨len, T, h0, h1, h2, h3, ⟨l1, l2, l3, l4, l5, l6⟩, ⟨n1, n2, n3, n4⟩, ⟨ol, x1, x2, x3, x4, x5⟩⟩ := h
  obtain ⟨m1, m4, m5, m6, m7, m0⟩ := hM
  refine ⟨len, T, by omega, ?_, ?_, ?_, ?_, ?_, ?_⟩
  · rw [m1]; exact oK_rows (fun k hk => hE k (by omega) (by omega)) h1
  · exact iH_rows (hE 60 (by omega) (by omega)) (fun k _ _ => hE k (by omega) (by omega)) (m0 6 (by omega) (by omega) (by omega)) m5 h2
  · exact iS_rows (hE 60 (by omega) (by omega)) (fun k _ _ => hE k (by omega) (by omega)) (m0 13 (by omega) (by omega) (by omega)) m4 h3
  · unfold iL
    rw [hE 13 (by omega) (by omega), m0 7 (by omega) (by omega) (by omega), m0 8 (by omega) (by omega) (by omega), m0 9 (by omega) (by omega) (by omega), m0 10 (by omega) (by omega) (by omega)]
    exact ⟨l1, l2, l3, l4, l5, l6⟩
  · unfold iI
    rw [hE 40 (by omega) (by omega), hE 41 (by omega) (by omega), m0 19 (by omega) (by omega) (by omega), m7]
    exact ⟨n1, n2, n3, n4⟩
  · refine ⟨ol, x1, ?_, ?_, ?_, ?_⟩
    · rw [hE 50 (by omega) (by omega)]; exact x2
    · rw [m0 15 (by omega) (by omega) (by omega)]; exact x3
    · rw [hE 50 (by omega) (by omega)]; exact x4
    · rw [hE 51 (by omega) (by omega), m6]; exact x5
theorem sameM_thr (M : Off) (v : Int32) : sameM M (st M 0 5 v) := by
  refine ⟨rfl, rfl, rfl, rfl, rfl, fun i h1 _ _ => ?_⟩
  rw [st_at, if_neg (fun z => h1 z.2)]
theorem sameM_rf (M : Off) : sameM M M := ⟨rfl, rfl, rfl, rfl, rfl, fun _ _ _ _ => rfl⟩
theorem sameM_tr {M M1 M2 : Off} (h : sameM M M1) (h2 : sameM M1 M2) : sameM M M2 :=
  ⟨h2.1.trans h.1, h2.2.1.trans h.2.1, h2.2.2.1.trans h.2.2.1, h2.2.2.2.1.trans h.2.2.2.1, h2.2.2.2.2.1.trans h.2.2.2.2.1, fun i a b c => (h2.2.2.2.2.2 i a b c).trans (h.2.2.2.2.2 i a b c)⟩
/-! ===== a sock's number, a drawer's ===== -/
def isS (p : Int32) (c : Nat) : Bool := !decide (p < 0) && decide (p < nI c)
def isD (p : Int32) : Bool := !decide (p < 0) && decide (p < 5)
theorem isS_c {p : Int32} {c : Nat} (h : isS p c = true) (hc : c ≤ 14) : ∃ k, k < c ∧ p = nI k := by
  unfold isS at h
  simp only [Bool.and_eq_true, Bool.not_eq_true', decide_eq_false_iff_not, decide_eq_true_eq] at h
  have e := i32_nat h.1
  have h1 := p.toInt_lt
  have h2 := h.2
  rw [e, nI_lti (by omega) (by omega)] at h2
  exact ⟨_, h2, e⟩
theorem isD_c {p : Int32} (h : isD p = true) : ∃ k, k < 5 ∧ p = nI k := isS_c (c := 5) h (by omega)
theorem isS_k {k c : Nat} (h : k < c) (hc : c ≤ 14) : isS (nI k) c = true := by
  unfold isS
  rw [decide_eq_false (nI_pos (by omega)), decide_eq_true (nI_lt h (by omega))]; rfl
theorem isD_k {k : Nat} (h : k < 5) : isD (nI k) = true := isS_k (c := 5) h (by omega)
theorem s5_in {post : Int32 → Prop} {p a b : Int32} (h : post (bI (!decide (p < a) && !decide (b < p)))) : wp_X5_in post p a b := by
  unfold wp_X5_in
  by_cases h1 : p < a <;> by_cases h2 : b < p <;> simp only [h1, h2, not_true_eq_false, not_false_eq_true, false_implies, true_implies, and_true, true_and, forall_const, reduceCtorEq, Bool.true_and, Bool.false_and, Bool.and_true, Bool.and_false, decide_true, decide_false, if_true, if_false, Bool.true_eq_false, Bool.false_eq_true, Bool.not_true, Bool.not_false, implies_true] at h ⊢ <;> exact h
theorem in_S {p : Int32} {c : Nat} (hc : c ≤ 14) : (!decide (p < 0) && !decide (nI c - 1 < p)) = isS p c := by
  unfold isS
  congr 1
  have e : (nI c - 1 < p) ↔ ¬ (p < nI c) := by
    rw [Int32.lt_iff_toInt_lt, Int32.lt_iff_toInt_lt, Int32.toInt_sub, nI_toInt (by omega), show (1 : Int32).toInt = 1 from rfl, Int.bmod_eq_of_le (by omega) (by omega)]
    omega
  by_cases h : p < nI c
  · rw [decide_eq_true h, decide_eq_false (fun z => (e.mp z) h)]; rfl
  · rw [decide_eq_false h, decide_eq_true (e.mpr h)]; rfl
theorem in_D {p : Int32} : (!decide (p < 0) && !decide ((4 : Int32) < p)) = isD p := in_S (c := 5) (by omega)
theorem s5_isSock {post : Int32 → Prop} {M : Off} {p : Int32} {c : Nat} (hc : M 1 0 = nI c) (h14 : c ≤ 14) (h : post (bI (isS p c))) : wp_X5_isSock post M p := by
  unfold wp_X5_isSock
  refine ⟨i0_160, s5_in ?_⟩
  rw [c0, hc, in_S h14]
  exact ⟨bI_B _, h⟩
theorem s5_isDrawer {post : Int32 → Prop} {p : Int32} (h : post (bI (isD p))) : wp_X5_isDrawer post p := by
  unfold wp_X5_isDrawer
  refine s5_in ?_
  rw [in_D]
  exact ⟨bI_B _, h⟩
theorem bI_le (b : Bool) : bI b ≤ 0 ↔ b = false := by cases b <;> decide
theorem s5_checked {post : Int32 → Off → Prop} {M : Off} {b : Bool} (h : post (bI (!b)) (st M 0 5 (bI (!b)))) : wp_X5_checked post M (bI b) := by
  unfold wp_X5_checked wj_X5_checked_10
  simp only [bI_0, forall_eq, st_at, and_self, if_true]
  cases b
  · exact ⟨fun _ => h, fun z => absurd rfl z⟩
  · exact ⟨fun z => (by cases z), fun _ => h⟩
theorem cmp_self (v : Int64) : lg_cmp v v = 0 := by unfold lg_cmp; simp
theorem updL_at (z : Nat → Int64) (v : Int64) : vp_updL z (0 : Int32).toNatClampNeg v (0 : Int32).toNatClampNeg = v := by unfold vp_updL; simp
