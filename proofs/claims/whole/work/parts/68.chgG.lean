/-! ===== changes: treaties ===== -/
def tI (a b : Nat) : Nat := if b ≤ a then 130 + (5 * b + a) else 130 + (5 * a + b)
theorem tI_lt {a b : Nat} (ha : a < 5) (hb : b < 5) : 130 ≤ tI a b ∧ tI a b < 155 := by
  unfold tI
  split <;> omega
theorem i5 (k : Nat) : (5 : Int32) * nI k = nI (5 * k) := by rw [show (5 : Int32) = nI 5 from rfl, nI_mul]
theorem i5r (k : Nat) : nI k * (5 : Int32) = nI (5 * k) := by rw [show (5 : Int32) = nI 5 from rfl, nI_mul, Nat.mul_comm]
theorem s5_treatyOf {post : Int32 → Prop} {a b : Nat} (ha : a < 5) (hb : b < 5) (h : post (nI (tI a b))) : wp_X5_treatyOf post (nI a) (nI b) := by
  unfold wp_X5_treatyOf
  rw [i5, i5, show (130 : Int32) = nI 130 from rfl, nI_add, nI_add, nI_add, nI_add, nI_lei (by omega) (by omega)]
  unfold tI at h
  by_cases e : b ≤ a
  · rw [if_pos e] at h; exact iT e h
  · rw [if_neg e] at h; exact iF e h
theorem s3_clause {post : Int32 → Prop} {o : Off} {a b : Nat} (ha : a < 5) (hb : b < 5) (h : post (o 11 (5 * a + b))) : wp_X3_clauseBetween post o (nI a) (nI b) := by
  unfold wp_X3_clauseBetween
  rw [i5r, nI_add, kc (by omega)]
  exact ⟨vpk (by omega) (by omega), h⟩
theorem cl_eq {o : Off} {n : Nat → Int32} {c T a b : Nat} (hR : rE o n c) (hV : vN n c T) (ha : a < 5) (hb : b < 5) : o 11 (5 * a + b) = n (tI a b) := by
  obtain ⟨r1, r2, r3, r4, r5, r6, r7, r8, r9, r10⟩ := hR
  unfold tI
  by_cases e : a = b
  · subst e
    rw [if_pos (Nat.le_refl _), hV.2.2.2.2.2.2 a a (Nat.le_refl _) ha, show 5 * a + a = 6 * a by omega]
    exact r10 a ha
  · by_cases h : b ≤ a
    · rw [if_pos h]; exact (r9 b a (by omega) ha).2
    · rw [if_neg h]; exact (r9 a b (by omega) hb).1
theorem cl_v {n : Nat → Int32} {c T a b : Nat} (hV : vN n c T) (ha : a < 5) (hb : b < 5) : n (tI a b) = 0 ∨ (a ≠ b ∧ isCls (n (tI a b))) := by
  unfold tI
  by_cases e : a = b
  · subst e
    rw [if_pos (Nat.le_refl _)]
    exact Or.inl (hV.2.2.2.2.2.2 a a (Nat.le_refl _) ha)
  · by_cases h : b ≤ a
    · rw [if_pos h]
      rcases hV.2.2.2.2.2.1 b a (by omega) ha with h | h
      · exact Or.inl h
      · exact Or.inr ⟨e, h⟩
    · rw [if_neg h]
      rcases hV.2.2.2.2.2.1 a b (by omega) hb with h | h
      · exact Or.inl h
      · exact Or.inr ⟨e, h⟩
theorem cl_le {p : Int32} (h : p = 0 ∨ isCls p) : p ≤ 0 ↔ p = 0 := by
  rcases h with rfl | h
  · exact ⟨fun _ => rfl, fun _ => Int32.le_refl _⟩
  · obtain ⟨-, -, h1, h2⟩ := cls_yes h
    exact ⟨fun y => absurd y h1, fun y => absurd y h2⟩
/-- how many clauses, class and reference -/
def trE (o : Off) : Nat := cnt (fun x => !decide (o 11 x = 0)) 25
def trM (n : Nat → Int32) : Nat := cnt (fun x => !decide (n (130 + x) = 0)) 25
theorem s3_treaties {post : Int32 → Prop} {o : Off} (h : post (nI (trE o) / 2)) : wp_X3_treaties post o := by
  suffices hl : ∀ r k : Nat, k + r = 25 → wl_X3_treaties_4 post o (r + 1) (nI (cnt (fun x => !decide (o 11 x = 0)) k)) (nI k) from ⟨26, hl 25 0 rfl⟩
  intro r
  induction r with
  | zero =>
    intro k hk
    rw [wl_X3_treaties_4, show k = 25 by omega]
    exact ⟨fun _ => h, fun y => absurd (Int32.le_refl _) y⟩
  | succ r ih =>
    intro k hk
    have ih := ih (k + 1) (by omega)
    rw [wl_X3_treaties_4]
    refine ⟨fun y => absurd y (by rw [show (25 : Int32) = nI 25 from rfl, nI_lei (by omega) (by omega)]; omega), fun _ => ⟨vpk (by omega) (by omega), ?_⟩⟩
    rw [kc (by omega)]
    simp (disch := omega) only [nI_add1, forall_eq]
    by_cases e : o 11 k = 0
    · rw [cnt_f (by simp [e])] at ih
      exact iT e ih
    · rw [cnt_t (by simp [e])] at ih
      exact iF e ih
theorem cl_x {n : Nat → Int32} {c T x : Nat} (hV : vN n c T) (hx : x < 25) : n (130 + x) = 0 ∨ isCls (n (130 + x)) := by
  have e : x = 5 * (x / 5) + x % 5 := by omega
  by_cases h : x / 5 < x % 5
  · have := hV.2.2.2.2.2.1 (x / 5) (x % 5) h (by omega)
    rw [← e] at this
    exact this
  · have := hV.2.2.2.2.2.2 (x / 5) (x % 5) (by omega) (by omega)
    rw [← e] at this
    exact Or.inl this
theorem s5_treaties {post : Int32 → Prop} {M : Off} (hx : ∀ x, x < 25 → M 1 (130 + x) = 0 ∨ isCls (M 1 (130 + x))) (h : post (nI (trM (M 1)))) : wp_X5_treaties post M := by
  suffices hl : ∀ r k : Nat, k + r = 25 → wl_X5_treaties_4 post M (r + 1) (nI (cnt (fun x => !decide (M 1 (130 + x) = 0)) k)) (nI k) from ⟨26, hl 25 0 rfl⟩
  intro r
  induction r with
  | zero =>
    intro k hk
    rw [wl_X5_treaties_4, show k = 25 by omega]
    exact ⟨fun _ => h, fun y => absurd (Int32.le_refl _) y⟩
  | succ r ih =>
    intro k hk
    have ih := ih (k + 1) (by omega)
    rw [wl_X5_treaties_4, show (130 : Int32) = nI 130 from rfl, nI_add]
    refine ⟨fun y => absurd y (by rw [show (25 : Int32) = nI 25 from rfl, nI_lei (by omega) (by omega)]; omega), fun _ => ⟨vpk (by omega) (by omega), ?_⟩⟩
    rw [kc (by omega)]
    simp (disch := omega) only [nI_add1, nI_add0, forall_eq]
    rw [cl_le (hx k (by omega))]
    by_cases e : M 1 (130 + k) = 0
    · rw [cnt_f (by simp [e])] at ih
      exact iT e ih
    · rw [cnt_t (by simp [e])] at ih
      exact iF e ih
theorem half_i : ∀ q, q < 26 → nI (2 * q) / 2 = nI q := by decide +kernel
theorem tr_eq {o : Off} {n : Nat → Int32} {c T : Nat} (hR : rE o n c) (hV : vN n c T) : nI (trE o) / 2 = nI (trM n) := by
  have e : trE o = 2 * trM n := by
    have f : ∀ a b, a < 5 → b < 5 → (o 11 (5 * a + b)) = n (tI a b) := fun a b ha hb => cl_eq hR hV ha hb
    have g : ∀ a b, b ≤ a → a < 5 → n (130 + (5 * a + b)) = 0 := hV.2.2.2.2.2.2
    unfold trE trM
    have h0 : o 11 0 = n 130 := f 0 0 (by omega) (by omega)
    have h1 : o 11 1 = n 131 := f 0 1 (by omega) (by omega)
    have h2 : o 11 2 = n 132 := f 0 2 (by omega) (by omega)
    have h3 : o 11 3 = n 133 := f 0 3 (by omega) (by omega)
    have h4 : o 11 4 = n 134 := f 0 4 (by omega) (by omega)
    have h5 : o 11 5 = n 131 := f 1 0 (by omega) (by omega)
    have h6 : o 11 6 = n 136 := f 1 1 (by omega) (by omega)
    have h7 : o 11 7 = n 137 := f 1 2 (by omega) (by omega)
    have h8 : o 11 8 = n 138 := f 1 3 (by omega) (by omega)
    have h9 : o 11 9 = n 139 := f 1 4 (by omega) (by omega)
    have h10 : o 11 10 = n 132 := f 2 0 (by omega) (by omega)
    have h11 : o 11 11 = n 137 := f 2 1 (by omega) (by omega)
    have h12 : o 11 12 = n 142 := f 2 2 (by omega) (by omega)
    have h13 : o 11 13 = n 143 := f 2 3 (by omega) (by omega)
    have h14 : o 11 14 = n 144 := f 2 4 (by omega) (by omega)
    have h15 : o 11 15 = n 133 := f 3 0 (by omega) (by omega)
    have h16 : o 11 16 = n 138 := f 3 1 (by omega) (by omega)
    have h17 : o 11 17 = n 143 := f 3 2 (by omega) (by omega)
    have h18 : o 11 18 = n 148 := f 3 3 (by omega) (by omega)
    have h19 : o 11 19 = n 149 := f 3 4 (by omega) (by omega)
    have h20 : o 11 20 = n 134 := f 4 0 (by omega) (by omega)
    have h21 : o 11 21 = n 139 := f 4 1 (by omega) (by omega)
    have h22 : o 11 22 = n 144 := f 4 2 (by omega) (by omega)
    have h23 : o 11 23 = n 149 := f 4 3 (by omega) (by omega)
    have h24 : o 11 24 = n 154 := f 4 4 (by omega) (by omega)
    have g130 : n 130 = 0 := g 0 0 (by omega) (by omega)
    have g135 : n 135 = 0 := g 1 0 (by omega) (by omega)
    have g136 : n 136 = 0 := g 1 1 (by omega) (by omega)
    have g140 : n 140 = 0 := g 2 0 (by omega) (by omega)
    have g141 : n 141 = 0 := g 2 1 (by omega) (by omega)
    have g142 : n 142 = 0 := g 2 2 (by omega) (by omega)
    have g145 : n 145 = 0 := g 3 0 (by omega) (by omega)
    have g146 : n 146 = 0 := g 3 1 (by omega) (by omega)
    have g147 : n 147 = 0 := g 3 2 (by omega) (by omega)
    have g148 : n 148 = 0 := g 3 3 (by omega) (by omega)
    have g150 : n 150 = 0 := g 4 0 (by omega) (by omega)
    have g151 : n 151 = 0 := g 4 1 (by omega) (by omega)
    have g152 : n 152 = 0 := g 4 2 (by omega) (by omega)
    have g153 : n 153 = 0 := g 4 3 (by omega) (by omega)
    have g154 : n 154 = 0 := g 4 4 (by omega) (by omega)
    simp only [cnt, Nat.reduceAdd, h0, h1, h2, h3, h4, h5, h6, h7, h8, h9, h10, h11, h12, h13, h14, h15, h16, h17, h18, h19, h20, h21, h22, h23, h24, g130, g135, g136, g140, g141, g142, g145, g146, g147, g148, g150, g151, g152, g153, g154, decide_true, Bool.not_true, Bool.false_eq_true, if_false]
    generalize (if (!decide (n 131 = 0)) = true then 1 else 0) = x131
    generalize (if (!decide (n 132 = 0)) = true then 1 else 0) = x132
    generalize (if (!decide (n 133 = 0)) = true then 1 else 0) = x133
    generalize (if (!decide (n 134 = 0)) = true then 1 else 0) = x134
    generalize (if (!decide (n 137 = 0)) = true then 1 else 0) = x137
    generalize (if (!decide (n 138 = 0)) = true then 1 else 0) = x138
    generalize (if (!decide (n 139 = 0)) = true then 1 else 0) = x139
    generalize (if (!decide (n 143 = 0)) = true then 1 else 0) = x143
    generalize (if (!decide (n 144 = 0)) = true then 1 else 0) = x144
    generalize (if (!decide (n 149 = 0)) = true then 1 else 0) = x149
    omega
  have h25 : trM n ≤ 25 := cnt_le _ _
  rw [e]
  exact half_i _ (by omega)
theorem tI_ne {a b x y : Nat} (ha : a < 5) (hb : b < 5) (hx : x < y) (hy : y < 5) (h : tI a b = 130 + (5 * x + y)) : (a = x ∧ b = y) ∨ (a = y ∧ b = x) := by
  unfold tI at h
  split at h <;> omega
theorem up_sgn {o M : Off} {c T a b : Nat} {p : Int32} (hR : rE o (M 1) c) (hV : vN (M 1) c T) (ha : a < 5) (hb : b < 5) (hab : a ≠ b) (hp : p = 0 ∨ isCls p) : rE (st (st o 11 (5 * a + b) p) 11 (5 * b + a) p) (st M 1 (tI a b) p 1) c ∧ vN (st M 1 (tI a b) p 1) c T := by
  obtain ⟨r1, r2, r3, r4, r5, r6, r7, r8, r9, r10⟩ := id hR
  obtain ⟨v1, v2, v3, v4, v5, v6, v7⟩ := id hV
  obtain ⟨t1, t2⟩ := tI_lt ha hb
  refine up9 (M1 := st M 1 (tI a b) p) hR hV (Nat.le_refl T) (fun r hr => by rw [st_r _ _ _ _ _ (by omega), st_r _ _ _ _ _ (by omega)]) (fun x hx => by rw [st_at, if_neg (by omega)]) (fun i hi => by
    rw [st_r _ _ _ _ 9 (by omega), st_r _ _ _ _ 9 (by omega), st_r _ _ _ _ 10 (by omega), st_r _ _ _ _ 10 (by omega), st_at, if_neg (by omega), st_at, if_neg (by omega)]; exact r8 i hi) (fun x y hxy hy => ?_) (fun x hx => by
    rw [st_at, if_neg (by omega), st_at, if_neg (by omega)]; exact r10 x hx) (fun i hi => by
    rw [st_at, if_neg (by omega)]; exact v4 i hi) (fun i hi => by
    rw [st_at, if_neg (by omega)]; exact v5 i hi) (fun x y hxy hy => ?_) (fun x y hxy hy => ?_)
  · by_cases e : tI a b = 130 + (5 * x + y)
    · have hh := tI_ne ha hb hxy hy e
      rw [st_at M, if_pos ⟨rfl, e.symm⟩]
      constructor
      · rw [st_at]
        by_cases e2 : 5 * x + y = 5 * b + a
        · rw [if_pos ⟨rfl, e2⟩]
        · rw [if_neg (by omega), st_at, if_pos ⟨rfl, by omega⟩]
      · rw [st_at]
        by_cases e2 : 5 * y + x = 5 * b + a
        · rw [if_pos ⟨rfl, e2⟩]
        · rw [if_neg (by omega), st_at, if_pos ⟨rfl, by omega⟩]
    · have hne : ¬ ((a = x ∧ b = y) ∨ (a = y ∧ b = x)) := by
        intro hh
        apply e
        unfold tI
        rcases hh with ⟨rfl, rfl⟩ | ⟨rfl, rfl⟩
        · rw [if_neg (by omega)]
        · rw [if_pos (by omega)]
      rw [st_at M, if_neg (by omega), st_at, if_neg (by omega), st_at, if_neg (by omega), st_at, if_neg (by omega), st_at, if_neg (by omega)]
      exact r9 x y hxy hy
  · rw [st_at]
    split
    · exact hp
    · exact v6 x y hxy hy
  · have hne : ¬ tI a b = 130 + (5 * x + y) := by
      unfold tI
      split <;> omega
    rw [st_at, if_neg (by omega)]
    exact v7 x y hxy hy
theorem s5_signs {post : Int32 → Off → Prop} {o M : Off} {c T a b : Nat} {p : Int32} (hR : rE o (M 1) c) (hV : vN (M 1) c T) (ha : a < 5) (hb : b < 5) (hab : a ≠ b) (hp : p = 0 ∨ isCls p) (h : post (nI (trM (st M 1 (tI a b) p 1))) (st M 1 (tI a b) p)) : wp_X5_signs post M (nI a) (nI b) p := by
  obtain ⟨t1, t2⟩ := tI_lt ha hb
  have hup := up_sgn hR hV ha hb hab hp
  refine s5_treatyOf ha hb ⟨vpk (by omega) (by omega), fun o2 e2 => ?_⟩
  rw [kc (by omega)] at e2
  subst e2
  exact s5_treaties (fun x hx => cl_x hup.2 hx) h
theorem s3_hasTreaty {post : Int32 → Prop} {o : Off} {a b : Nat} (ha : a < 5) (hb : b < 5) (h : post (bI (!decide (o 11 (5 * a + b) = 0)))) : wp_X3_hasTreaty post o (nI a) (nI b) := by
  refine s3_clause ha hb ?_
  by_cases e : o 11 (5 * a + b) = 0
  · rw [decide_eq_true e] at h; exact iT e h
  · rw [decide_eq_false e] at h; exact iF e h
abbrev C_t (p0 p1 p2 : Int32) (post : Int32 → Off → Prop) (o : Off) : Prop := wp_X0_signing post o p0 p1 p2
abbrev A_t (p0 p1 p2 : Int32) (post : Int32 → Off → Prop) (o : Off) : Prop := wp_X3_sign post o p0 p1 p2
abbrev R_t (p0 p1 p2 : Int32) (F : Int32 → Prop) (J : Off → Prop) (A1 : Int32 → Off → Prop) (o : Off) : Prop := wp_X5_isDrawer (fun v2 => ((v2 = 0 → F 1) ∧ (¬ v2 = 0 → wp_X5_isDrawer (fun v5 => ((¬ v5 = 0 → ((p0 = p1 → F 2) ∧ (¬ p0 = p1 → wp_X5_isClause (fun v8 => ((¬ v8 = 0 → wp_X5_cannotSign (fun v10 o9 => ((v10 = 0 → wp_X5_signs A1 o9 p0 p1 p2) ∧ (¬ v10 = 0 → J o9))) o p0 p1) ∧ (v8 = 0 → F 2))) p2))) ∧ (v5 = 0 → F 1))) p1))) p0
abbrev R_t2 (p0 p1 p2 : Int32) (F : Int32 → Prop) (J : Off → Prop) (A1 : Int32 → Off → Prop) (o : Off) : Prop := wp_X5_isDrawer (fun v2 => ((v2 = 0 → F 1) ∧ (¬ v2 = 0 → wp_X5_isDrawer (fun v5 => ((v5 = 0 → F 1) ∧ (¬ v5 = 0 → ((¬ p0 = p1 → wp_X5_cannotSign (fun v10 o9 => ((v10 = 0 → wp_X5_signs A1 o9 p0 p1 p2) ∧ (¬ v10 = 0 → J o9))) o p0 p1) ∧ (p0 = p1 → F 2))))) p1))) p0
theorem s5_isClause_t {post : Int32 → Prop} {p : Int32} (hp : isCls p) (h : post 1) : wp_X5_isClause post p := by
  rcases hp with rfl | rfl | rfl
  · exact iT rfl h
  · exact iF (by decide) (iT rfl h)
  · exact iF (by decide) (iF (by decide) (jT rfl h))
theorem s5_isClause_f {post : Int32 → Prop} {p : Int32} (hp : ¬ isCls p) (h : post 0) : wp_X5_isClause post p :=
  iF (fun y => hp (Or.inl y)) (iF (fun y => hp (Or.inr (Or.inl y))) (jF (fun y => hp (Or.inr (Or.inr y))) h))
theorem out_t {E M : Off} {c T : Nat} (hR : rE E (M 1) c) (hV : vN (M 1) c T) (hT0 : T ≤ 10240) (p0 p1 p2 : Int32) : outc (C_t p0 p1 p2) (A_t p0 p1 p2) (R_t p0 p1 p2) B2 E M T := by
  have hc := hR.1
  have hm := hR.2.1
  have h14 := hV.1
  cases hd : isD p0
  · exact Or.inl ⟨-1, 1, Or.inl ⟨rfl, rfl⟩, fun post h => s3_isD hd (b00 h), fun F J A1 h => s5_isD hd (b00 h)⟩
  obtain ⟨a, ha, rfl⟩ := isD_c hd
  cases hd2 : isD p1
  · exact Or.inl ⟨-1, 1, Or.inl ⟨rfl, rfl⟩, fun post h => s3_isD hd (b10 (s3_isD hd2 (b01 h))), fun F J A1 h => s5_isD hd (b10 (s5_isD hd2 (by first | exact b00 h | exact b01 h)))⟩
  obtain ⟨b, hb, rfl⟩ := isD_c hd2
  by_cases hab : a = b
  · subst hab
    exact Or.inl ⟨-2, 2, Or.inr ⟨rfl, rfl⟩, fun post h => s3_isD hd (b10 (s3_isD hd2 (b11 (iT rfl h)))), fun F J A1 h => s5_isD hd (b10 (s5_isD hd2 (by first | exact b11 (iT rfl h) | exact b10 (jT rfl h))))⟩
  have hne : ¬ nI a = nI b := fun y => hab ((nI_eqi (by omega) (by omega)).mp y)
  by_cases hcls : isCls p2
  case neg =>
    refine Or.inl ⟨-2, 2, Or.inr ⟨rfl, rfl⟩, fun post h => s3_isD hd (b10 (s3_isD hd2 (b11 (iF hne (s_cls (by rw [cls_no hcls]; exact iF (by decide) h)))))), fun F J A1 h => s5_isD hd (b10 (s5_isD hd2 (b11 (iF hne (s5_isClause_f hcls (l01 h))))))⟩
  obtain ⟨⟨i, hi, h1⟩, -⟩ := cls_yes hcls
  have hi0 : 0 ≤ nI i := by rw [ile]; exact nI_pos (by omega)
  have hin : ∀ {F : Int32 → Prop} {J : Off → Prop} {A1 : Int32 → Off → Prop}, wp_X5_cannotSign (fun v10 o9 => ((v10 = 0 → wp_X5_signs A1 o9 (nI a) (nI b) p2) ∧ (¬ v10 = 0 → J o9))) M (nI a) (nI b) → R_t (nI a) (nI b) p2 F J A1 M := by
    intro F J A1 h
    refine s5_isD hd (b10 (s5_isD hd2 ?_))
    exact b11 (iF hne (s5_isClause_t hcls (l11 h)))
  have hcl : ∀ {E : Off} {post : Int32 → Off → Prop}, wp_X3_hasTreaty (fun v4 => ((v4 = 0 → post 0 E) ∧ (¬ v4 = 0 → wp_X3_treaties (fun v5 => wp_X0_because (fun v7 o6 => post v7 o6) E 16 v5) E))) E (nI a) (nI b) → C_t (nI a) (nI b) p2 post E := by
    intro E post h
    exact s3_isD hd (b10 (s3_isD hd2 (b11 (iF hne (s_cls (by rw [h1]; exact iT hi0 h))))))
  have ee := cl_eq hR hV ha hb
  have ev : M 1 (tI a b) = 0 ∨ isCls (M 1 (tI a b)) := by
    rcases cl_v hV ha hb with h | h
    · exact Or.inl h
    · exact Or.inr h.2
  obtain ⟨t1, t2⟩ := tI_lt ha hb
  by_cases hz : M 1 (tI a b) = 0
  case neg =>
    refine Or.inr (Or.inl ⟨16, nI (trM (M 1)), by omega, by omega, fun E hE post h => ?_, fun F J A1 h => hin (s5_treatyOf ha hb ?_)⟩)
    · have hR := rE_rows hE hR
      have ee := cl_eq hR hV ha hb
      refine hcl (s3_hasTreaty ha hb ?_)
      rw [ee, decide_eq_false hz]
      refine b10 (s3_treaties ?_)
      rw [tr_eq hR hV]
      intro o1 e1
      subst e1
      exact h
    · rw [kc (by omega)]
      exact ⟨vpk (by omega) (by omega), iF (fun y => hz ((cl_le ev).mp y)) (s5_treaties (fun x hx => cl_x hV hx) (s5_notes_t ⟨isB1, l10 h⟩))⟩
  refine Or.inr (Or.inr ⟨fun post h => hcl (s3_hasTreaty ha hb (by rw [ee, decide_eq_true hz]; exact b00 h)), nI (trM (st M 1 (tI a b) p2 1)), st M 1 (tI a b) p2, fun F J A1 h => hin (s5_treatyOf ha hb ?_), fun q hq => st_r _ _ _ _ _ hq, fun E2 hE2 => ?_⟩)
  · rw [kc (by omega)]
    exact ⟨vpk (by omega) (by omega), iT ((cl_le ev).mpr hz) (s5_treaties (fun x hx => cl_x hV hx) (s5_notes_f ⟨isB0, l00 (s5_signs hR hV ha hb hab (Or.inr hcls) h)⟩))⟩
  · have hR2 : rE E2 (M 1) c := rE_rows hE2 hR
    have hup := up_sgn hR2 hV ha hb hab (Or.inr hcls)
    refine ⟨_, fun post h => ?_, ⟨c, hup.1, hup.2⟩⟩
    unfold A_t wp_X3_sign
    rw [i5r, i5r, nI_add, nI_add, kc (by omega), kc (by omega)]
    refine ⟨vpk (by omega) (by omega), fun o1 e1 => ⟨vpk (by omega) (by omega), fun o2 e2 => s3_treaties ?_⟩⟩
    subst e1; subst e2
    rw [tr_eq hup.1 hup.2]
    exact h
theorem out_t2 {E M : Off} {c T : Nat} (hR : rE E (M 1) c) (hV : vN (M 1) c T) (hT0 : T ≤ 10240) (p0 p1 p2 : Int32) (hcls : isCls p2) : outc (C_t p0 p1 p2) (A_t p0 p1 p2) (R_t2 p0 p1 p2) B2 E M T := by
  have hc := hR.1
  have hm := hR.2.1
  have h14 := hV.1
  cases hd : isD p0
  · exact Or.inl ⟨-1, 1, Or.inl ⟨rfl, rfl⟩, fun post h => s3_isD hd (b00 h), fun F J A1 h => s5_isD hd (b00 h)⟩
  obtain ⟨a, ha, rfl⟩ := isD_c hd
  cases hd2 : isD p1
  · exact Or.inl ⟨-1, 1, Or.inl ⟨rfl, rfl⟩, fun post h => s3_isD hd (b10 (s3_isD hd2 (b01 h))), fun F J A1 h => s5_isD hd (b10 (s5_isD hd2 (by first | exact b00 h | exact b01 h)))⟩
  obtain ⟨b, hb, rfl⟩ := isD_c hd2
  by_cases hab : a = b
  · subst hab
    exact Or.inl ⟨-2, 2, Or.inr ⟨rfl, rfl⟩, fun post h => s3_isD hd (b10 (s3_isD hd2 (b11 (iT rfl h)))), fun F J A1 h => s5_isD hd (b10 (s5_isD hd2 (by first | exact b11 (iT rfl h) | exact b10 (jT rfl h))))⟩
  have hne : ¬ nI a = nI b := fun y => hab ((nI_eqi (by omega) (by omega)).mp y)
  obtain ⟨⟨i, hi, h1⟩, -⟩ := cls_yes hcls
  have hi0 : 0 ≤ nI i := by rw [ile]; exact nI_pos (by omega)
  have hin : ∀ {F : Int32 → Prop} {J : Off → Prop} {A1 : Int32 → Off → Prop}, wp_X5_cannotSign (fun v10 o9 => ((v10 = 0 → wp_X5_signs A1 o9 (nI a) (nI b) p2) ∧ (¬ v10 = 0 → J o9))) M (nI a) (nI b) → R_t2 (nI a) (nI b) p2 F J A1 M := by
    intro F J A1 h
    refine s5_isD hd (b10 (s5_isD hd2 ?_))
    exact b10 (jF hne h)
  have hcl : ∀ {E : Off} {post : Int32 → Off → Prop}, wp_X3_hasTreaty (fun v4 => ((v4 = 0 → post 0 E) ∧ (¬ v4 = 0 → wp_X3_treaties (fun v5 => wp_X0_because (fun v7 o6 => post v7 o6) E 16 v5) E))) E (nI a) (nI b) → C_t (nI a) (nI b) p2 post E := by
    intro E post h
    exact s3_isD hd (b10 (s3_isD hd2 (b11 (iF hne (s_cls (by rw [h1]; exact iT hi0 h))))))
  have ee := cl_eq hR hV ha hb
  have ev : M 1 (tI a b) = 0 ∨ isCls (M 1 (tI a b)) := by
    rcases cl_v hV ha hb with h | h
    · exact Or.inl h
    · exact Or.inr h.2
  obtain ⟨t1, t2⟩ := tI_lt ha hb
  by_cases hz : M 1 (tI a b) = 0
  case neg =>
    refine Or.inr (Or.inl ⟨16, nI (trM (M 1)), by omega, by omega, fun E hE post h => ?_, fun F J A1 h => hin (s5_treatyOf ha hb ?_)⟩)
    · have hR := rE_rows hE hR
      have ee := cl_eq hR hV ha hb
      refine hcl (s3_hasTreaty ha hb ?_)
      rw [ee, decide_eq_false hz]
      refine b10 (s3_treaties ?_)
      rw [tr_eq hR hV]
      intro o1 e1
      subst e1
      exact h
    · rw [kc (by omega)]
      exact ⟨vpk (by omega) (by omega), iF (fun y => hz ((cl_le ev).mp y)) (s5_treaties (fun x hx => cl_x hV hx) (s5_notes_t ⟨isB1, l10 h⟩))⟩
  refine Or.inr (Or.inr ⟨fun post h => hcl (s3_hasTreaty ha hb (by rw [ee, decide_eq_true hz]; exact b00 h)), nI (trM (st M 1 (tI a b) p2 1)), st M 1 (tI a b) p2, fun F J A1 h => hin (s5_treatyOf ha hb ?_), fun q hq => st_r _ _ _ _ _ hq, fun E2 hE2 => ?_⟩)
  · rw [kc (by omega)]
    exact ⟨vpk (by omega) (by omega), iT ((cl_le ev).mpr hz) (s5_treaties (fun x hx => cl_x hV hx) (s5_notes_f ⟨isB0, l00 (s5_signs hR hV ha hb hab (Or.inr hcls) h)⟩))⟩
  · have hR2 : rE E2 (M 1) c := rE_rows hE2 hR
    have hup := up_sgn hR2 hV ha hb hab (Or.inr hcls)
    refine ⟨_, fun post h => ?_, ⟨c, hup.1, hup.2⟩⟩
    unfold A_t wp_X3_sign
    rw [i5r, i5r, nI_add, nI_add, kc (by omega), kc (by omega)]
    refine ⟨vpk (by omega) (by omega), fun o1 e1 => ⟨vpk (by omega) (by omega), fun o2 e2 => s3_treaties ?_⟩⟩
    subst e1; subst e2
    rw [tr_eq hup.1 hup.2]
    exact h
theorem op_31 {j : Nat} {E M : Off} {z : Nat → Int64} {zd : Nat → UInt64} {a1 a2 a3 : Int32} (hj : j < 512) (hI : inv j E M) : wc_31 (lwInv (j + 1)) E M z zd a1 a2 a3 := by
  unfold wc_31 ww_signTreaty wp_X4_signTreaty
  exact direct (C := C_t a1 a2 (((a3).toUInt32 % 65536).toInt32)) (A := A_t a1 a2 (((a3).toUInt32 % 65536).toInt32)) (R := R_t a1 a2 (((a3).toUInt32 % 65536).toInt32)) (B := B2) (rn := 3) (W := fun kx E1 z1 => wp_X5_signTreaty (fun bx M1 => wp_X5_thrown (fun t => (t = kx ∧ ((kx = 0 → lg_cmp (z1 (0 : Int32).toNatClampNeg) (bx).toInt64 = 0) ∧ lwInv (j + 1) E1 M1 z1 zd))) M1) M a1 a2 (((a3).toUInt32 % 65536).toInt32)) hj hI (hoS fun hR hV hT0 => out_t hR hV hT0 a1 a2 (((a3).toUInt32 % 65536).toInt32)) (by decide) (fun code n hB => by rcases hB with ⟨rfl, rfl⟩ | ⟨rfl, rfl⟩; exact ⟨i1ne, Or.inl ⟨rfl, fun E1 h => Or.inl ⟨rfl, h⟩⟩⟩; exact ⟨i2ne, Or.inr (Or.inl ⟨rfl, fun E1 h => Or.inr (Or.inl ⟨rfl, h⟩)⟩)⟩) (fun E1 h => Or.inr (Or.inr ⟨rfl, h⟩)) (fun _ _ _ h => h) putG
def B3 : Int32 → Int32 → Prop := fun code n => (code = -1 ∧ n = 1) ∨ (code = -3 ∧ n = 2)
abbrev C_e (p0 p1 : Int32) (post : Int32 → Off → Prop) (o : Off) : Prop := wp_X0_endingTreaty (fun v => post v o) o p0 p1
abbrev A_e (p0 p1 : Int32) (post : Int32 → Off → Prop) (o : Off) : Prop := wp_X3_cancel post o p0 p1
abbrev R_e (p0 p1 : Int32) (F : Int32 → Prop) (J : Off → Prop) (A1 : Int32 → Off → Prop) (o : Off) : Prop := wp_X5_noTreaty (fun v2 => ((v2 ≤ 0 → wp_X5_signs A1 o p0 p1 0) ∧ (¬ v2 ≤ 0 → F v2))) o p0 p1
theorem out_e {E M : Off} {c T : Nat} (hR : rE E (M 1) c) (hV : vN (M 1) c T) (hT0 : T ≤ 10240) (p0 p1 : Int32) : outcN ZT (C_e p0 p1) (A_e p0 p1) (R_e p0 p1) B3 E M T := by
  have hc := hR.1
  have hm := hR.2.1
  have h14 := hV.1
  cases hd : isD p0
  · exact Or.inl ⟨-1, 1, Or.inl ⟨rfl, rfl⟩, fun post h => s3_isD hd (b00 h), fun F J A1 h => s5_isD hd (b00 (iF (by decide) h))⟩
  obtain ⟨a, ha, rfl⟩ := isD_c hd
  cases hd2 : isD p1
  · exact Or.inl ⟨-1, 1, Or.inl ⟨rfl, rfl⟩, fun post h => s3_isD hd (b10 (s3_isD hd2 (b01 h))), fun F J A1 h => s5_isD hd (b10 (s5_isD hd2 (b01 (iF (by decide) h))))⟩
  obtain ⟨b, hb, rfl⟩ := isD_c hd2
  have ee := cl_eq hR hV ha hb
  obtain ⟨t1, t2⟩ := tI_lt ha hb
  have hin : ∀ {F : Int32 → Prop} {J : Off → Prop} {A1 : Int32 → Off → Prop}, ((¬ M 1 (tI a b) = 0 → (((0 : Int32) ≤ 0 → wp_X5_signs A1 M (nI a) (nI b) 0) ∧ (¬ (0 : Int32) ≤ 0 → F 0))) ∧ (M 1 (tI a b) = 0 → (((2 : Int32) ≤ 0 → wp_X5_signs A1 M (nI a) (nI b) 0) ∧ (¬ (2 : Int32) ≤ 0 → F 2)))) → R_e (nI a) (nI b) F J A1 M := by
    intro F J A1 h
    refine s5_isD hd (b10 (s5_isD hd2 (b11 (s5_treatyOf ha hb ?_))))
    rw [kc (by omega)]
    exact ⟨vpk (by omega) (by omega), h⟩
  have hcl : ∀ {post : Int32 → Off → Prop}, ((bI (!decide (M 1 (tI a b) = 0)) = 0 → post (-3) E) ∧ (¬ bI (!decide (M 1 (tI a b) = 0)) = 0 → post 0 E)) → C_e (nI a) (nI b) post E := by
    intro post h
    refine s3_isD hd (b10 (s3_isD hd2 (b11 (s3_hasTreaty ha hb ?_))))
    rw [ee]
    exact h
  rcases cl_v hV ha hb with hz | ⟨hab, hcls⟩
  · exact Or.inl ⟨-3, 2, Or.inr ⟨rfl, rfl⟩, fun post h => hcl (by rw [decide_eq_true hz]; exact b00 h), fun F J A1 h => hin (jT hz (iF (by decide) h))⟩
  · have hz : ¬ M 1 (tI a b) = 0 := (cls_yes hcls).2.2.2
    refine Or.inr ⟨fun post h => hcl (by rw [decide_eq_false hz]; exact b10 h), nI (trM (st M 1 (tI a b) 0 1)), st M 1 (tI a b) 0, trivial, fun F J A1 h => hin (jF hz (iT (by decide) (s5_signs hR hV ha hb hab (Or.inl rfl) h))), fun q hq => st_r _ _ _ _ _ hq, fun E2 hE2 => ?_⟩
    have hR2 : rE E2 (M 1) c := rE_rows hE2 hR
    have hup := up_sgn hR2 hV ha hb hab (Or.inl rfl)
    refine ⟨_, fun post h => ?_, ⟨c, hup.1, hup.2⟩⟩
    unfold A_e wp_X3_cancel
    rw [i5r, i5r, nI_add, nI_add, kc (by omega), kc (by omega)]
    refine ⟨vpk (by omega) (by omega), fun o1 e1 => ⟨vpk (by omega) (by omega), fun o2 e2 => s3_treaties ?_⟩⟩
    subst e1; subst e2
    rw [tr_eq hup.1 hup.2]
    exact h
theorem op_32 {j : Nat} {E M : Off} {z : Nat → Int64} {zd : Nat → UInt64} {a1 a2 a3 : Int32} (hj : j < 512) (hI : inv j E M) : wc_32 (lwInv (j + 1)) E M z zd a1 a2 a3 := by
  unfold wc_32 ww_endTreaty wp_X4_endTreaty
  exact directN (C := C_e a1 a2) (A := A_e a1 a2) (R := R_e a1 a2) (B := B3) (W := fun kx E1 z1 => wp_X5_endTreaty (fun bx M1 => wp_X5_thrown (fun t => (t = kx ∧ ((kx = 0 → lg_cmp (z1 (0 : Int32).toNatClampNeg) (bx).toInt64 = 0) ∧ lwInv (j + 1) E1 M1 z1 zd))) M1) M a1 a2) hj hI (hoN fun hR hV hT0 => out_e hR hV hT0 a1 a2) (fun code n hB => by rcases hB with ⟨rfl, rfl⟩ | ⟨rfl, rfl⟩; exact ⟨i1ne, Or.inl ⟨rfl, fun E1 h => Or.inl ⟨rfl, h⟩⟩⟩; exact ⟨i2ne, Or.inr (Or.inr ⟨rfl, fun E1 h => Or.inr ⟨rfl, h⟩⟩)⟩) (fun _ _ _ h => h) (fun _ _ _ h => h)
theorem isC_u (x : Int32) : isC (u16F x) := u16 x
theorem op_33 {j : Nat} {E M : Off} {z : Nat → Int64} {zd : Nat → UInt64} {a1 a2 a3 : Int32} (hj : j < 512) (hI : inv j E M) : wc_33 (lwInv (j + 1)) E M z zd a1 a2 a3 := by
  obtain ⟨c, T, hc, hm, h14, hR, hV⟩ := inv_c hI
  cases hd : isD a1
  · have hn : ∀ post : Int32 → Prop, post 1 → wp_X5_noTreaty post M a1 a2 := fun post h => s5_isD hd (b00 h)
    refine s4_drawer_f hd (Or.inl ⟨rfl, hn _ (fun o2 e2 => ?_)⟩)
    subst e2
    refine iF (by simp [st_at]) ⟨isC32, fin_x i1ne (by simp [st_at]) (inv_t 1 hI)⟩
  obtain ⟨a, ha, rfl⟩ := isD_c hd
  cases hd2 : isD a2
  · have hn : ∀ post : Int32 → Prop, post 1 → wp_X5_noTreaty post M (nI a) a2 := fun post h => s5_isD hd (b10 (s5_isD hd2 (b01 h)))
    refine s4_drawer_t hd (s4_drawer_f hd2 (Or.inl ⟨rfl, hn _ (fun o2 e2 => ?_)⟩))
    subst e2
    refine iF (by simp [st_at]) ⟨isC32, fin_x i1ne (by simp [st_at]) (inv_t 1 hI)⟩
  obtain ⟨b, hb, rfl⟩ := isD_c hd2
  have ee := cl_eq hR hV ha hb
  obtain ⟨t1, t2⟩ := tI_lt ha hb
  have hn : ∀ post : Int32 → Prop, ((¬ M 1 (tI a b) = 0 → post 0) ∧ (M 1 (tI a b) = 0 → post 2)) → wp_X5_noTreaty post M (nI a) (nI b) := fun post h => s5_isD hd (b10 (s5_isD hd2 (b11 (s5_treatyOf ha hb (by rw [kc (by omega)]; exact ⟨vpk (by omega) (by omega), h⟩)))))
  refine s4_drawer_t hd (s4_drawer_t hd2 (s3_hasTreaty ha hb ?_))
  rw [ee]
  unfold wp_X4_requireElement
  by_cases hz : M 1 (tI a b) = 0
  · rw [decide_eq_true hz]
    refine b01 (Or.inr ⟨rfl, hn _ (jT hz (fun o2 e2 => ?_))⟩)
    subst e2
    refine iF (by simp [st_at]) ⟨isC32, fin_x i2ne (by simp [st_at]) (inv_t 2 hI)⟩
  · rw [decide_eq_false hz]
    refine b11 (s3_clause ha hb ⟨isC_u _, hn _ (jF hz (fun o2 e2 => ?_))⟩)
    subst e2
    refine iT (by simp [st_at]) (s5_treatyOf ha hb ⟨vpk (by omega) (by omega), isC_u _, ?_⟩)
    rw [kc (by omega)]
    refine fin_i (by simp [st_at]) ?_ (inv_t 0 hI)
    rw [ee, st_at, if_neg (by omega)]
