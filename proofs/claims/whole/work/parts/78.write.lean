/-! ===== a sock in letters ===== -/
def dg (n : Nat) : List Nat :=
  if n < 10 then [48 + n] else if n < 100 then [48 + n / 10, 48 + n % 10] else if n < 1000 then [48 + n / 100, 48 + n / 10 % 10, 48 + n % 10] else if n < 10000 then [48 + n / 1000, 48 + n / 100 % 10, 48 + n / 10 % 10, 48 + n % 10] else [48 + n / 10000, 48 + n / 1000 % 10, 48 + n / 100 % 10, 48 + n / 10 % 10, 48 + n % 10]
def CA (E Ec : Off) (L : List Nat) : Prop := (∀ k, k ≠ 50 → k ≠ 51 → Ec k = E k) ∧ Ec 50 1 = 0 ∧ Ec 50 3 = nI L.length ∧ ∀ i, i < L.length → Ec 51 i = nI (L.getD i 0)
def CM (M Mc : Off) (L : List Nat) : Prop := (∀ r, r ≠ 0 → r ≠ 6 → Mc r = M r) ∧ (∀ q, q ≠ 15 → Mc 0 q = M 0 q) ∧ Mc 0 15 = nI L.length ∧ ∀ i, i < L.length → Mc 6 i = nI (L.getD i 0)
theorem getD_l {L ds : List Nat} {i : Nat} (h : i < L.length) : (L ++ ds).getD i 0 = L.getD i 0 := by
  simp only [List.getD, List.getElem?_append_left h]
theorem getD_r {L ds : List Nat} {i : Nat} : (L ++ ds).getD (L.length + i) 0 = ds.getD i 0 := by
  simp only [List.getD, List.getElem?_append_right (Nat.le_add_right L.length i), Nat.add_sub_cancel_left]
theorem CA_app {E Ec E2 : Off} {L ds : List Nat} (h : CA E Ec L) (h1 : ∀ k, k ≠ 50 → k ≠ 51 → E2 k = Ec k) (h2 : E2 50 1 = 0) (h3 : E2 50 3 = nI (L.length + ds.length)) (h4 : ∀ i, i < L.length → E2 51 i = Ec 51 i) (h5 : ∀ i, i < ds.length → E2 51 (L.length + i) = nI (ds.getD i 0)) : CA E E2 (L ++ ds) := by
  obtain ⟨a1, a2, a3, a4⟩ := h
  refine ⟨fun k hk hk2 => (h1 k hk hk2).trans (a1 k hk hk2), h2, by rw [h3, List.length_append], fun i hi => ?_⟩
  by_cases e : i < L.length
  · rw [h4 i e, a4 i e, getD_l e]
  · rw [List.length_append] at hi
    have := h5 (i - L.length) (by omega)
    rw [← getD_r (L := L), show L.length + (i - L.length) = i by omega] at this
    exact this
theorem CM_app {M Mc M2 : Off} {L ds : List Nat} (h : CM M Mc L) (h1 : ∀ k, k ≠ 0 → k ≠ 6 → M2 k = Mc k) (h2 : ∀ q, q ≠ 15 → M2 0 q = Mc 0 q) (h3 : M2 0 15 = nI (L.length + ds.length)) (h4 : ∀ i, i < L.length → M2 6 i = Mc 6 i) (h5 : ∀ i, i < ds.length → M2 6 (L.length + i) = nI (ds.getD i 0)) : CM M M2 (L ++ ds) := by
  obtain ⟨a1, a2, a3, a4⟩ := h
  refine ⟨fun k hk hk2 => (h1 k hk hk2).trans (a1 k hk hk2), fun q hq => (h2 q hq).trans (a2 q hq), by rw [h3, List.length_append], fun i hi => ?_⟩
  by_cases e : i < L.length
  · rw [h4 i e, a4 i e, getD_l e]
  · rw [List.length_append] at hi
    have := h5 (i - L.length) (by omega)
    rw [← getD_r (L := L), show L.length + (i - L.length) = i by omega] at this
    exact this
/-! the class's builder -/
theorem s16 : (16 : Int32) >>> ((0 : Int32) &&& 31) = nI 16 := by decide
theorem jb_room {post : Off → Prop} {o : Off} {n : Nat} (h1 : o 0 1 = 0) (hn : n ≤ 16) (h : post o) : wp_J5_ensureCapacityInternal_d00df post o (nI n) := by
  intro v1 e1
  rw [h1, s16] at e1
  subst e1
  exact iT ((sub_le (by omega) (by omega)).mpr hn) h
theorem jb_lat {post : Int32 → Prop} {o : Off} (h1 : o 0 1 = 0) (h : post 1) : wp_J5_isLatin1_aae02 post o :=
  ⟨fun y => absurd y (by decide), fun _ => jT h1 h⟩
theorem nar_b : ∀ ch, ch < 128 → vp_nar .byte (nI ch) = nI ch ∧ vp_nar .byte ((nI ch).toInt8.toInt32) = nI ch := by decide +kernel
theorem jb_char {post : Off → Prop} {o : Off} {l ch : Nat} (h1 : o 0 1 = 0) (h3 : o 0 3 = nI l) (hl : l < 16) (hch : ch < 128) (h : post (st (st o 0 3 (nI (l + 1))) 1 l (nI ch))) : wp_J4_append_cf468 post o (nI ch) := by
  unfold wp_J4_append_cf468 wp_J5_append_3fe6f
  rw [h3, nI_add1]
  refine jb_room h1 (by omega) (jb_lat h1 ⟨fun y => absurd y (by decide), fun _ => ?_⟩)
  refine iF (by rw [show (255 : Int32) = nI 255 from rfl, nI_lti (by omega) (by omega)]; omega) ⟨fun y => absurd y (by decide), fun _ o6 e6 => ?_⟩
  rw [h3, kc (by omega), (nar_b ch hch).2]
  rw [h3, nI_add1] at e6
  subst e6
  refine ⟨vpk hl (by omega), fun o7 e7 => ?_⟩
  subst e7
  exact h
theorem s4_c {post : Off → Prop} {E Ec : Off} {L : List Nat} {ch : Nat} (hC : CA E Ec L) (hl : L.length < 16) (hch : ch < 128) (h : ∀ E2, CA E E2 (L ++ [ch]) → post E2) : wp_J4_append_cf468 (fun o1 => (∀ o2 : Off, o2 = put Ec 50 2 o1 → post o2)) (sh Ec 50) (nI ch) := by
  obtain ⟨a1, a2, a3, a4⟩ := id hC
  refine jb_char (l := L.length) a2 a3 hl hch (fun o2 e2 => h o2 ?_)
  have hr : ∀ k, k ≠ 50 → k ≠ 51 → o2 k = Ec k := fun k h1 h2 => by rw [e2, put_hi (by omega)]
  have h50 : ∀ q, o2 50 q = if q = 3 then nI (L.length + 1) else Ec 50 q := fun q => by
    rw [e2, put_at, if_pos ⟨by omega, by omega⟩, st_r _ _ _ _ _ (by decide), st_at]
    by_cases e : q = 3
    · rw [if_pos ⟨rfl, e⟩, if_pos e]
    · rw [if_neg (fun y => e y.2), if_neg e]; rfl
  have h51 : ∀ q, o2 51 q = if q = L.length then nI ch else Ec 51 q := fun q => by
    rw [e2, put_at, if_pos ⟨by omega, by omega⟩, st_at]
    by_cases e : q = L.length
    · rw [if_pos ⟨rfl, e⟩, if_pos e]
    · rw [if_neg (fun y => e y.2), if_neg e, st_r _ _ _ _ _ (by decide)]; rfl
  refine CA_app hC hr ?_ ?_ (fun i hi => ?_) (fun i hi => ?_)
  · rw [h50]; exact a2
  · rw [h50]; rfl
  · rw [h51, if_neg (by omega)]
  · rw [List.length_singleton] at hi
    rw [show i = 0 by omega, Nat.add_zero, h51, if_pos rfl]
    rfl
theorem ng_int {n : Nat} (h : n < 100000) : (-(nI n)).toInt = -(n : Int) := by
  rw [Int32.toInt_neg, nI_toInt (by omega), Int.bmod_eq_of_le (by omega) (by omega)]
theorem ng_ng (n : Nat) : -(-(nI n)) = nI n := Int32.neg_neg
theorem nI_m1 {a : Nat} : nI (a + 1) + (-1) = nI a := by
  rw [← nI_add1, Int32.add_assoc, show ((1 : Int32) + (-1)) = 0 from by decide, Int32.add_zero]
theorem ng_lt {n p : Nat} (h : n < 100000) (hp : p < 100000) : -(nI p) < -(nI n) ↔ n < p := by
  rw [Int32.lt_iff_toInt_lt, ng_int h, ng_int hp]; omega
theorem ng_le {n p : Nat} (h : n < 100000) (hp : p < 100000) : -(nI n) ≤ -(nI p) ↔ p ≤ n := by
  rw [Int32.le_iff_toInt_le, ng_int h, ng_int hp]; omega
theorem ng_div {n : Nat} (h : n < 100000) : -(nI n) / 100 = -(nI (n / 100)) := by
  rw [← Int32.toInt_inj, Int32.toInt_div, ng_int h, ng_int (by omega), show (100 : Int32).toInt = 100 from rfl, Int.neg_tdiv]
  rw [show ((n : Int).tdiv 100) = ((n / 100 : Nat) : Int) from rfl, Int.bmod_eq_of_le (by omega) (by omega)]
theorem ng_mod {n : Nat} (h : n < 100000) : -(nI (n / 100)) * 100 - -(nI n) = nI (n % 100) := by
  rw [← Int32.toInt_inj, Int32.toInt_sub, Int32.toInt_mul, ng_int h, ng_int (by omega), nI_toInt (by omega), show (100 : Int32).toInt = 100 from rfl, Int.bmod_eq_of_le (n := -((n / 100 : Nat) : Int) * 100) (by omega) (by omega), Int.bmod_eq_of_le (by omega) (by omega)]
  omega
theorem gc_step {post : Int32 → Off → Prop} {m n a : Nat} {o : Off} (h : n < 100000) (h100 : 100 ≤ n) (ha : a + 2 ≤ 16) (hp : wl_J6_getChars_ba4f3_22 post m (st (st o 1 (a + 1) (nI (48 + n % 10))) 1 a (nI (48 + n / 10 % 10))) (-(nI (n / 100))) (nI a) 0) : wl_J6_getChars_ba4f3_22 post (m + 1) o (-(nI n)) (nI (a + 2)) 0 := by
  rw [wl_J6_getChars_ba4f3_22]
  refine iF (by rw [show (-100 : Int32) = -(nI 100) from by decide, ng_lt h (by omega)]; omega) (fun v7 e7 v8 e8 v9 e9 => ?_)
  rw [ng_div h] at e7
  subst e7
  rw [ng_mod h] at e8
  rw [nI_m1] at e9
  subst e8; subst e9
  rw [kc (by omega), kc (by omega), (nar_b _ (by omega)).1]
  refine ⟨vpk (by omega) (by omega), vpk (by omega) (by omega), fun o10 e10 v11 e11 => ?_⟩
  rw [nI_m1] at e11
  subst e11
  rw [kc (by omega), (nar_b _ (by omega)).1]
  refine ⟨vpk (by omega) (by omega), vpk (by omega) (by omega), fun o12 e12 => ?_⟩
  rw [e12, e10, show n % 100 % 10 = n % 10 by omega, show n % 100 / 10 = n / 10 % 10 by omega]
  exact hp
theorem gc_end {post : Int32 → Off → Prop} {o : Off} {v : Int32} (h : post v o) : wj_J6_getChars_ba4f3_104 post o v 0 := l00 h
theorem gc_one {post : Int32 → Off → Prop} {m n a : Nat} {o : Off} (h : n < 10) (ha : a + 1 ≤ 16) (hp : post (nI a) (st o 1 a (nI (48 + n)))) : wl_J6_getChars_ba4f3_22 post (m + 1) o (-(nI n)) (nI (a + 1)) 0 := by
  rw [wl_J6_getChars_ba4f3_22, ng_ng]
  refine iT (by rw [show (-100 : Int32) = -(nI 100) from by decide, ng_lt (by omega) (by omega)]; omega) (fun v1 e1 => ?_)
  rw [nI_m1] at e1
  subst e1
  rw [kc (by omega), kc (by omega), (nar_b _ (by omega)).1, show n % 10 = n by omega]
  refine ⟨vpk (by omega) (by omega), vpk (by omega) (by omega), fun o2 e2 => iT (by rw [show (-9 : Int32) = -(nI 9) from by decide, ng_le (by omega) (by omega)]; omega) (gc_end ?_)⟩
  rw [e2]
  exact hp
theorem gc_two {post : Int32 → Off → Prop} {m n a : Nat} {o : Off} (h : n < 100) (h10 : 10 ≤ n) (ha : a + 2 ≤ 16) (hp : post (nI a) (st (st o 1 (a + 1) (nI (48 + n % 10))) 1 a (nI (48 + n / 10)))) : wl_J6_getChars_ba4f3_22 post (m + 1) o (-(nI n)) (nI (a + 2)) 0 := by
  rw [wl_J6_getChars_ba4f3_22, ng_ng]
  refine iT (by rw [show (-100 : Int32) = -(nI 100) from by decide, ng_lt (by omega) (by omega)]; omega) (fun v1 e1 => ?_)
  rw [nI_m1] at e1
  subst e1
  rw [kc (by omega), kc (by omega), (nar_b _ (by omega)).1]
  refine ⟨vpk (by omega) (by omega), vpk (by omega) (by omega), fun o2 e2 => iF (by rw [show (-9 : Int32) = -(nI 9) from by decide, ng_le (by omega) (by omega)]; omega) (fun v5 e5 => ?_)⟩
  rw [nI_m1] at e5
  subst e5
  rw [kc (by omega), (nar_b _ (by omega)).1]
  refine ⟨vpk (by omega) (by omega), vpk (by omega) (by omega), fun o6 e6 => gc_end ?_⟩
  rw [e6, e2]
  exact hp
theorem jb_size {post : Int32 → Prop} {n : Nat} (h : n < 100000) (hp : post (nI (dg n).length)) : wp_J6_stringSize_0f7a4 post (nI n) := by
  refine iF (nI_pos (by omega)) (fun v3 e3 => ⟨5, ?_⟩)
  subst e3
  have hs : ∀ (m p x : Nat), p < 100000 → x < 10 → p ≤ n → wl_J6_stringSize_0f7a4_16 post m (-(nI n)) 0 (10 * (-(nI p))) (nI (x + 1)) → wl_J6_stringSize_0f7a4_16 post (m + 1) (-(nI n)) 0 (-(nI p)) (nI x) := by
    intro m p x hp hx hle h2
    rw [wl_J6_stringSize_0f7a4_16]
    refine iF (by rw [show (10 : Int32) = nI 10 from rfl, nI_lei (by omega) (by omega)]; omega) (iT ((ng_le h hp).mpr hle) (fun v1 e1 v2 e2 => ?_))
    rw [nI_add1] at e2
    subst e1; subst e2
    exact h2
  have he : ∀ (m p x : Nat), p < 100000 → x < 10 → n < p → (dg n).length = x → wl_J6_stringSize_0f7a4_16 post (m + 1) (-(nI n)) 0 (-(nI p)) (nI x) := by
    intro m p x hp2 hx hlt hlen
    rw [wl_J6_stringSize_0f7a4_16]
    refine iF (by rw [show (10 : Int32) = nI 10 from rfl, nI_lei (by omega) (by omega)]; omega) (iF (fun y => by rw [ng_le h hp2] at y; omega) ?_)
    rw [nI_add0, ← hlen]
    exact hp
  have c1 : (10 : Int32) * (-(nI 10)) = -(nI 100) := by decide
  have c2 : (10 : Int32) * (-(nI 100)) = -(nI 1000) := by decide
  have c3 : (10 : Int32) * (-(nI 1000)) = -(nI 10000) := by decide
  show wl_J6_stringSize_0f7a4_16 post 5 (-(nI n)) 0 (-(nI 10)) (nI 1)
  by_cases h1 : n < 10
  · exact he 4 10 1 (by omega) (by omega) h1 (by unfold dg; rw [if_pos h1]; rfl)
  refine hs 4 10 1 (by omega) (by omega) (by omega) ?_
  rw [c1]
  by_cases h2 : n < 100
  · exact he 3 100 2 (by omega) (by omega) h2 (by unfold dg; rw [if_neg h1, if_pos h2]; rfl)
  refine hs 3 100 2 (by omega) (by omega) (by omega) ?_
  rw [c2]
  by_cases h3 : n < 1000
  · exact he 2 1000 3 (by omega) (by omega) h3 (by unfold dg; rw [if_neg h1, if_neg h2, if_pos h3]; rfl)
  refine hs 2 1000 3 (by omega) (by omega) (by omega) ?_
  rw [c3]
  by_cases h4 : n < 10000
  · exact he 1 10000 4 (by omega) (by omega) h4 (by unfold dg; rw [if_neg h1, if_neg h2, if_neg h3, if_pos h4]; rfl)
  refine hs 1 10000 4 (by omega) (by omega) (by omega) ?_
  have c4 : (10 : Int32) * (-(nI 10000)) = -(nI 100000) := by decide
  rw [c4, wl_J6_stringSize_0f7a4_16]
  refine iF (by decide) (iF (fun y => ?_) ?_)
  · rw [Int32.le_iff_toInt_le, ng_int h, show (-(nI 100000)).toInt = -100000 from by decide] at y
    omega
  · rw [nI_add0]
    have : (dg n).length = 5 := by unfold dg; rw [if_neg h1, if_neg h2, if_neg h3, if_neg h4]; rfl
    rw [this] at hp
    exact hp
theorem jb_num {post : Off → Prop} {o : Off} {l n : Nat} (h : n < 100000) (h1 : o 0 1 = 0) (h3 : o 0 3 = nI l) (hl : l + (dg n).length ≤ 16) (hp : ∀ o2 : Off, (∀ k, k ≠ 0 → k ≠ 1 → o2 k = o k) → o2 0 1 = 0 → o2 0 3 = nI (l + (dg n).length) → (∀ q, q < l → o2 1 q = o 1 q) → (∀ i, i < (dg n).length → o2 1 (l + i) = nI ((dg n).getD i 0)) → post o2) : wp_J4_append_bf812 post o (nI n) := by
  intro v1 e1
  rw [h3] at e1
  subst e1
  refine jb_size h (fun v3 e3 => ?_)
  rw [nI_add] at e3
  subst e3
  refine jb_room h1 hl (jb_lat h1 ⟨fun y => absurd y (by decide), fun _ => ?_⟩)
  have hg : (∃ m : Nat, wl_J6_getChars_ba4f3_22 (fun v7 o6 => wj_J5_append_c97b9_48 post o6 (nI (l + (dg n).length))) m o (-(nI n)) (nI (l + (dg n).length)) 0) → wp_J6_getChars_ba4f3 (fun v7 o6 => wj_J5_append_c97b9_48 post o6 (nI (l + (dg n).length))) o (nI n) (nI (l + (dg n).length)) := fun hm => iT (by rw [ile]; exact nI_pos (by omega)) (l01 (fun v13 e13 => by subst e13; exact hm))
  refine hg ?_
  have fin : ∀ o2 : Off, (∀ k, k ≠ 1 → o2 k = o k) → (∀ q, q < l → o2 1 q = o 1 q) → (∀ i, i < (dg n).length → o2 1 (l + i) = nI ((dg n).getD i 0)) → wj_J5_append_c97b9_48 post o2 (nI (l + (dg n).length)) := by
    intro o2 f1 f2 f3 o8 e8
    subst e8
    refine hp _ (fun k k0 k1 => by rw [st_r _ _ _ _ _ k0]; exact f1 k k1) ?_ ?_ (fun q hq => by rw [st_r _ _ _ _ _ (by decide)]; exact f2 q hq) (fun i hi => by rw [st_r _ _ _ _ _ (by decide)]; exact f3 i hi)
    · rw [st_at, if_neg (by omega), f1 0 (by decide)]; exact h1
    · rw [st_at, if_pos ⟨rfl, rfl⟩]
  by_cases n1 : n < 10
  · have ed : dg n = [48 + n] := by unfold dg; rw [if_pos n1]
    rw [ed] at hl fin ⊢
    refine ⟨1, gc_one n1 hl (fin _ (fun k hk => st_r _ _ _ _ _ hk) (fun q hq => by rw [st_at, if_neg (by omega)]) (fun i hi => ?_))⟩
    have : i = 0 := by simp at hi; omega
    subst this
    simp [st_at]
  by_cases n2 : n < 100
  · have ed : dg n = [48 + n / 10, 48 + n % 10] := by unfold dg; rw [if_neg n1, if_pos n2]
    rw [ed] at hl fin ⊢
    refine ⟨1, gc_two n2 (by omega) hl (fin _ (fun k hk => by rw [st_r _ _ _ _ _ hk, st_r _ _ _ _ _ hk]) (fun q hq => by rw [st_at, if_neg (by omega), st_at, if_neg (by omega)]) (fun i hi => ?_))⟩
    have : i = 0 ∨ i = 1 := by simp at hi; omega
    rcases this with rfl | rfl <;> simp [st_at]
  by_cases n3 : n < 1000
  · have ed : dg n = [48 + n / 100, 48 + n / 10 % 10, 48 + n % 10] := by unfold dg; rw [if_neg n1, if_neg n2, if_pos n3]
    rw [ed] at hl fin ⊢
    refine ⟨2, gc_step (a := l + 1) h (by omega) hl (gc_one (by omega) (by simp at hl; omega) (fin _ (fun k hk => by rw [st_r _ _ _ _ _ hk, st_r _ _ _ _ _ hk, st_r _ _ _ _ _ hk]) (fun q hq => by rw [st_at, if_neg (by omega), st_at, if_neg (by omega), st_at, if_neg (by omega)]) (fun i hi => ?_)))⟩
    have : i = 0 ∨ i = 1 ∨ i = 2 := by simp at hi; omega
    rcases this with rfl | rfl | rfl <;> simp [st_at]
  by_cases n4 : n < 10000
  · have ed : dg n = [48 + n / 1000, 48 + n / 100 % 10, 48 + n / 10 % 10, 48 + n % 10] := by unfold dg; rw [if_neg n1, if_neg n2, if_neg n3, if_pos n4]
    rw [ed] at hl fin ⊢
    refine ⟨2, gc_step (a := l + 2) h (by omega) hl (gc_two (by omega) (by omega) (by simp at hl; omega) (fin _ (fun k hk => by rw [st_r _ _ _ _ _ hk, st_r _ _ _ _ _ hk, st_r _ _ _ _ _ hk, st_r _ _ _ _ _ hk]) (fun q hq => by rw [st_at, if_neg (by omega), st_at, if_neg (by omega), st_at, if_neg (by omega), st_at, if_neg (by omega)]) (fun i hi => ?_)))⟩
    have : i = 0 ∨ i = 1 ∨ i = 2 ∨ i = 3 := by simp at hi; omega
    have e1 : n / 100 / 10 = n / 1000 := by omega
    rcases this with rfl | rfl | rfl | rfl <;> simp [st_at, e1]
  · have ed : dg n = [48 + n / 10000, 48 + n / 1000 % 10, 48 + n / 100 % 10, 48 + n / 10 % 10, 48 + n % 10] := by unfold dg; rw [if_neg n1, if_neg n2, if_neg n3, if_neg n4]
    rw [ed] at hl fin ⊢
    refine ⟨3, gc_step (a := l + 3) h (by omega) hl (gc_step (a := l + 1) (by omega) (by omega) (by simp at hl; omega) (gc_one (by omega) (by simp at hl; omega) (fin _ (fun k hk => by rw [st_r _ _ _ _ _ hk, st_r _ _ _ _ _ hk, st_r _ _ _ _ _ hk, st_r _ _ _ _ _ hk, st_r _ _ _ _ _ hk]) (fun q hq => by rw [st_at, if_neg (by omega), st_at, if_neg (by omega), st_at, if_neg (by omega), st_at, if_neg (by omega), st_at, if_neg (by omega)]) (fun i hi => ?_))))⟩
    have : i = 0 ∨ i = 1 ∨ i = 2 ∨ i = 3 ∨ i = 4 := by simp at hi; omega
    have e1 : n / 100 / 10 = n / 1000 := by omega
    have e2 : n / 100 / 100 = n / 10000 := by omega
    rcases this with rfl | rfl | rfl | rfl | rfl <;> simp [st_at, e1, e2]
theorem s4_n {post : Off → Prop} {E Ec : Off} {L : List Nat} {n : Nat} (hC : CA E Ec L) (hn : n < 100000) (hl : L.length + (dg n).length ≤ 16) (h : ∀ E2, CA E E2 (L ++ dg n) → post E2) : wp_J4_append_bf812 (fun o1 => (∀ o2 : Off, o2 = put Ec 50 2 o1 → post o2)) (sh Ec 50) (nI n) := by
  obtain ⟨a1, a2, a3, a4⟩ := id hC
  refine jb_num (l := L.length) hn a2 a3 hl (fun o2 f1 f2 f3 f4 f5 o3 e3 => h o3 ?_)
  have h50 : o3 50 = o2 0 := by rw [e3, put_at, if_pos ⟨by omega, by omega⟩]
  have h51 : o3 51 = o2 1 := by rw [e3, put_at, if_pos ⟨by omega, by omega⟩]
  refine CA_app hC (fun k h1 h2 => by rw [e3, put_hi (by omega)]) (by rw [h50]; exact f2) (by rw [h50]; exact f3) (fun i hi => by rw [h51]; exact f4 i hi) (fun i hi => by rw [h51]; exact f5 i hi)
/-! the reference's output -/
theorem nI_div {a b : Nat} (ha : a < 2147483648) (hb : b < 2147483648) : nI a / nI b = nI (a / b) := by
  have h1 : a / b ≤ a := Nat.div_le_self a b
  rw [← Int32.toInt_inj, Int32.toInt_div, nI_toInt ha, nI_toInt hb, nI_toInt (by omega)]
  rw [show ((a : Int).tdiv (b : Int)) = ((a / b : Nat) : Int) from rfl]
  generalize a / b = q at h1 ⊢
  rw [Int.bmod_eq_of_le (by omega) (by omega)]
theorem dgt {x : Nat} (h : x < 100000) : (48 : Int32) + (nI x - nI x / 10 * 10) = nI (48 + x % 10) := by
  rw [show (10 : Int32) = nI 10 from rfl, nI_div (by omega) (by omega), nI_mul, nI_sub (by omega), show (48 : Int32) = nI 48 from rfl, nI_add, show x - x / 10 * 10 = x % 10 by omega]
theorem s5_c {post : Off → Prop} {M Mc : Off} {L : List Nat} {ch : Nat} (hC : CM M Mc L) (hl : L.length < 40) (h : ∀ M2, CM M M2 (L ++ [ch]) → post M2) : wp_X5_write post Mc (nI ch) := by
  obtain ⟨a1, a2, a3, a4⟩ := id hC
  unfold wp_X5_write
  rw [a3, kc (by omega)]
  refine ⟨vpk hl (by omega), fun o1 e1 o2 e2 => h o2 ?_⟩
  have e15 : o1 0 15 = nI L.length := by rw [e1, st_r _ _ _ _ _ (by decide)]; exact a3
  rw [e15, nI_add1] at e2
  subst e2
  refine CM_app hC (fun k h1 h2 => by rw [st_r _ _ _ _ _ h1, e1, st_r _ _ _ _ _ h2]) (fun q hq => by rw [st_at, if_neg (fun y => hq y.2), e1, st_r _ _ _ _ _ (by decide)]) (by rw [st_at, if_pos ⟨rfl, rfl⟩]; rfl) (fun i hi => by rw [st_r _ _ _ _ _ (by decide), e1, st_at, if_neg (by omega)]) (fun i hi => ?_)
  rw [List.length_singleton] at hi
  rw [show i = 0 by omega, st_r _ _ _ _ _ (by decide), e1, st_at, if_pos ⟨rfl, rfl⟩]
  rfl
def dgs (n : Nat) : Nat → List Nat
  | 0 => [48 + n % 10]
  | e + 1 => (48 + n / 10 ^ (e + 1) % 10) :: dgs n e
theorem dgs_len (n : Nat) : ∀ e, (dgs n e).length = e + 1 := by
  intro e
  induction e with
  | zero => rfl
  | succ e ih => rw [dgs, List.length_cons, ih]
theorem num18 {post : Off → Prop} {M : Off} {n : Nat} (hn : n < 100000) : ∀ (e : Nat) (L : List Nat) (Mc : Off), e ≤ 4 → CM M Mc L → L.length + e < 40 → (∀ M2, CM M M2 (L ++ dgs n e) → post M2) → wl_X5_writeNumber_18 post (e + 2) Mc (nI n) (nI (10 ^ e)) := by
  intro e
  induction e with
  | zero =>
    intro L Mc he hC hl h
    rw [wl_X5_writeNumber_18]
    refine iF (by decide) ⟨by decide, ?_⟩
    rw [nI_div (by omega) (by decide), Nat.pow_zero, Nat.div_one, dgt hn]
    refine s5_c hC (by omega) (fun M2 h2 v2 e2 => ?_)
    have e2 : v2 = 0 := e2.trans (by decide)
    subst e2
    rw [wl_X5_writeNumber_18]
    refine iT (Int32.le_refl _) (h M2 ?_)
    exact h2
  | succ e ih =>
    intro L Mc he hC hl h
    have hp : 10 ^ (e + 1) < 2147483648 := Nat.lt_of_le_of_lt (Nat.pow_le_pow_right (by omega) (show e + 1 ≤ 4 by omega)) (by decide)
    have hp0 : 0 < 10 ^ (e + 1) := Nat.pow_pos (by omega)
    have hd : n / 10 ^ (e + 1) ≤ n := Nat.div_le_self _ _
    rw [wl_X5_writeNumber_18]
    refine iF (by rw [show (0 : Int32) = nI 0 from rfl, nI_lei (by omega) (by omega)]; omega) ⟨by rw [show (0 : Int32) = nI 0 from rfl, nI_eqi (by omega) (by omega)]; omega, ?_⟩
    rw [nI_div (by omega) (by omega), dgt (by omega)]
    refine s5_c hC (by omega) (fun M2 h2 v2 e2 => ?_)
    rw [show (10 : Int32) = nI 10 from rfl, nI_div (by omega) (by omega), Nat.pow_succ, Nat.mul_div_cancel _ (by omega)] at e2
    subst e2
    refine ih (L ++ [48 + n / 10 ^ (e + 1) % 10]) M2 (by omega) h2 (by rw [List.length_append, List.length_singleton]; omega) (fun M3 h3 => h M3 ?_)
    rw [List.append_assoc] at h3
    exact h3
theorem s5_n {post : Off → Prop} {M Mc : Off} {L : List Nat} {n : Nat} (hC : CM M Mc L) (hn : n < 100000) (hl : L.length + 5 ≤ 40) (h : ∀ M2, CM M M2 (L ++ dg n) → post M2) : wp_X5_writeNumber post Mc (nI n) := by
  have up : ∀ m e, e ≤ 3 → ¬ n / 10 ^ e ≤ 9 → wl_X5_writeNumber_2 post m Mc (nI n) (nI (10 ^ (e + 1))) → wl_X5_writeNumber_2 post (m + 1) Mc (nI n) (nI (10 ^ e)) := by
    intro m e he hgt h2
    have hp : 10 ^ e < 10000000 := Nat.lt_of_le_of_lt (Nat.pow_le_pow_right (by omega) he) (by decide)
    have hp0 : 0 < 10 ^ e := Nat.pow_pos (by omega)
    have hd : n / 10 ^ e ≤ n := Nat.div_le_self _ _
    rw [wl_X5_writeNumber_2]
    refine ⟨by rw [show (0 : Int32) = nI 0 from rfl, nI_eqi (by omega) (by omega)]; omega, iF ?_ (fun v3 e3 => ?_)⟩
    · rw [nI_div (by omega) (by omega), show (9 : Int32) = nI 9 from rfl, nI_lei (by omega) (by omega)]
      exact hgt
    · rw [show (10 : Int32) = nI 10 from rfl, nI_mul, ← Nat.pow_succ] at e3
      subst e3
      exact h2
  have stop : ∀ m e, e ≤ 4 → n / 10 ^ e ≤ 9 → dgs n e = dg n → wl_X5_writeNumber_2 post (m + 1) Mc (nI n) (nI (10 ^ e)) := by
    intro m e he hle hde
    have hp : 10 ^ e < 10000000 := Nat.lt_of_le_of_lt (Nat.pow_le_pow_right (by omega) he) (by decide)
    have hp0 : 0 < 10 ^ e := Nat.pow_pos (by omega)
    rw [wl_X5_writeNumber_2]
    refine ⟨by rw [show (0 : Int32) = nI 0 from rfl, nI_eqi (by omega) (by omega)]; omega, iT ?_ ⟨e + 2, num18 hn e L Mc he hC (by omega) (by rw [hde]; exact h)⟩⟩
    rw [nI_div (by omega) (by omega), show (9 : Int32) = nI 9 from rfl, nI_lei (by omega) (by omega)]
    exact hle
  show ∃ m : Nat, wl_X5_writeNumber_2 post m Mc (nI n) (nI (10 ^ 0))
  by_cases n1 : n < 10
  · refine ⟨1, stop 0 0 (by omega) (by rw [Nat.pow_zero]; omega) ?_⟩
    unfold dg
    rw [if_pos n1]
    simp only [dgs]
    rw [show n % 10 = n by omega]
  by_cases n2 : n < 100
  · refine ⟨2, up 1 0 (by omega) (by rw [Nat.pow_zero]; omega) (stop 0 1 (by omega) (by omega) ?_)⟩
    unfold dg
    rw [if_neg n1, if_pos n2]
    simp only [dgs, Nat.reduceAdd, Nat.reducePow]
    rw [show n / 10 % 10 = n / 10 by omega]
  by_cases n3 : n < 1000
  · refine ⟨3, up 2 0 (by omega) (by rw [Nat.pow_zero]; omega) (up 1 1 (by omega) (by omega) (stop 0 2 (by omega) (by omega) ?_))⟩
    unfold dg
    rw [if_neg n1, if_neg n2, if_pos n3]
    simp only [dgs, Nat.reduceAdd, Nat.reducePow]
    rw [show n / 100 % 10 = n / 100 by omega]
  by_cases n4 : n < 10000
  · refine ⟨4, up 3 0 (by omega) (by rw [Nat.pow_zero]; omega) (up 2 1 (by omega) (by omega) (up 1 2 (by omega) (by omega) (stop 0 3 (by omega) (by omega) ?_)))⟩
    unfold dg
    rw [if_neg n1, if_neg n2, if_neg n3, if_pos n4]
    simp only [dgs, Nat.reduceAdd, Nat.reducePow]
    rw [show n / 1000 % 10 = n / 1000 by omega]
  · refine ⟨5, up 4 0 (by omega) (by rw [Nat.pow_zero]; omega) (up 3 1 (by omega) (by omega) (up 2 2 (by omega) (by omega) (up 1 3 (by omega) (by omega) (stop 0 4 (by omega) (by omega) ?_))))⟩
    unfold dg
    rw [if_neg n1, if_neg n2, if_neg n3, if_neg n4]
    simp only [dgs, Nat.reduceAdd, Nat.reducePow]
    rw [show n / 10000 % 10 = n / 10000 by omega]
