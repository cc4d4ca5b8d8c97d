/-! ===== undo, snapshot, input, output, shares ===== -/
theorem rest_keep {E E1 M M1 : Off} {len : Nat} (hL : iL E M) (hI : iI E M len) (hX : iX E M) (e13 : E1 13 = E 13) (e40 : E1 40 = E 40) (e41 : E1 41 = E 41) (e50 : E1 50 = E 50) (e51 : E1 51 = E 51) (m0 : ∀ q, q = 7 ∨ q = 8 ∨ q = 9 ∨ q = 10 ∨ q = 15 ∨ q = 19 → M1 0 q = M 0 q) (m6 : M1 6 = M 6) (m7 : M1 7 = M 7) : iL E1 M1 ∧ iI E1 M1 len ∧ iX E1 M1 := by
  refine ⟨?_, ?_, ?_⟩
  · unfold iL
    rw [e13, m0 7 (by omega), m0 8 (by omega), m0 9 (by omega), m0 10 (by omega)]
    exact hL
  · unfold iI
    rw [e40, e41, m0 19 (by omega), m7]
    exact hI
  · unfold iX
    rw [e50, e51, m0 15 (by omega), m6]
    exact hX
theorem put_lo {E o : Off} {k : Nat} (h : k < 12) : put E 0 12 o k = o k := by
  rw [put_at, if_pos ⟨by omega, by omega⟩, Nat.sub_zero]
theorem put_hi {E o : Off} {n w k : Nat} (h : k < n ∨ n + w ≤ k) : put E n w o k = E k := by
  rw [put_at, if_neg (by omega)]
theorem op_58 {j : Nat} {E M : Off} {z : Nat → Int64} {zd : Nat → UInt64} {a1 a2 a3 : Int32} (hj : j < 512) (hI : inv j E M) : wc_58 (lwInv (j + 1)) E M z zd a1 a2 a3 := by
  obtain ⟨len, T, hT, hO, ⟨i, kept, hi, hk8, e2, e3, m6, hq⟩, hS, hL, hIn, hX⟩ := id hI
  by_cases hk0 : kept = 0
  · subst hk0
    have hr : ∀ Q : Int32 → Off → Prop, Q 0 (st M 0 5 1) → wp_X5_undo Q M := fun Q h => iT (by rw [m6]; decide) (s5_checked (b := false) (iF (by decide) h))
    exact iT (by rw [e3]; decide) (l01 ⟨rfl, hr _ (fin_x i1ne rfl (inv_t 1 hI))⟩)
  have hne : ¬ nI kept ≤ 0 := by
    rw [show (0 : Int32) = nI 0 from rfl, nI_lei (by omega) (by omega)]; omega
  have hs1 : nI kept - 1 = nI (kept - 1) := by
    rw [show (1 : Int32) = nI 1 from rfl, nI_sub (by omega)]
  refine iF (by rw [e3]; exact hne) (l11 ⟨(i + 7) % 8, by omega, by rw [e2]; congr 1; omega, fun o2 h2 => ?_⟩)
  rw [e3, hs1]
  have hr : ∀ Q : Int32 → Off → Prop, Q (nI (kept - 1)) (cpO (st (st M 0 5 0) 0 6 (nI (kept - 1))) 5 1 (160 * (kept - 1)) 0) → wp_X5_undo Q M := by
    intro Q h
    refine iF (by rw [m6]; exact hne) (s5_checked (b := true) (iT (by decide) (fun o3 h3 => ?_)))
    have h4 : o3 = st (st M 0 5 0) 0 6 (nI (kept - 1)) := by
      rw [h3, ← hs1, ← m6]
      rfl
    subst h4
    have h6 : (st (st M 0 5 0) 0 6 (nI (kept - 1))) 0 6 = nI (kept - 1) := by rw [st_at, if_pos ⟨rfl, rfl⟩]
    rw [h6, n160]
    refine s5_copy (160 * (kept - 1)) 0 (by omega) (by rw [lenM5]; omega) (by decide) (Or.inl (by decide)) ?_
    rw [cpO_0 _ _ _ _ _ (by decide), h6]
    exact h
  refine hr _ (fin_i (by rw [cpO_0 _ _ _ _ _ (by decide)]; simp [st_at]) rfl ?_)
  subst h2
  generalize hM1 : cpO (st (st M 0 5 0) 0 6 (nI (kept - 1))) 5 1 (160 * (kept - 1)) 0 = M1
  have m1r : ∀ r, r ≠ 0 → r ≠ 1 → M1 r = M r := fun r h0 h1 => by
    rw [← hM1]
    unfold cpO
    rw [if_neg h1, st_r _ _ _ _ _ h0, st_r _ _ _ _ _ h0]
  have m10 : ∀ q, q ≠ 5 → q ≠ 6 → M1 0 q = M 0 q := fun q h5 h6 => by
    rw [← hM1, cpO_0 _ _ _ _ _ (by decide), st_at, if_neg (fun y => h6 y.2), st_at, if_neg (fun y => h5 y.2)]
  have m16 : M1 0 6 = nI (kept - 1) := by
    rw [← hM1, cpO_0 _ _ _ _ _ (by decide), st_at, if_pos ⟨rfl, rfl⟩]
  have m11 : ∀ x, x < 160 → M1 1 x = M 5 (160 * (kept - 1) + x) := fun x hx => by
    rw [← hM1]
    unfold cpO
    rw [if_pos rfl, if_pos (by omega), Nat.sub_zero, st_r _ _ _ _ _ (by decide), st_r _ _ _ _ _ (by decide)]
  have eB : ∀ k, k ≠ 60 → backH E ((i + 7) % 8) k = E k := fun k hk => by
    unfold backH
    rw [st_r _ _ _ _ _ hk, st_r _ _ _ _ _ hk]
  have eH : ∀ k, 12 ≤ k → k ≠ 60 → put (backH E ((i + 7) % 8)) 0 12 (sh E (100 + 20 * ((i + 7) % 8))) k = E k := fun k h12 hk => by
    rw [put_hi (by omega), eB k hk]
  have e60 : ∀ q, put (backH E ((i + 7) % 8)) 0 12 (sh E (100 + 20 * ((i + 7) % 8))) 60 q = if q = 3 then nI (kept - 1) else if q = 2 then nI ((i + 7) % 8) else E 60 q := fun q => by
    rw [put_hi (by omega)]
    unfold backH
    rw [st_at]
    by_cases h3 : q = 3
    · rw [if_pos ⟨rfl, h3⟩, if_pos h3, e3, hs1]
    · rw [if_neg (fun y => h3 y.2), if_neg h3, st_at]
      by_cases h2 : q = 2
      · rw [if_pos ⟨rfl, h2⟩, if_pos h2]
      · rw [if_neg (fun y => h2 y.2), if_neg h2]
  obtain ⟨rL, rI, rX⟩ := rest_keep (E1 := put (backH E ((i + 7) % 8)) 0 12 (sh E (100 + 20 * ((i + 7) % 8)))) (M1 := M1) hL hIn hX (eH 13 (by omega) (by omega)) (eH 40 (by omega) (by omega)) (eH 41 (by omega) (by omega)) (eH 50 (by omega) (by omega)) (eH 51 (by omega) (by omega)) (fun q hq => m10 q (by omega) (by omega)) (m1r 6 (by omega) (by omega)) (m1r 7 (by omega) (by omega))
  refine ⟨len, T, by omega, ?_, ⟨(i + 7) % 8, kept - 1, by omega, by omega, by rw [e60]; rfl, by rw [e60]; rfl, m16, fun q hq2 => ?_⟩, ?_, rL, rI, rX⟩
  · have := hq (kept - 1) (by omega)
    rw [show (i + 8 - kept + (kept - 1)) % 8 = (i + 7) % 8 by omega] at this
    exact oK_n m11 (oK_rows (fun k hk => put_lo hk) this)
  · have := hq q (by omega)
    rw [show ((i + 7) % 8 + 8 - (kept - 1) + q) % 8 = (i + 8 - kept + q) % 8 by omega, m1r 5 (by omega) (by omega)]
    exact oK_rows (fun k hk => eH _ (by omega) (by omega)) this
  · rcases hS with ⟨s1, s2⟩ | ⟨s1, s2, s3⟩
    · exact Or.inl ⟨by rw [e60]; exact s1, (m10 13 (by omega) (by omega)).trans s2⟩
    · refine Or.inr ⟨by rw [e60]; exact s1, (m10 13 (by omega) (by omega)).trans s2, ?_⟩
      rw [m1r 4 (by omega) (by omega)]
      exact oK_rows (fun k hk => eH _ (by omega) (by omega)) s3
theorem op_59 {j : Nat} {E M : Off} {z : Nat → Int64} {zd : Nat → UInt64} {a1 a2 a3 : Int32} (hj : j < 512) (hI : inv j E M) : wc_59 (lwInv (j + 1)) E M z zd a1 a2 a3 := by
  obtain ⟨len, T, hT, hO, ⟨i, kept, hi, hk8, e2, e3, m6, hq⟩, hS, hL, hIn, hX⟩ := id hI
  intro o1 h1 o2 h2
  subst h2
  refine s5_copy 0 0 (by omega) (by decide) (by decide) (Or.inl (by decide)) (fun o3 h3 => ⟨i0_160, ?_⟩)
  have m1r : ∀ r, r ≠ 0 → r ≠ 4 → o3 r = M r := fun r h0 h4 => by
    rw [h3, st_r _ _ _ _ _ h0]
    unfold cpO
    rw [if_neg h4, st_r _ _ _ _ _ h0]
  have m10 : ∀ q, q ≠ 5 → q ≠ 13 → o3 0 q = M 0 q := fun q h5 h13 => by
    rw [h3, st_at, if_neg (fun y => h13 y.2), cpO_0 _ _ _ _ _ (by decide), st_at, if_neg (fun y => h5 y.2)]
  have m13 : o3 0 13 = 1 := by rw [h3, st_at, if_pos ⟨rfl, rfl⟩]
  have m14 : ∀ x, x < 160 → o3 4 x = M 1 x := fun x hx => by
    rw [h3, st_r _ _ _ _ _ (by decide)]
    unfold cpO
    rw [if_pos rfl, if_pos (by omega), Nat.sub_zero, Nat.zero_add, st_r _ _ _ _ _ (by decide)]
  have eH : ∀ k, k ≠ 60 → (k < 260 ∨ 272 ≤ k) → o1 k = E k := fun k h60 hk => by
    rw [h1, st_r _ _ _ _ _ h60, put_hi hk]
  have e60 : ∀ q, q ≠ 4 → o1 60 q = E 60 q := fun q hq => by
    rw [h1, st_at, if_neg (fun y => hq y.2), put_hi (by omega)]
  have e64 : o1 60 4 = 1 := by rw [h1, st_at, if_pos ⟨rfl, rfl⟩]
  have e260 : ∀ k, k < 12 → sh o1 260 k = E k := fun k hk => by
    show o1 (260 + k) = E k
    rw [h1, st_r _ _ _ _ _ (by omega), put_at, if_pos ⟨by omega, by omega⟩, show 260 + k - 260 = k by omega]
  obtain ⟨rL, rI, rX⟩ := rest_keep (E1 := o1) (M1 := o3) hL hIn hX (eH 13 (by omega) (by omega)) (eH 40 (by omega) (by omega)) (eH 41 (by omega) (by omega)) (eH 50 (by omega) (by omega)) (eH 51 (by omega) (by omega)) (fun q hq => m10 q (by omega) (by omega)) (m1r 6 (by omega) (by omega)) (m1r 7 (by omega) (by omega))
  refine ⟨?_, len, T, by omega, ?_, ⟨i, kept, hi, hk8, by rw [e60 2 (by omega)]; exact e2, by rw [e60 3 (by omega)]; exact e3, (m10 6 (by omega) (by omega)).trans m6, fun q hq2 => ?_⟩, Or.inr ⟨e64, m13, ?_⟩, rL, rI, rX⟩
  · obtain ⟨c, hR, hV⟩ := hO
    rw [c0, m1r 1 (by omega) (by omega), eH 0 (by omega) (by omega), hR.1, hR.2.1]
  · rw [m1r 1 (by omega) (by omega)]
    exact oK_rows (fun k hk => eH k (by omega) (by omega)) hO
  · rw [m1r 5 (by omega) (by omega)]
    exact oK_rows (fun k hk => eH _ (by omega) (by omega)) (hq q hq2)
  · exact oK_n m14 (oK_rows e260 hO)
theorem op_60 {j : Nat} {E M : Off} {z : Nat → Int64} {zd : Nat → UInt64} {a1 a2 a3 : Int32} (hj : j < 512) (hI : inv j E M) : wc_60 (lwInv (j + 1)) E M z zd a1 a2 a3 := by
  obtain ⟨len, T, hT, hO, ⟨i, kept, hi, hk8, e2, e3, m6, hq⟩, hS, hL, hIn, hX⟩ := id hI
  rcases hS with ⟨s1, s2⟩ | ⟨s1, s2, s3⟩
  · have hr : ∀ Q : Int32 → Off → Prop, Q 0 (st M 0 5 1) → wp_X5_restoreSnapshot Q M := fun Q h => by
      unfold wp_X5_restoreSnapshot
      rw [s2]
      exact s5_checked (b := false) (iF (by decide) h)
    unfold wc_60 ww_restoreSnapshot wp_X4_restoreSnapshot
    rw [s1]
    exact l01 ⟨rfl, hr _ (fin_x i1ne rfl (inv_t 1 hI))⟩
  have hr : ∀ Q : Int32 → Off → Prop, Q (M 4 0) (st (cpO (st M 0 5 0) 4 1 0 0) 0 6 0) → wp_X5_restoreSnapshot Q M := fun Q h => by
    unfold wp_X5_restoreSnapshot
    rw [s2]
    refine s5_checked (b := true) (iT (by decide) (s5_copy 0 0 (by omega) (by decide) (by decide) (Or.inl (by decide)) (fun o4 h4 => ⟨i0_160, ?_⟩)))
    have hv : o4 1 (0 : Int32).toNatClampNeg = M 4 0 := by
      rw [c0, h4, st_r _ _ _ _ _ (by decide)]
      rfl
    rw [hv, h4]
    exact h
  unfold wc_60 ww_restoreSnapshot wp_X4_restoreSnapshot
  rw [s1]
  refine l11 (fun o2 h2 => hr _ (fin_i (by rw [st_at, if_neg (by omega), cpO_0 _ _ _ _ _ (by decide)]; simp [st_at]) ?_ ?_))
  · rw [h2, put_lo (by omega)]
    obtain ⟨c, hR, hV⟩ := s3
    rw [hR.1, hR.2.1]
  subst h2
  generalize hM1 : st (cpO (st M 0 5 0) 4 1 0 0) 0 6 0 = M1
  have m1r : ∀ r, r ≠ 0 → r ≠ 1 → M1 r = M r := fun r h0 h1 => by
    rw [← hM1, st_r _ _ _ _ _ h0]
    unfold cpO
    rw [if_neg h1, st_r _ _ _ _ _ h0]
  have m10 : ∀ q, q ≠ 5 → q ≠ 6 → M1 0 q = M 0 q := fun q h5 h6 => by
    rw [← hM1, st_at, if_neg (fun y => h6 y.2), cpO_0 _ _ _ _ _ (by decide), st_at, if_neg (fun y => h5 y.2)]
  have m16 : M1 0 6 = 0 := by rw [← hM1, st_at, if_pos ⟨rfl, rfl⟩]
  have m11 : ∀ x, x < 160 → M1 1 x = M 4 x := fun x hx => by
    rw [← hM1, st_r _ _ _ _ _ (by decide)]
    unfold cpO
    rw [if_pos rfl, if_pos (by omega), Nat.sub_zero, Nat.zero_add, st_r _ _ _ _ _ (by decide)]
  have eH : ∀ k, 12 ≤ k → k ≠ 60 → put (st E 60 3 0) 0 12 (sh E 260) k = E k := fun k h12 hk => by
    rw [put_hi (by omega), st_r _ _ _ _ _ hk]
  have e60 : ∀ q, put (st E 60 3 0) 0 12 (sh E 260) 60 q = if q = 3 then 0 else E 60 q := fun q => by
    rw [put_hi (by omega), st_at]
    by_cases h3 : q = 3
    · rw [if_pos ⟨rfl, h3⟩, if_pos h3]
    · rw [if_neg (fun y => h3 y.2), if_neg h3]
  obtain ⟨rL, rI, rX⟩ := rest_keep (E1 := put (st E 60 3 0) 0 12 (sh E 260)) (M1 := M1) hL hIn hX (eH 13 (by omega) (by omega)) (eH 40 (by omega) (by omega)) (eH 41 (by omega) (by omega)) (eH 50 (by omega) (by omega)) (eH 51 (by omega) (by omega)) (fun q hq => m10 q (by omega) (by omega)) (m1r 6 (by omega) (by omega)) (m1r 7 (by omega) (by omega))
  refine ⟨len, T, by omega, oK_n m11 (oK_rows (fun k hk => put_lo hk) s3), ⟨i, 0, hi, by omega, by rw [e60]; exact e2, by rw [e60]; rfl, m16, fun q hq2 => by omega⟩, Or.inr ⟨by rw [e60]; exact s1, (m10 13 (by omega) (by omega)).trans s2, ?_⟩, rL, rI, rX⟩
  rw [m1r 4 (by omega) (by omega)]
  exact oK_rows (fun k hk => eH _ (by omega) (by omega)) s3
theorem nar_c : ∀ ch, ch < 128 → vp_nar .char (nI ch) = nI ch := by decide +kernel
theorem op_52 {j : Nat} {E M : Off} {z : Nat → Int64} {zd : Nat → UInt64} {a1 a2 a3 : Int32} (hj : j < 512) (hI : inv j E M) : wc_52 (lwInv (j + 1)) E M z zd a1 a2 a3 := by
  obtain ⟨len, T, hT, hO, hH, hS, hL, ⟨n1, n2, n3, n4⟩, hX⟩ := id hI
  unfold wc_52 ww_appendInput wp_X4_appendInput
  generalize ((a1).toUInt32 % 65536).toInt32 = p
  have ht : ∀ v : Int32, ∀ Q : Int32 → Off → Prop, ¬ v ≤ 0 → Q 0 (st M 0 5 v) → wj_X5_appendInput_30 Q M p v := fun v Q hv h o2 h2 => by
    subst h2
    have e : st M 0 5 v 0 5 = v := by rw [st_at, if_pos ⟨rfl, rfl⟩]
    rw [e]
    exact iF hv h
  by_cases hb : p < 32 ∨ 126 < p
  · have hr : ∀ Q : Int32 → Off → Prop, Q 0 (st M 0 5 1) → wp_X5_appendInput Q M p := fun Q h => s5_in_f hb (l01 (ht 1 Q (by decide) h))
    by_cases y : p < 32
    · exact iT y (l01 (Or.inl ⟨rfl, hr _ (fin_x i1ne rfl (inv_t 1 hI))⟩))
    · exact iF y ⟨fun _ => (l01 (Or.inl ⟨rfl, hr _ (fin_x i1ne rfl (inv_t 1 hI))⟩)), fun y2 => absurd (hb.resolve_left y) y2⟩
  have hb1 : ¬ p < 32 := fun y => hb (Or.inl y)
  have hb9 : ¬ 126 < p := fun y => hb (Or.inr y)
  obtain ⟨ch, hc1, hc9, rfl⟩ := i32_rng (a := 32) (b := 126) hb1 hb9 (by omega) (by omega)
  by_cases hfull : len = 60
  · subst hfull
    have hr : ∀ Q : Int32 → Off → Prop, Q 0 (st M 0 5 2) → wp_X5_appendInput Q M (nI ch) := fun Q h => s5_in_t hb1 hb9 (l11 (jT (by rw [n2]; rfl) (ht 2 Q (by decide) h)))
    refine iF hb1 (iF hb9 (l11 (iT (by rw [n1]; decide) (l01 (Or.inr ⟨rfl, hr _ (fin_x i2ne rfl (inv_t 2 hI))⟩)))))
  have hge : ¬ (60 : Int32) ≤ nI len := by
    rw [show (60 : Int32) = nI 60 from rfl, nI_lei (by omega) (by omega)]; omega
  have hr : ∀ Q : Int32 → Off → Prop, Q (nI (len + 1)) (st (st (st M 0 5 0) 7 len (nI ch)) 0 19 (nI (len + 1))) → wp_X5_appendInput Q M (nI ch) := by
    intro Q h
    refine s5_in_t hb1 hb9 (l11 (jF (by rw [n2, show (60 : Int32) = nI 60 from rfl, nI_eqi (by omega) (by omega)]; exact hfull) (fun o2 h2 => ?_)))
    have e5 : o2 0 5 = 0 := by rw [h2, st_at, if_pos ⟨rfl, rfl⟩]
    have e19 : o2 0 19 = nI len := by rw [h2, st_at, if_neg (by omega), n2]
    rw [e5, e19, kc (by omega)]
    refine iT (by decide) ⟨vpk (by omega) (by omega), fun o3 h3 o4 h4 => ?_⟩
    have e319 : o3 0 19 = nI len := by rw [h3, st_r _ _ _ _ _ (by decide), e19]
    rw [e319, nI_add1] at h4
    have e419 : o4 0 19 = nI (len + 1) := by rw [h4, st_at, if_pos ⟨rfl, rfl⟩]
    rw [e419, h4, h3, h2]
    exact h
  have e403 : sh E 40 0 3 = nI len := n1
  refine iF hb1 (iF hb9 (l11 (iF (by rw [n1]; exact hge) (l11 (iF (by rw [e403]; exact hge) ?_)))))
  rw [e403, kc (by omega), nar_c ch (by omega)]
  refine ⟨vpk (by omega) (by omega), fun o1 h1 o2 h2 o4 h4 => ?_⟩
  have e13 : o1 0 3 = nI len := by rw [h1, st_r _ _ _ _ _ (by decide), e403]
  rw [e13, nI_add1] at h2
  have e23 : o2 0 3 = nI (len + 1) := by rw [h2, st_at, if_pos ⟨rfl, rfl⟩]
  rw [e23]
  refine hr _ (fin_i (by simp [st_at]) rfl ?_)
  have eH : ∀ k, (k < 40 ∨ 44 ≤ k) → o4 k = E k := fun k hk => by rw [h4, put_hi hk]
  have e40 : o4 40 3 = nI (len + 1) := by
    rw [h4, put_at, if_pos ⟨by omega, by omega⟩]
    exact e23
  have e41 : ∀ q, o4 41 q = if q = len then nI ch else E 41 q := fun q => by
    rw [h4, put_at, if_pos ⟨by omega, by omega⟩, h2, st_r _ _ _ _ _ (by decide), h1, st_at]
    by_cases e : q = len
    · rw [if_pos ⟨rfl, e⟩, if_pos e]
    · rw [if_neg (fun y => e y.2), if_neg e]
      rfl
  generalize hM1 : st (st (st M 0 5 0) 7 len (nI ch)) 0 19 (nI (len + 1)) = M1
  have m1r : ∀ r, r ≠ 0 → r ≠ 7 → M1 r = M r := fun r h0 h7 => by
    rw [← hM1, st_r _ _ _ _ _ h0, st_r _ _ _ _ _ h7, st_r _ _ _ _ _ h0]
  have m10 : ∀ q, q ≠ 5 → q ≠ 19 → M1 0 q = M 0 q := fun q h5 h19 => by
    rw [← hM1, st_at, if_neg (fun y => h19 y.2), st_at, if_neg (by omega), st_at, if_neg (fun y => h5 y.2)]
  have m119 : M1 0 19 = nI (len + 1) := by rw [← hM1, st_at, if_pos ⟨rfl, rfl⟩]
  have m17 : ∀ q, M1 7 q = if q = len then nI ch else M 7 q := fun q => by
    rw [← hM1, st_r _ _ _ _ _ (by decide), st_at]
    by_cases e : q = len
    · rw [if_pos ⟨rfl, e⟩, if_pos e]
    · rw [if_neg (fun y => e y.2), if_neg e, st_r _ _ _ _ _ (by decide)]
  refine ⟨len + 1, T, by omega, ?_, ?_, ?_, ?_, ⟨e40, m119, by omega, fun q hq => ?_⟩, ?_⟩
  · rw [m1r 1 (by omega) (by omega)]
    exact oK_rows (fun k hk => eH k (by omega)) hO
  · exact iH_rows (eH 60 (by omega)) (fun k _ _ => eH k (by omega)) (m10 6 (by omega) (by omega)) (m1r 5 (by omega) (by omega)) hH
  · exact iS_rows (eH 60 (by omega)) (fun k _ _ => eH k (by omega)) (m10 13 (by omega) (by omega)) (m1r 4 (by omega) (by omega)) hS
  · unfold iL
    rw [eH 13 (by omega), m10 7 (by omega) (by omega), m10 8 (by omega) (by omega), m10 9 (by omega) (by omega), m10 10 (by omega) (by omega)]
    exact hL
  · rw [e41, m17]
    by_cases e : q = len
    · rw [if_pos e, if_pos e]
      exact ⟨rfl, ch, hc1, hc9, rfl⟩
    · rw [if_neg e, if_neg e]
      exact n4 q (by omega)
  · unfold iX
    rw [eH 50 (by omega), eH 51 (by omega), m10 15 (by omega) (by omega), m1r 6 (by omega) (by omega)]
    exact hX
theorem and_255 : ∀ ch, ch < 128 → ((((nI ch) &&& (255 : Int32))).toUInt32 % 65536).toInt32 = nI ch ∧ (((nI ch)).toUInt32 % 65536).toInt32 = nI ch := by decide +kernel
theorem op_51 {j : Nat} {E M : Off} {z : Nat → Int64} {zd : Nat → UInt64} {a1 a2 a3 : Int32} (hj : j < 512) (hI : inv j E M) : wc_51 (lwInv (j + 1)) E M z zd a1 a2 a3 := by
  obtain ⟨len, T, hT, hO, hH, hS, hL, hIn, ⟨ol, x1, x2, x3, x4, x5⟩⟩ := id hI
  have hb : a1 < 0 ∨ nI ol - 1 < a1 → ∀ Q : Int32 → Off → Prop, Q 32 (st M 0 5 1) → wp_X5_outputAt Q M a1 := fun hb Q h => by
    unfold wp_X5_outputAt
    rw [x3]
    exact s5_in_f hb (s5_checked (b := false) (iF (by decide) ⟨isC32, h⟩))
  unfold wc_51 ww_outputAt wp_X4_outputAt
  by_cases h0 : a1 < 0
  · exact iT h0 (l01 ⟨rfl, hb (Or.inl h0) _ (fin_x i1ne rfl (inv_t 1 hI))⟩)
  have hl : sh E 50 0 3 = nI ol := x2
  have hsub : (nI ol - 1 < a1) ↔ nI ol ≤ a1 := by
    rw [Int32.lt_iff_toInt_lt, Int32.le_iff_toInt_le, Int32.toInt_sub, nI_toInt (by omega), show (1 : Int32).toInt = 1 from rfl, Int.bmod_eq_of_le (by omega) (by omega)]
    omega
  by_cases h1 : nI ol ≤ a1
  · refine iF h0 ?_
    show (sh E 50 0 3 ≤ a1 → _) ∧ (¬ sh E 50 0 3 ≤ a1 → _)
    rw [hl]
    exact iT h1 (l01 ⟨rfl, hb (Or.inr (hsub.mpr h1)) _ (fin_x i1ne rfl (inv_t 1 hI))⟩)
  have e := i32_nat h0
  have hq : a1.toInt.toNat < ol := by
    rw [ile, e, nI_lti (by have := a1.toInt_lt; omega) (by omega)] at h1
    omega
  generalize a1.toInt.toNat = q at e hq
  subst e
  obtain ⟨y1, ch, y2, y3⟩ := x5 q hq
  have hr : ∀ Q : Int32 → Off → Prop, Q (nI ch) (st M 0 5 0) → wp_X5_outputAt Q M (nI q) := fun Q h => by
    unfold wp_X5_outputAt
    rw [x3]
    refine s5_in_t h0 (fun y => h1 (hsub.mp y)) (s5_checked (b := true) (iT (by decide) ?_))
    rw [kc (by omega)]
    refine ⟨vpk (by omega) (by omega), u16 _, ?_⟩
    show Q (((M 6 q)).toUInt32 % 65536).toInt32 (st M 0 5 0)
    rw [y3, (and_255 ch y2).2]
    exact h
  refine iF h0 ?_
  show (sh E 50 0 3 ≤ nI q → _) ∧ (¬ sh E 50 0 3 ≤ nI q → _)
  rw [hl]
  refine iF h1 (l11 (fun v1 e1 v2 e2 => ?_))
  have ev : v1 = 0 := e1.trans x4
  subst ev
  have ev2 : v2 = nI ol := by
    rw [e2, hl]
    by_cases hh : (16 : Int32) >>> ((0 : Int32) &&& 31) < nI ol
    · exfalso
      rw [show (16 : Int32) >>> ((0 : Int32) &&& 31) = nI 16 from by decide, nI_lti (by omega) (by omega)] at hh
      omega
    · rw [if_neg hh]
  subst ev2
  refine ⟨h0, (nI_lti (by omega) (by omega)).mpr hq, l01 ?_⟩
  rw [kc (by omega)]
  refine ⟨vpk (by omega) (by omega), u16 _, u16 _, u16 _, ?_⟩
  show wp_X5_outputAt _ M (nI q)
  refine hr _ (fin_i rfl ?_ (inv_t 0 hI))
  show ((((E 51 q) &&& (255 : Int32))).toUInt32 % 65536).toInt32 = nI ch
  rw [y1, y3, (and_255 ch y2).1]
