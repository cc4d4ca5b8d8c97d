/-! ===== changes: renew, separate, pair ===== -/
theorem s5_in_t {post : Int32 → Prop} {p a b : Int32} (h1 : ¬ p < a) (h2 : ¬ b < p) (h : post 1) : wp_X5_in post p a b := ⟨fun y => absurd y h1, fun _ => ⟨fun y => absurd y h2, fun _ => h⟩⟩
theorem s5_in_f {post : Int32 → Prop} {p a b : Int32} (h1 : p < a ∨ b < p) (h : post 0) : wp_X5_in post p a b := by
  by_cases y : p < a
  · exact iT y h
  · exact iF y (iT (h1.resolve_left y) h)
theorem i32_rng {p : Int32} {a b : Nat} (h1 : ¬ p < nI a) (h2 : ¬ nI b < p) (ha : a < 2147483648) (hb : b < 2147483648) : ∃ q, a ≤ q ∧ q ≤ b ∧ p = nI q := by
  have h0 : ¬ p < 0 := fun y => by
    apply h1
    rw [Int32.lt_iff_toInt_lt, Int32.toInt_zero] at y
    rw [Int32.lt_iff_toInt_lt, nI_toInt (by omega)]
    omega
  obtain ⟨q, hq, rfl⟩ := i32_small h0 h2 hb
  rw [nI_lti (by omega) ha] at h1
  exact ⟨q, by omega, hq, rfl⟩
abbrev C_r (p0 p1 : Int32) (post : Int32 → Off → Prop) (o : Off) : Prop := wp_X0_renewing post o p0 p1
abbrev A_r (p0 p1 : Int32) (post : Int32 → Off → Prop) (o : Off) : Prop := wp_X3_extend post o p0 p1
abbrev R_r (p0 p1 : Int32) (F : Int32 → Prop) (J : Off → Prop) (A1 : Int32 → Off → Prop) (o : Off) : Prop := wp_X5_isSock (fun v2 => ((¬ v2 = 0 → wp_X5_in (fun v3 => ((¬ v3 = 0 → wp_X5_cannotRenew (fun v5 o4 => ((v5 = 0 → wp_X5_renews A1 o4 p0 p1) ∧ (¬ v5 = 0 → J o4))) o p0 p1) ∧ (v3 = 0 → F 2))) p1 1 9) ∧ (v2 = 0 → F 1))) o p0
abbrev R_r2 (p0 p1 : Int32) (F : Int32 → Prop) (J : Off → Prop) (A1 : Int32 → Off → Prop) (o : Off) : Prop := wp_X5_isSock (fun v2 => ((v2 = 0 → F 1) ∧ (¬ v2 = 0 → wp_X5_in (fun v3 => ((¬ v3 = 0 → wp_X5_cannotRenew (fun v5 o4 => ((v5 = 0 → wp_X5_renews A1 o4 p0 p1) ∧ (¬ v5 = 0 → J o4))) o p0 p1) ∧ (v3 = 0 → F 2))) p1 1 9))) o p0
theorem out_r {E M : Off} {c T : Nat} (hR : rE E (M 1) c) (hV : vN (M 1) c T) (hT0 : T ≤ 10240) (p0 p1 : Int32) : outc (C_r p0 p1) (A_r p0 p1) (R_r p0 p1) B2 E M T := by
  have hc := hR.1
  have hm := hR.2.1
  have h14 := hV.1
  cases hs : isS p0 c
  · exact Or.inl ⟨-1, 1, Or.inl ⟨rfl, rfl⟩, fun post h => s3_isS hc hs (by first | exact b00 h | exact b01 h), fun F J A1 h => s5_isS hm h14 hs (by first | exact b00 h | exact b01 h)⟩
  obtain ⟨k, hk, rfl⟩ := isS_c hs h14
  have e := vE_2 hR hk
  have e7 := vE_7 hR hk
  by_cases hb : p1 < 1 ∨ 9 < p1
  · refine Or.inl ⟨-2, 2, Or.inr ⟨rfl, rfl⟩, fun post h => s3_isS hc hs (b11 ?_), fun F J A1 h => s5_isS hm h14 hs ?_⟩
    · rw [ile p1 9]
      by_cases y : p1 < 1
      · exact iT y h
      · exact iF y ⟨fun y2 => absurd (hb.resolve_left y) y2, fun _ => h⟩
    · first
      | exact b11 (s5_in_f hb (l01 h))
      | exact b10 (s5_in_f hb (l01 h))
  have hb1 : ¬ p1 < 1 := fun y => hb (Or.inl y)
  have hb9 : ¬ 9 < p1 := fun y => hb (Or.inr y)
  by_cases hq : rV M k 2 = 3
  · obtain ⟨g0, g1, g2, g7, g3, g4, g5, g6⟩ := vE1_of hR hk
    obtain ⟨w1, w2, w3, w4, w5, w6⟩ := vV1_of hV hk
    have e6 : E 7 k = rV M k 6 := g6 hq
    have et : E 0 1 = M 1 1 := hR.2.2.1
    by_cases hv : rV M k 6 + p1 ≤ M 1 1 + 20
    · refine Or.inr (Or.inr ⟨fun post h => s3_isS hc hs (b11 ?_), rV M k 6 + p1, rset M k 6 (rV M k 6 + p1), fun F J A1 h => s5_isS hm h14 hs ?_, fun q hq => rset_r _ _ _ _ _ hq, fun E2 hE2 => ?_⟩)
      · rw [kc (by omega), ile p1 9]
        refine iF hb1 (iT hb9 ⟨vpk (by omega) (by omega), iT (e.trans hq) ⟨vpk (by omega) (by omega), fun v2 e2 => ?_⟩⟩)
        subst e2
        rw [e6, et]
        exact iT hv h
      · have hx : wp_X5_in (fun v3 => ((¬ v3 = 0 → wp_X5_cannotRenew (fun v5 o4 => ((v5 = 0 → wp_X5_renews A1 o4 (nI k) p1) ∧ (¬ v5 = 0 → J o4))) M (nI k) p1) ∧ (v3 = 0 → F 2))) p1 1 9 := by
          refine s5_in_t hb1 hb9 (l11 (s5_noRes_t (by omega) hq (l01 (s5_s (f := 6) (by omega) (by decide) ⟨vp1, ?_⟩))))
          rw [c1]
          refine iT hv (s5_s (f := 6) (by omega) (by decide) (s5_notes_f (l00 (l00 (s5_s (f := 6) (by omega) (by decide) (s5_set (f := 6) (by omega) (by decide) (s5_s (f := 6) (by omega) (by decide) ?_)))))))
          rw [rset_v _ _ _ _ _ _ (by decide) (by decide), if_pos ⟨rfl, rfl⟩]
          exact h
        first
        | exact b11 hx
        | exact b10 hx
      · have hR2 : rE E2 (M 1) c := rE_rows hE2 hR
        obtain ⟨g0, g1, g2, g7, g3, g4, g5, g6⟩ := vE1_of hR2 hk
        have e62 : E2 7 k = rV M k 6 := g6 hq
        have hup := up1 (O := st E2 7 k (E2 7 k + p1)) (M1 := rset M k 6 (rV M k 6 + p1)) hR2 hV hk (Nat.le_refl T) (fun i _ => by simp [st_at]) (fun r i h1 h8 hi => by simp [st_at, hi]) (fun r h9 h11 => by rw [st_r _ _ _ _ _ (by omega)]) (fun x hx => by rw [rset_o _ _ _ _ _ (by decide) hx]) (by
          unfold vE1
          simp (disch := decide) only [rset_v]
          simp [cV, st_at]
          exact ⟨g0, g1, g2, g7, g3, g4, g5, fun _ => e62⟩) (by
          unfold vV1
          simp (disch := decide) only [rset_v]
          simp
          refine ⟨w1, w2, w3, w4, w5, fun _ => ?_⟩
          obtain ⟨x, hx, ex⟩ := w6 hq
          obtain ⟨t, ht, ett⟩ := hV.2.2.1
          obtain ⟨d, d1, d9, rfl⟩ := i32_rng (a := 1) (b := 9) hb1 hb9 (by omega) (by omega)
          rw [ex, ett, show (20 : Int32) = nI 20 from rfl, nI_add, nI_add, nI_lei (by omega) (by omega)] at hv
          exact ⟨x + d, by omega, by rw [ex, nI_add]⟩) (Or.inr (fun g hg => by rw [rset_v _ _ _ _ _ _ (by decide) (by omega), if_neg (by omega)]))
        refine ⟨_, fun post h => ?_, ⟨c, hup.1, hup.2⟩⟩
        unfold A_r wp_X3_extend
        rw [kc (by omega)]
        refine ⟨vpk (by omega) (by omega), vpk (by omega) (by omega), fun o1 e1 => ⟨vpk (by omega) (by omega), ?_⟩⟩
        subst e1
        have f1 : st E2 7 k (E2 7 k + p1) 7 k = rV M k 6 + p1 := by rw [← e62]; simp [st_at]
        rw [f1]
        exact h
    · refine Or.inr (Or.inl ⟨7, rV M k 6, by omega, by omega, fun E hE post h => ?_, fun F J A1 h => s5_isS hm h14 hs ?_⟩)
      · have hR := rE_rows hE hR
        have hc := hR.1
        have e := vE_2 hR hk
        have e7 := vE_7 hR hk
        refine s3_isS hc hs (b11 ?_)
        rw [kc (by omega), ile p1 9]
        refine iF hb1 (iT hb9 ⟨vpk (by omega) (by omega), iT (e.trans hq) ⟨vpk (by omega) (by omega), fun v2 e2 => ?_⟩⟩)
        subst e2
        rw [show E 7 k = rV M k 6 from (vE1_of hR hk).2.2.2.2.2.2.2 hq, show E 0 1 = M 1 1 from hR.2.2.1]
        refine iF hv (fun o1 e1 => ?_)
        subst e1
        exact h
      · have hx : wp_X5_in (fun v3 => ((¬ v3 = 0 → wp_X5_cannotRenew (fun v5 o4 => ((v5 = 0 → wp_X5_renews A1 o4 (nI k) p1) ∧ (¬ v5 = 0 → J o4))) M (nI k) p1) ∧ (v3 = 0 → F 2))) p1 1 9 := by
          refine s5_in_t hb1 hb9 (l11 (s5_noRes_t (by omega) hq (l01 (s5_s (f := 6) (by omega) (by decide) ⟨vp1, ?_⟩))))
          rw [c1]
          exact iF hv (s5_s (f := 6) (by omega) (by decide) (s5_notes_t (l10 (l10 h))))
        first
        | exact b11 hx
        | exact b10 hx
  · refine Or.inr (Or.inl ⟨6, nI k, by omega, by omega, fun E hE post h => ?_, fun F J A1 h => s5_isS hm h14 hs ?_⟩)
    · have hR := rE_rows hE hR
      have hc := hR.1
      have e := vE_2 hR hk
      have e7 := vE_7 hR hk
      refine s3_isS hc hs (b11 ?_)
      rw [kc (by omega), ile p1 9]
      refine iF hb1 (iT hb9 ⟨vpk (by omega) (by omega), iF (fun y => hq (e.symm.trans y)) (fun o1 e1 => ?_)⟩)
      subst e1
      exact h
    · first
      | exact b11 (s5_in_t hb1 hb9 (l11 (s5_noRes_f (by omega) hq (l11 (l10 h)))))
      | exact b10 (s5_in_t hb1 hb9 (l11 (s5_noRes_f (by omega) hq (l11 (l10 h)))))
theorem out_r2 {E M : Off} {c T : Nat} (hR : rE E (M 1) c) (hV : vN (M 1) c T) (hT0 : T ≤ 10240) (p0 p1 : Int32) : outc (C_r p0 p1) (A_r p0 p1) (R_r2 p0 p1) B2 E M T := by
  have hc := hR.1
  have hm := hR.2.1
  have h14 := hV.1
  cases hs : isS p0 c
  · exact Or.inl ⟨-1, 1, Or.inl ⟨rfl, rfl⟩, fun post h => s3_isS hc hs (by first | exact b00 h | exact b01 h), fun F J A1 h => s5_isS hm h14 hs (by first | exact b00 h | exact b01 h)⟩
  obtain ⟨k, hk, rfl⟩ := isS_c hs h14
  have e := vE_2 hR hk
  have e7 := vE_7 hR hk
  by_cases hb : p1 < 1 ∨ 9 < p1
  · refine Or.inl ⟨-2, 2, Or.inr ⟨rfl, rfl⟩, fun post h => s3_isS hc hs (b11 ?_), fun F J A1 h => s5_isS hm h14 hs ?_⟩
    · rw [ile p1 9]
      by_cases y : p1 < 1
      · exact iT y h
      · exact iF y ⟨fun y2 => absurd (hb.resolve_left y) y2, fun _ => h⟩
    · first
      | exact b11 (s5_in_f hb (l01 h))
      | exact b10 (s5_in_f hb (l01 h))
  have hb1 : ¬ p1 < 1 := fun y => hb (Or.inl y)
  have hb9 : ¬ 9 < p1 := fun y => hb (Or.inr y)
  by_cases hq : rV M k 2 = 3
  · obtain ⟨g0, g1, g2, g7, g3, g4, g5, g6⟩ := vE1_of hR hk
    obtain ⟨w1, w2, w3, w4, w5, w6⟩ := vV1_of hV hk
    have e6 : E 7 k = rV M k 6 := g6 hq
    have et : E 0 1 = M 1 1 := hR.2.2.1
    by_cases hv : rV M k 6 + p1 ≤ M 1 1 + 20
    · refine Or.inr (Or.inr ⟨fun post h => s3_isS hc hs (b11 ?_), rV M k 6 + p1, rset M k 6 (rV M k 6 + p1), fun F J A1 h => s5_isS hm h14 hs ?_, fun q hq => rset_r _ _ _ _ _ hq, fun E2 hE2 => ?_⟩)
      · rw [kc (by omega), ile p1 9]
        refine iF hb1 (iT hb9 ⟨vpk (by omega) (by omega), iT (e.trans hq) ⟨vpk (by omega) (by omega), fun v2 e2 => ?_⟩⟩)
        subst e2
        rw [e6, et]
        exact iT hv h
      · have hx : wp_X5_in (fun v3 => ((¬ v3 = 0 → wp_X5_cannotRenew (fun v5 o4 => ((v5 = 0 → wp_X5_renews A1 o4 (nI k) p1) ∧ (¬ v5 = 0 → J o4))) M (nI k) p1) ∧ (v3 = 0 → F 2))) p1 1 9 := by
          refine s5_in_t hb1 hb9 (l11 (s5_noRes_t (by omega) hq (l01 (s5_s (f := 6) (by omega) (by decide) ⟨vp1, ?_⟩))))
          rw [c1]
          refine iT hv (s5_s (f := 6) (by omega) (by decide) (s5_notes_f (l00 (l00 (s5_s (f := 6) (by omega) (by decide) (s5_set (f := 6) (by omega) (by decide) (s5_s (f := 6) (by omega) (by decide) ?_)))))))
          rw [rset_v _ _ _ _ _ _ (by decide) (by decide), if_pos ⟨rfl, rfl⟩]
          exact h
        first
        | exact b11 hx
        | exact b10 hx
      · have hR2 : rE E2 (M 1) c := rE_rows hE2 hR
        obtain ⟨g0, g1, g2, g7, g3, g4, g5, g6⟩ := vE1_of hR2 hk
        have e62 : E2 7 k = rV M k 6 := g6 hq
        have hup := up1 (O := st E2 7 k (E2 7 k + p1)) (M1 := rset M k 6 (rV M k 6 + p1)) hR2 hV hk (Nat.le_refl T) (fun i _ => by simp [st_at]) (fun r i h1 h8 hi => by simp [st_at, hi]) (fun r h9 h11 => by rw [st_r _ _ _ _ _ (by omega)]) (fun x hx => by rw [rset_o _ _ _ _ _ (by decide) hx]) (by
          unfold vE1
          simp (disch := decide) only [rset_v]
          simp [cV, st_at]
          exact ⟨g0, g1, g2, g7, g3, g4, g5, fun _ => e62⟩) (by
          unfold vV1
          simp (disch := decide) only [rset_v]
          simp
          refine ⟨w1, w2, w3, w4, w5, fun _ => ?_⟩
          obtain ⟨x, hx, ex⟩ := w6 hq
          obtain ⟨t, ht, ett⟩ := hV.2.2.1
          obtain ⟨d, d1, d9, rfl⟩ := i32_rng (a := 1) (b := 9) hb1 hb9 (by omega) (by omega)
          rw [ex, ett, show (20 : Int32) = nI 20 from rfl, nI_add, nI_add, nI_lei (by omega) (by omega)] at hv
          exact ⟨x + d, by omega, by rw [ex, nI_add]⟩) (Or.inr (fun g hg => by rw [rset_v _ _ _ _ _ _ (by decide) (by omega), if_neg (by omega)]))
        refine ⟨_, fun post h => ?_, ⟨c, hup.1, hup.2⟩⟩
        unfold A_r wp_X3_extend
        rw [kc (by omega)]
        refine ⟨vpk (by omega) (by omega), vpk (by omega) (by omega), fun o1 e1 => ⟨vpk (by omega) (by omega), ?_⟩⟩
        subst e1
        have f1 : st E2 7 k (E2 7 k + p1) 7 k = rV M k 6 + p1 := by rw [← e62]; simp [st_at]
        rw [f1]
        exact h
    · refine Or.inr (Or.inl ⟨7, rV M k 6, by omega, by omega, fun E hE post h => ?_, fun F J A1 h => s5_isS hm h14 hs ?_⟩)
      · have hR := rE_rows hE hR
        have hc := hR.1
        have e := vE_2 hR hk
        have e7 := vE_7 hR hk
        refine s3_isS hc hs (b11 ?_)
        rw [kc (by omega), ile p1 9]
        refine iF hb1 (iT hb9 ⟨vpk (by omega) (by omega), iT (e.trans hq) ⟨vpk (by omega) (by omega), fun v2 e2 => ?_⟩⟩)
        subst e2
        rw [show E 7 k = rV M k 6 from (vE1_of hR hk).2.2.2.2.2.2.2 hq, show E 0 1 = M 1 1 from hR.2.2.1]
        refine iF hv (fun o1 e1 => ?_)
        subst e1
        exact h
      · have hx : wp_X5_in (fun v3 => ((¬ v3 = 0 → wp_X5_cannotRenew (fun v5 o4 => ((v5 = 0 → wp_X5_renews A1 o4 (nI k) p1) ∧ (¬ v5 = 0 → J o4))) M (nI k) p1) ∧ (v3 = 0 → F 2))) p1 1 9 := by
          refine s5_in_t hb1 hb9 (l11 (s5_noRes_t (by omega) hq (l01 (s5_s (f := 6) (by omega) (by decide) ⟨vp1, ?_⟩))))
          rw [c1]
          exact iF hv (s5_s (f := 6) (by omega) (by decide) (s5_notes_t (l10 (l10 h))))
        first
        | exact b11 hx
        | exact b10 hx
  · refine Or.inr (Or.inl ⟨6, nI k, by omega, by omega, fun E hE post h => ?_, fun F J A1 h => s5_isS hm h14 hs ?_⟩)
    · have hR := rE_rows hE hR
      have hc := hR.1
      have e := vE_2 hR hk
      have e7 := vE_7 hR hk
      refine s3_isS hc hs (b11 ?_)
      rw [kc (by omega), ile p1 9]
      refine iF hb1 (iT hb9 ⟨vpk (by omega) (by omega), iF (fun y => hq (e.symm.trans y)) (fun o1 e1 => ?_)⟩)
      subst e1
      exact h
    · first
      | exact b11 (s5_in_t hb1 hb9 (l11 (s5_noRes_f (by omega) hq (l11 (l10 h)))))
      | exact b10 (s5_in_t hb1 hb9 (l11 (s5_noRes_f (by omega) hq (l11 (l10 h)))))
theorem op_20 {j : Nat} {E M : Off} {z : Nat → Int64} {zd : Nat → UInt64} {a1 a2 a3 : Int32} (hj : j < 512) (hI : inv j E M) : wc_20 (lwInv (j + 1)) E M z zd a1 a2 a3 := by
  unfold wc_20 ww_renew wp_X4_renew
  exact direct (C := C_r a1 a2) (A := A_r a1 a2) (R := R_r a1 a2) (B := B2) (rn := 3) (W := fun kx E1 z1 => wp_X5_renew (fun bx M1 => wp_X5_thrown (fun t => (t = kx ∧ ((kx = 0 → lg_cmp (z1 (0 : Int32).toNatClampNeg) (bx).toInt64 = 0) ∧ lwInv (j + 1) E1 M1 z1 zd))) M1) M a1 a2) hj hI (hoS fun hR hV hT0 => out_r hR hV hT0 a1 a2) (by decide) (fun code n hB => by rcases hB with ⟨rfl, rfl⟩ | ⟨rfl, rfl⟩; exact ⟨i1ne, Or.inl ⟨rfl, fun E1 h => Or.inl ⟨rfl, h⟩⟩⟩; exact ⟨i2ne, Or.inr (Or.inl ⟨rfl, fun E1 h => Or.inr (Or.inl ⟨rfl, h⟩)⟩)⟩) (fun E1 h => Or.inr (Or.inr ⟨rfl, h⟩)) (fun _ _ _ h => h) putG
