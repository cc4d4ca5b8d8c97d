/-! ===== changes: withdraw, appeal, renew, leave ===== -/
def B2 : Int32 → Int32 → Prop := fun code n => (code = -1 ∧ n = 1) ∨ (code = -2 ∧ n = 2)
theorem s5_cw23 {post : Int32 → Off → Prop} {M : Off} {x : Int32} (h : post 0 M) : wj_X5_cannotWithdraw_23 post M x := by
  unfold wj_X5_cannotWithdraw_23 wj_X5_cannotWithdraw_24
  exact s5_notes_f ⟨isB0, h⟩
theorem s5_noRes_t {post : Int32 → Off → Prop} {M : Off} {k : Nat} (hk : k < 14) (e : rV M k 2 = 3) (h : post 0 M) : wp_X5_isNoResident post M (nI k) :=
  s5_is_t hk e (b11 (s5_notes_f ⟨isB0, h⟩))
theorem s5_noRes_f {post : Int32 → Off → Prop} {M : Off} {k : Nat} (hk : k < 14) (e : ¬ rV M k 2 = 3) (h : post 1 (ntd M 6 (nI k))) : wp_X5_isNoResident post M (nI k) :=
  s5_is_f hk e (b01 (s5_notes_t ⟨isB1, h⟩))
theorem s5_bound_t {post : Int32 → Off → Prop} {M : Off} {k : Nat} (hk : k < 14) (e : rV M k 7 < 0) (h : post 0 M) : wp_X5_isBound post M (nI k) :=
  s5_isPaired hk (s5_s (f := 7) hk (by decide) (by rw [decide_eq_true e]; exact s5_notes_f ⟨isB0, h⟩))
theorem s5_bound_f {post : Int32 → Off → Prop} {M : Off} {k : Nat} (hk : k < 14) (e : ¬ rV M k 7 < 0) (h : post 1 (ntd M 8 (rV M k 7))) : wp_X5_isBound post M (nI k) :=
  s5_isPaired hk (s5_s (f := 7) hk (by decide) (by rw [decide_eq_false e]; exact s5_notes_t ⟨isB1, h⟩))
abbrev C_w (p0 : Int32) (post : Int32 → Off → Prop) (o : Off) : Prop := wp_X0_withdrawing post o p0
abbrev A_w (p0 : Int32) (post : Int32 → Off → Prop) (o : Off) : Prop := wp_X3_dropApplication post o p0
abbrev R_w (p0 : Int32) (F : Int32 → Prop) (J : Off → Prop) (A1 : Int32 → Off → Prop) (o : Off) : Prop := wp_X5_isSock (fun v2 => ((¬ v2 = 0 → wp_X5_cannotWithdraw (fun v4 o3 => ((v4 = 0 → wp_X5_withdraws A1 o3 p0) ∧ (¬ v4 = 0 → J o3))) o p0) ∧ (v2 = 0 → F 1))) o p0
theorem out_w {E M : Off} {c T : Nat} (hR : rE E (M 1) c) (hV : vN (M 1) c T) (hT0 : T ≤ 10240) (p0 : Int32) : outc (C_w p0) (A_w p0) (R_w p0) B1 E M T := by
  have hc := hR.1
  have hm := hR.2.1
  have h14 := hV.1
  cases hs : isS p0 c
  · exact Or.inl ⟨-1, 1, ⟨rfl, rfl⟩, fun post h => s3_isS hc hs (by first | exact b00 h | exact b01 h), fun F J A1 h => s5_isS hm h14 hs (by first | exact b00 h | exact b01 h)⟩
  obtain ⟨k, hk, rfl⟩ := isS_c hs h14
  have e := vE_2 hR hk
  have e7 := vE_7 hR hk
  have hok : (rV M k 2 = 1 ∨ rV M k 2 = 2) → outc (C_w (nI k)) (A_w (nI k)) (R_w (nI k)) B1 E M T := by
    intro h12
    have hal : rV M k 7 = -1 := alone hV hk (fun y => by rcases h12 with y2 | y2 <;> rw [y2] at y <;> exact absurd y (by decide))
    refine Or.inr (Or.inr ⟨fun post h => s3_isS hc hs (b11 (s3_hasApp (by omega) ?_)), rV M k 3, raway M k, fun F J A1 h => s5_isS hm h14 hs (b11 ?_), fun q hq => raway_r M k q hq, fun E2 hE2 => ?_⟩)
    · have : (decide (E 3 k = 1) || decide (E 3 k = 2)) = true := by
        rcases h12 with y | y
        · rw [decide_eq_true (e.trans y), Bool.true_or]
        · rw [decide_eq_true (e.trans y), Bool.or_true]
      rw [this]
      exact b10 h
    · by_cases y : rV M k 2 = 1
      · exact s5_is_t (by omega) y (b11 (s5_cw23 (l00 (s5_s (f := 3) (by omega) (by decide) (s5_sendsAway (by omega) h)))))
      · have y2 : rV M k 2 = 2 := h12.resolve_left y
        exact s5_is_f (by omega) y (b01 (s5_is_t (by omega) y2 (b11 (s5_cw23 (l00 (s5_s (f := 3) (by omega) (by decide) (s5_sendsAway (by omega) h)))))))
    · have hR2 : rE E2 (M 1) c := rE_rows hE2 hR
      obtain ⟨g0, g1, g2, g7, g3, -⟩ := vE1_of hR2 hk
      obtain ⟨w1, w2, -⟩ := vV1_of hV hk
      have hup := up1 (O := st E2 3 k 0) (M1 := raway M k) hR2 hV hk (Nat.le_refl T) (fun i _ => by simp [st_at]) (fun r i h1 h8 hi => by simp [st_at, hi]) (fun r h9 h11 => by rw [st_r _ _ _ _ _ (by omega)]) (fun x hx => raway_o M k x hx) (by
        unfold vE1
        simp (disch := decide) only [raway_v]
        simp [cV, st_at]
        exact ⟨g0, g1, g7.trans hal⟩) (by
        unfold vV1
        simp (disch := decide) only [raway_v]
        simp
        exact ⟨w1, w2⟩) (Or.inl ⟨hal, by simp (disch := decide) only [raway_v]; simp⟩)
      refine ⟨st E2 3 k 0, fun post h => ?_, ⟨c, hup.1, hup.2⟩⟩
      unfold A_w wp_X3_dropApplication
      rw [kc (by omega)]
      refine ⟨vpk (by omega) (by omega), fun o1 e1 => ⟨vpk (by omega) (by omega), ?_⟩⟩
      subst e1
      have : st E2 3 k 0 4 k = rV M k 3 := by
        rw [st_at, if_neg (by omega)]
        exact g3 (fun y => by rcases h12 with y2 | y2 <;> rw [y2] at y <;> exact absurd y (by decide))
      rw [this]
      exact h
  by_cases y1 : rV M k 2 = 1
  · exact hok (Or.inl y1)
  by_cases y2 : rV M k 2 = 2
  · exact hok (Or.inr y2)
  refine Or.inr (Or.inl ⟨3, nI k, by omega, by omega, fun E hE post h => ?_, fun F J A1 h => s5_isS hm h14 hs (b11 (s5_is_f (by omega) y1 (b01 (s5_is_f (by omega) y2 (b01 (s5_notes_t ⟨isB1, l10 h⟩))))))⟩)
  have hR := rE_rows hE hR
  have hc := hR.1
  have e := vE_2 hR hk
  have e7 := vE_7 hR hk
  refine s3_isS hc hs (b11 (s3_hasApp (by omega) ?_))
  rw [decide_eq_false (show ¬ E 3 k = 1 from fun y => y1 (e.symm.trans y)), decide_eq_false (show ¬ E 3 k = 2 from fun y => y2 (e.symm.trans y))]
  refine b00 (fun o1 e1 => ?_)
  subst e1
  exact h
theorem op_14 {j : Nat} {E M : Off} {z : Nat → Int64} {zd : Nat → UInt64} {a1 a2 a3 : Int32} (hj : j < 512) (hI : inv j E M) : wc_14 (lwInv (j + 1)) E M z zd a1 a2 a3 := by
  unfold wc_14 ww_withdraw wp_X4_withdraw
  exact direct (C := C_w a1) (A := A_w a1) (R := R_w a1) (B := B1) (rn := 2) (W := fun kx E1 z1 => wp_X5_withdraw (fun bx M1 => wp_X5_thrown (fun t => (t = kx ∧ ((kx = 0 → lg_cmp (z1 (0 : Int32).toNatClampNeg) (bx).toInt64 = 0) ∧ lwInv (j + 1) E1 M1 z1 zd))) M1) M a1) hj hI (hoS fun hR hV hT0 => out_w hR hV hT0 a1) (by decide) (fun code n hB => by obtain ⟨rfl, rfl⟩ := hB; exact ⟨i1ne, Or.inl ⟨rfl, fun E1 h => Or.inl ⟨rfl, h⟩⟩⟩) (fun E1 h => Or.inr ⟨rfl, h⟩) (fun _ _ _ h => h) putG
abbrev C_p (p0 : Int32) (post : Int32 → Off → Prop) (o : Off) : Prop := wp_X0_appealing post o p0
abbrev A_p (p0 : Int32) (post : Int32 → Off → Prop) (o : Off) : Prop := wp_X3_raise post o p0
abbrev R_p (p0 : Int32) (F : Int32 → Prop) (J : Off → Prop) (A1 : Int32 → Off → Prop) (o : Off) : Prop := wp_X5_isSock (fun v2 => ((¬ v2 = 0 → wp_X5_cannotAppeal (fun v4 o3 => ((v4 = 0 → wp_X5_appeals A1 o3 p0) ∧ (¬ v4 = 0 → J o3))) o p0) ∧ (v2 = 0 → F 1))) o p0
theorem out_p {E M : Off} {c T : Nat} (hR : rE E (M 1) c) (hV : vN (M 1) c T) (hT0 : T ≤ 10240) (p0 : Int32) : outc (C_p p0) (A_p p0) (R_p p0) B1 E M T := by
  have hc := hR.1
  have hm := hR.2.1
  have h14 := hV.1
  cases hs : isS p0 c
  · exact Or.inl ⟨-1, 1, ⟨rfl, rfl⟩, fun post h => s3_isS hc hs (by first | exact b00 h | exact b01 h), fun F J A1 h => s5_isS hm h14 hs (by first | exact b00 h | exact b01 h)⟩
  obtain ⟨k, hk, rfl⟩ := isS_c hs h14
  have e := vE_2 hR hk
  have e7 := vE_7 hR hk
  by_cases hq : rV M k 2 = 2
  · have hal : rV M k 7 = -1 := alone hV hk (by rw [hq]; decide)
    obtain ⟨g0, g1, g2, g7, g3, g4, -⟩ := vE1_of hR hk
    obtain ⟨w1, w2, w3, w4, w5, -⟩ := vV1_of hV hk
    obtain ⟨x, x1, x3, ex⟩ := w5 (Or.inr hq)
    have e5 : E 5 k = nI x := (g4 (Or.inr hq)).trans ex
    by_cases hx : x < 3
    · refine Or.inr (Or.inr ⟨fun post h => s3_isS hc hs (b11 ?_), rV M k 4 + 1, rset (rset (rset M k 2 1) k 4 (rV M k 4 + 1)) k 5 (M 1 1), fun F J A1 h => s5_isS hm h14 hs (b11 ?_), fun q hq => ?_, fun E2 hE2 => ?_⟩)
      · rw [kc (by omega)]
        refine ⟨vpk (by omega) (by omega), iT (e.trans hq) ⟨vpk (by omega) (by omega), iT ?_ h⟩⟩
        rw [e5, show (3 : Int32) = nI 3 from rfl, nI_lti (by omega) (by omega)]
        exact hx
      · refine s5_is_t (by omega) hq (b11 (s5_notes_f (l01 (s5_s (f := 4) (by omega) (by decide) (jF ?_ (s5_s (f := 3) (by omega) (by decide) (s5_notes_f (l00 (l00 ?_)))))))))
        · rw [ex, show (3 : Int32) = nI 3 from rfl, nI_eqi (by omega) (by omega)]
          omega
        · refine s5_set (f := 2) (by omega) (by decide) (s5_s (f := 4) (by omega) (by decide) ?_)
          rw [rset_v _ _ _ _ _ _ (by decide) (by decide), if_neg (by omega)]
          refine s5_set (f := 4) (by omega) (by decide) ⟨vp1, ?_⟩
          rw [c1, rset_o _ _ _ _ _ (by decide) (by omega), rset_o _ _ _ _ _ (by decide) (by omega)]
          refine s5_set (f := 5) (by omega) (by decide) (s5_s (f := 4) (by omega) (by decide) ?_)
          rw [rset_v _ _ _ _ _ _ (by decide) (by decide), if_neg (by omega), rset_v _ _ _ _ _ _ (by decide) (by decide), if_pos ⟨rfl, rfl⟩]
          exact h
      · rw [rset_r _ _ _ _ _ hq, rset_r _ _ _ _ _ hq, rset_r _ _ _ _ _ hq]
      · have hR2 : rE E2 (M 1) c := rE_rows hE2 hR
        obtain ⟨g0, g1, g2, g7, g3, g4, -⟩ := vE1_of hR2 hk
        have e52 : E2 5 k = rV M k 4 := g4 (Or.inr hq)
        have hup := up1 (O := st (st (st E2 3 k 1) 5 k (E2 5 k + 1)) 6 k (E2 0 1)) (M1 := rset (rset (rset M k 2 1) k 4 (rV M k 4 + 1)) k 5 (M 1 1)) hR2 hV hk (Nat.le_refl T) (fun i _ => by simp [st_at]) (fun r i h1 h8 hi => by simp [st_at, hi]) (fun r h9 h11 => by rw [st_r _ _ _ _ _ (by omega), st_r _ _ _ _ _ (by omega), st_r _ _ _ _ _ (by omega)]) (fun x hx => by rw [rset_o _ _ _ _ _ (by decide) hx, rset_o _ _ _ _ _ (by decide) hx, rset_o _ _ _ _ _ (by decide) hx]) (by
          unfold vE1
          simp (disch := decide) only [rset_v]
          simp [cV, st_at]
          exact ⟨g0, g1, g7, g3 (by rw [hq]; decide), e52, hR2.2.2.1⟩) (by
          unfold vV1
          simp (disch := decide) only [rset_v]
          simp
          refine ⟨w1, w2, w4 (by rw [hq]; decide), x + 1, by omega, by omega, ?_⟩
          rw [ex, nI_add1]) (Or.inl ⟨hal, by simp (disch := decide) only [rset_v]; simpa using hal⟩)
        refine ⟨_, fun post h => ?_, ⟨c, hup.1, hup.2⟩⟩
        unfold A_p wp_X3_raise
        rw [kc (by omega)]
        refine ⟨vpk (by omega) (by omega), fun o1 e1 => ⟨vpk (by omega) (by omega), vpk (by omega) (by omega), fun o2 e2 => ⟨vpk (by omega) (by omega), fun o3 e3 => ⟨vpk (by omega) (by omega), ?_⟩⟩⟩⟩
        subst e1; subst e2; subst e3
        have f1 : st E2 3 k 1 5 k = E2 5 k := by simp [st_at]
        rw [f1]
        have f2 : st (st E2 3 k 1) 5 k (E2 5 k + 1) 0 1 = E2 0 1 := by simp [st_at]
        rw [f2]
        have f3 : st (st (st E2 3 k 1) 5 k (E2 5 k + 1)) 6 k (E2 0 1) 5 k = rV M k 4 + 1 := by rw [← e52]; simp [st_at]
        rw [f3]
        exact h
    · have hx3 : x = 3 := by omega
      subst hx3
      refine Or.inr (Or.inl ⟨5, rV M k 3, by omega, by omega, fun E hE post h => ?_, fun F J A1 h => s5_isS hm h14 hs (b11 ?_)⟩)
      · have hR := rE_rows hE hR
        have hc := hR.1
        have e := vE_2 hR hk
        have e7 := vE_7 hR hk
        refine s3_isS hc hs (b11 ?_)
        rw [kc (by omega)]
        refine ⟨vpk (by omega) (by omega), iT (e.trans hq) ⟨vpk (by omega) (by omega), iF ?_ ⟨vpk (by omega) (by omega), fun o1 e1 => ?_⟩⟩⟩
        · rw [show E 5 k = nI 3 from ((vE1_of hR hk).2.2.2.2.2.1 (Or.inr hq)).trans ex]; decide
        · subst e1
          rw [show E 4 k = rV M k 3 from (vE1_of hR hk).2.2.2.2.1 (by rw [hq]; decide)]
          exact h
      · refine s5_is_t (by omega) hq (b11 (s5_notes_f (l01 (s5_s (f := 4) (by omega) (by decide) (jT ex (s5_s (f := 3) (by omega) (by decide) (s5_notes_t (l10 (l10 ?_)))))))))
        exact h
  · refine Or.inr (Or.inl ⟨4, nI k, by omega, by omega, fun E hE post h => ?_, fun F J A1 h => s5_isS hm h14 hs (b11 (s5_is_f (by omega) hq (b01 (s5_notes_t (l11 (l10 h))))))⟩)
    have hR := rE_rows hE hR
    have hc := hR.1
    have e := vE_2 hR hk
    have e7 := vE_7 hR hk
    refine s3_isS hc hs (b11 ?_)
    rw [kc (by omega)]
    refine ⟨vpk (by omega) (by omega), iF (fun y => hq (e.symm.trans y)) (fun o1 e1 => ?_)⟩
    subst e1
    exact h
theorem op_15 {j : Nat} {E M : Off} {z : Nat → Int64} {zd : Nat → UInt64} {a1 a2 a3 : Int32} (hj : j < 512) (hI : inv j E M) : wc_15 (lwInv (j + 1)) E M z zd a1 a2 a3 := by
  unfold wc_15 ww_appeal wp_X4_appeal
  exact direct (C := C_p a1) (A := A_p a1) (R := R_p a1) (B := B1) (rn := 2) (W := fun kx E1 z1 => wp_X5_appeal (fun bx M1 => wp_X5_thrown (fun t => (t = kx ∧ ((kx = 0 → lg_cmp (z1 (0 : Int32).toNatClampNeg) (bx).toInt64 = 0) ∧ lwInv (j + 1) E1 M1 z1 zd))) M1) M a1) hj hI (hoS fun hR hV hT0 => out_p hR hV hT0 a1) (by decide) (fun code n hB => by obtain ⟨rfl, rfl⟩ := hB; exact ⟨i1ne, Or.inl ⟨rfl, fun E1 h => Or.inl ⟨rfl, h⟩⟩⟩) (fun E1 h => Or.inr ⟨rfl, h⟩) (fun _ _ _ h => h) putG
abbrev C_l (p0 : Int32) (post : Int32 → Off → Prop) (o : Off) : Prop := wp_X0_leaving post o p0
abbrev A_l (p0 : Int32) (post : Int32 → Off → Prop) (o : Off) : Prop := wp_X3_release post o p0
abbrev R_l (p0 : Int32) (F : Int32 → Prop) (J : Off → Prop) (A1 : Int32 → Off → Prop) (o : Off) : Prop := wp_X5_isSock (fun v2 => ((¬ v2 = 0 → wp_X5_cannotLeave (fun v4 o3 => ((v4 = 0 → wp_X5_leaves A1 o3 p0) ∧ (¬ v4 = 0 → J o3))) o p0) ∧ (v2 = 0 → F 1))) o p0
theorem out_l {E M : Off} {c T : Nat} (hR : rE E (M 1) c) (hV : vN (M 1) c T) (hT0 : T ≤ 10240) (p0 : Int32) : outc (C_l p0) (A_l p0) (R_l p0) B1 E M T := by
  have hc := hR.1
  have hm := hR.2.1
  have h14 := hV.1
  cases hs : isS p0 c
  · exact Or.inl ⟨-1, 1, ⟨rfl, rfl⟩, fun post h => s3_isS hc hs (by first | exact b00 h | exact b01 h), fun F J A1 h => s5_isS hm h14 hs (by first | exact b00 h | exact b01 h)⟩
  obtain ⟨k, hk, rfl⟩ := isS_c hs h14
  have e := vE_2 hR hk
  have e7 := vE_7 hR hk
  have hl := par_lt hV hk
  by_cases hq : rV M k 2 = 3
  · by_cases hal : rV M k 7 = -1
    · refine Or.inr (Or.inr ⟨fun post h => s3_isS hc hs (b11 ?_), rV M k 6 - M 1 1, raway M k, fun F J A1 h => s5_isS hm h14 hs (b11 (s5_noRes_t (by omega) hq (l01 (s5_bound_t (by omega) (hl.mpr hal) (l00 (l00 ?_)))))), fun q hq => raway_r M k q hq, fun E2 hE2 => ?_⟩)
      · rw [kc (by omega)]
        refine ⟨vpk (by omega) (by omega), iT (e.trans hq) ⟨vpk (by omega) (by omega), fun v2 e2 => ?_⟩⟩
        subst e2
        exact iT (e7.trans hal) h
      · refine s5_s (f := 6) (by omega) (by decide) ⟨vp1, fun v2 e2 => ?_⟩
        subst e2
        exact s5_sendsAway (by omega) h
      · have hR2 : rE E2 (M 1) c := rE_rows hE2 hR
        obtain ⟨g0, g1, g2, g7, g3, g4, g5, g6⟩ := vE1_of hR2 hk
        obtain ⟨w1, w2, -⟩ := vV1_of hV hk
        have hup := up1 (O := st E2 3 k 0) (M1 := raway M k) hR2 hV hk (Nat.le_refl T) (fun i _ => by simp [st_at]) (fun r i h1 h8 hi => by simp [st_at, hi]) (fun r h9 h11 => by rw [st_r _ _ _ _ _ (by omega)]) (fun x hx => raway_o M k x hx) (by
          unfold vE1
          simp (disch := decide) only [raway_v]
          simp [cV, st_at]
          exact ⟨g0, g1, g7.trans hal⟩) (by
          unfold vV1
          simp (disch := decide) only [raway_v]
          simp
          exact ⟨w1, w2⟩) (Or.inl ⟨hal, by simp (disch := decide) only [raway_v]; simp⟩)
        refine ⟨st E2 3 k 0, fun post h => ?_, ⟨c, hup.1, hup.2⟩⟩
        unfold A_l wp_X3_release
        rw [kc (by omega)]
        refine ⟨vpk (by omega) (by omega), fun o1 e1 => ⟨vpk (by omega) (by omega), ?_⟩⟩
        subst e1
        have f1 : st E2 3 k 0 7 k = rV M k 6 := by
          rw [st_at, if_neg (by omega)]
          exact g6 hq
        have f2 : st E2 3 k 0 0 1 = M 1 1 := by
          rw [st_at, if_neg (by omega)]
          exact hR2.2.2.1
        rw [f1, f2]
        exact h
    · refine Or.inr (Or.inl ⟨8, rV M k 7, by omega, by omega, fun E hE post h => ?_, fun F J A1 h => s5_isS hm h14 hs (b11 (s5_noRes_t (by omega) hq (l01 (s5_bound_f (by omega) (fun y => hal (hl.mp y)) (l10 (l10 ?_))))))⟩)
      · have hR := rE_rows hE hR
        have hc := hR.1
        have e := vE_2 hR hk
        have e7 := vE_7 hR hk
        refine s3_isS hc hs (b11 ?_)
        rw [kc (by omega)]
        refine ⟨vpk (by omega) (by omega), iT (e.trans hq) ⟨vpk (by omega) (by omega), fun v2 e2 => ?_⟩⟩
        subst e2
        refine iF (fun y => hal (e7.symm.trans y)) (fun o1 e1 => ?_)
        subst e1
        rw [show E 8 k = rV M k 7 from e7]
        exact h
      · exact h
  · refine Or.inr (Or.inl ⟨6, nI k, by omega, by omega, fun E hE post h => ?_, fun F J A1 h => s5_isS hm h14 hs (b11 (s5_noRes_f (by omega) hq (l11 (l10 h))))⟩)
    have hR := rE_rows hE hR
    have hc := hR.1
    have e := vE_2 hR hk
    have e7 := vE_7 hR hk
    refine s3_isS hc hs (b11 ?_)
    rw [kc (by omega)]
    refine ⟨vpk (by omega) (by omega), iF (fun y => hq (e.symm.trans y)) (fun o1 e1 => ?_)⟩
    subst e1
    exact h
theorem op_21 {j : Nat} {E M : Off} {z : Nat → Int64} {zd : Nat → UInt64} {a1 a2 a3 : Int32} (hj : j < 512) (hI : inv j E M) : wc_21 (lwInv (j + 1)) E M z zd a1 a2 a3 := by
  unfold wc_21 ww_leave wp_X4_leave
  exact direct (C := C_l a1) (A := A_l a1) (R := R_l a1) (B := B1) (rn := 2) (W := fun kx E1 z1 => wp_X5_leave (fun bx M1 => wp_X5_thrown (fun t => (t = kx ∧ ((kx = 0 → lg_cmp (z1 (0 : Int32).toNatClampNeg) (bx).toInt64 = 0) ∧ lwInv (j + 1) E1 M1 z1 zd))) M1) M a1) hj hI (hoS fun hR hV hT0 => out_l hR hV hT0 a1) (by decide) (fun code n hB => by obtain ⟨rfl, rfl⟩ := hB; exact ⟨i1ne, Or.inl ⟨rfl, fun E1 h => Or.inl ⟨rfl, h⟩⟩⟩) (fun E1 h => Or.inr ⟨rfl, h⟩) (fun _ _ _ h => h) putG
