/-! ===== moving ===== -/
theorem st_self (o : Off) (k i : Nat) : st o k i (o k i) = o := by
  funext j q
  rw [st_at]
  split
  · rename_i h
    rw [h.1, h.2]
  · rfl
abbrev C_m (p0 p1 : Int32) (post : Int32 → Off → Prop) (o : Off) : Prop := wp_X0_moving post o p0 p1
abbrev A_m (p0 p1 : Int32) (post : Int32 → Off → Prop) (o : Off) : Prop := wp_X3_transfer post o p0 p1
abbrev R_m (p0 p1 : Int32) (F : Int32 → Prop) (J : Off → Prop) (A1 : Int32 → Off → Prop) (o : Off) : Prop := wp_X5_isSock (fun v2 => ((v2 = 0 → F 1) ∧ (¬ v2 = 0 → wp_X5_isDrawer (fun v5 => ((¬ v5 = 0 → wp_X5_cannotMove (fun v7 o6 => ((v7 = 0 → wp_X5_moves A1 o6 p0 p1) ∧ (¬ v7 = 0 → J o6))) o p0 p1) ∧ (v5 = 0 → F 1))) p1))) o p0
def mvRes (E M : Off) (k d : Nat) : Prop := (∃ (r : Nat) (dd : Int32), 1 ≤ r ∧ r ≤ 16 ∧ (∀ E2 : Off, (∀ k, k < 12 → E2 k = E k) → ∀ post : Int32 → Off → Prop, post (nI r) (st E2 12 0 dd) → C_m (nI k) (nI d) post E2) ∧ (∀ post : Int32 → Off → Prop, post 1 (ntd M (nI r) dd) → wp_X5_cannotMove post M (nI k) (nI d))) ∨
  (rV M k 2 = 3 ∧ rV M k 7 = -1 ∧ (∀ post : Int32 → Off → Prop, post 0 E → C_m (nI k) (nI d) post E) ∧ (∀ post : Int32 → Off → Prop, post 0 M → wp_X5_cannotMove post M (nI k) (nI d)))
theorem nI_0' (r : Nat) (h1 : 1 ≤ r) (h2 : r ≤ 17) : ¬ nI r = 0 := by
  rw [show (0 : Int32) = nI 0 from rfl, nI_eqi (by omega) (by omega)]
  omega
theorem mvChk {E M : Off} {c T : Nat} (hR : rE E (M 1) c) (hV : vN (M 1) c T) {k d : Nat} (hk : k < c) (hd5 : d < 5) : mvRes E M k d := by
  have hc := hR.1
  have hm := hR.2.1
  have h14 := hV.1
  have e := vE_2 hR hk
  have e7 := vE_7 hR hk
  have hl : rV M k 7 < 0 ↔ rV M k 7 = -1 := par_lt hV hk
  have hs : isS (nI k) c = true := isS_k hk h14
  have hd : isD (nI d) = true := isD_k hd5
  by_cases hq : rV M k 2 = 3
  case neg =>
    refine Or.inl ⟨6, nI k, by omega, by omega, fun E hE post h => ?_, fun post h => s5_noRes_f (by omega) hq (l11 h)⟩
    have hR := rE_rows hE hR
    have hc := hR.1
    have e := vE_2 hR hk
    have e7 := vE_7 hR hk
    refine s3_isD hd (b11 (s3_isS hc hs (b11 ?_)))
    rw [kc (by omega)]
    refine ⟨vpk (by omega) (by omega), iF (fun y => hq (e.symm.trans y)) (fun o1 e1 => ?_)⟩
    subst e1
    exact iF (by decide) h
  by_cases hal : rV M k 7 = -1
  case neg =>
    refine Or.inl ⟨8, rV M k 7, by omega, by omega, fun E hE post h => ?_, fun post h => s5_noRes_t (by omega) hq (l01 (s5_bound_f (by omega) (fun y => hal (hl.mp y)) (l10 ?_)))⟩
    · have hR := rE_rows hE hR
      have hc := hR.1
      have e := vE_2 hR hk
      have e7 := vE_7 hR hk
      refine s3_isD hd (b11 (s3_isS hc hs (b11 ?_)))
      rw [kc (by omega)]
      refine ⟨vpk (by omega) (by omega), iT (e.trans hq) ⟨vpk (by omega) (by omega), fun v2 e2 => ?_⟩⟩
      subst e2
      refine iF (fun y => hal (e7.symm.trans y)) (fun o1 e1 => ?_)
      subst e1
      rw [show E 8 k = rV M k 7 from e7]
      exact iF (by decide) h
    · exact h
  obtain ⟨g0, g1, g2, g7, g3, g4, g5, g6⟩ := vE1_of hR hk
  obtain ⟨w1, w2, w3, w4, w5, w6⟩ := vV1_of hV hk
  obtain ⟨a, ha5, ea⟩ := w4 (by rw [hq]; decide)
  have e3 : E 4 k = nI a := (g3 (by rw [hq]; decide)).trans ea
  have ee := cl_eq hR hV ha5 hd5
  obtain ⟨t1, t2⟩ := tI_lt ha5 hd5
  have hLa : cnt (inS (cV E) 3 (nI a)) c = cnt (inS (rV M) 3 (nI a)) c := cntS_eq (rE_v hR) (by decide) (Nat.le_refl c)
  have hLd : cnt (inS (cV E) 3 (nI d)) c = cnt (inS (rV M) 3 (nI d)) c := cntS_eq (rE_v hR) (by decide) (Nat.le_refl c)
  obtain ⟨q, hq9, eq⟩ := hV.2.2.2.1 d hd5
  have h9 : E 9 d = nI q := by rw [(hR.2.2.2.2.2.2.2.1 d hd5).1, eq]
  obtain ⟨b, hb, eb⟩ := hV.2.2.2.2.1 d hd5
  have h10 : E 10 d = nI b := by rw [(hR.2.2.2.2.2.2.2.1 d hd5).2, eb]
  -- the class's road to the crossing
  have hcl : ∀ {E : Off}, rE E (M 1) c → ∀ {post : Int32 → Off → Prop}, wp_X0_crossing (fun v5 o4 => post v5 o4) E (nI k) (nI a) (nI d) → C_m (nI k) (nI d) post E := by
    intro E hR post h
    have hc := hR.1
    have e := vE_2 hR hk
    have e7 := vE_7 hR hk
    have e3 : E 4 k = nI a := ((vE1_of hR hk).2.2.2.2.1 (by rw [hq]; decide)).trans ea
    refine s3_isD hd (b11 (s3_isS hc hs (b11 ?_)))
    rw [kc (by omega)]
    refine ⟨vpk (by omega) (by omega), iT (e.trans hq) ⟨vpk (by omega) (by omega), fun v2 e2 => ?_⟩⟩
    subst e2
    refine iT (e7.trans hal) (l00 ⟨vpk (by omega) (by omega), ?_⟩)
    rw [e3]
    exact h
  -- the reference's
  have hrf : ∀ {post : Int32 → Off → Prop}, wj_X5_cannotMove_44 post M (nI k) (nI d) (nI a) (M 1 (tI a d)) → wp_X5_cannotMove post M (nI k) (nI d) := by
    intro post h
    refine s5_noRes_t (by omega) hq (l01 (s5_bound_t (by omega) (hl.mpr hal) (l00 (s5_s (f := 3) (by omega) (by decide) ?_))))
    rw [ea]
    by_cases had : a = d
    · subst had
      refine jT rfl ?_
      rcases cl_v hV ha5 hd5 with hz | ⟨hz, -⟩
      · rw [hz] at h; exact h
      · exact absurd rfl hz
    · refine jF (fun y => had ((nI_eqi (by omega) (by omega)).mp y)) (s5_treatyOf ha5 hd5 ?_)
      rw [kc (by omega)]
      exact ⟨vpk (by omega) (by omega), h⟩
  by_cases hz : M 1 (tI a d) = 0
  · refine Or.inl ⟨12, nI a, by omega, by omega, fun E hE post h => ?_, fun post h => hrf (jT hz (s5_notes_t (l11 h)))⟩
    have hR := rE_rows hE hR
    have hc := hR.1
    have e := vE_2 hR hk
    have e7 := vE_7 hR hk
    have ee := cl_eq hR hV ha5 hd5
    refine hcl hR (s3_clause ha5 hd5 ?_)
    rw [cl_eq hR hV ha5 hd5, hz]
    refine l01 (fun o1 e1 => ?_)
    subst e1
    exact h
  have hcl2 : ∀ {E : Off}, rE E (M 1) c → ∀ {post : Int32 → Off → Prop}, wp_X3_countOf (fun v2 => ((¬ M 1 (tI a d) = 120 → wj_X0_crossing_65 post E (nI k) (nI d)) ∧ (M 1 (tI a d) = 120 → wp_X3_countOf (fun v10 => ((v10 < v2 → wj_X0_crossing_65 post E (nI k) (nI d)) ∧ (¬ v10 < v2 → wp_X0_because (fun v12 o11 => post v12 o11) E 13 v2))) E 3 (nI d)))) E 3 (nI a) → C_m (nI k) (nI d) post E := by
    intro E hR post h
    have ee := cl_eq hR hV ha5 hd5
    refine hcl hR (s3_clause ha5 hd5 ?_)
    rw [ee]
    exact jF hz h
  have hrf2 : ∀ {post : Int32 → Off → Prop}, ((¬ M 1 (tI a d) = 120 → wj_X5_cannotMove_91 post M (nI k) (nI d) (nI a)) ∧ (M 1 (tI a d) = 120 → wp_X5_livingIn (fun v19 => wp_X5_livingIn (fun v20 => ((v19 < v20 → wj_X5_cannotMove_91 post M (nI k) (nI d) (nI a)) ∧ (¬ v19 < v20 → wj_X5_cannotMove_92 post M (nI k) (nI d) (nI a) 1))) M (nI a)) M (nI d))) → wp_X5_cannotMove post M (nI k) (nI d) := by
    intro post h
    exact hrf (jF hz (s5_notes_f (l01 h)))
  -- room and colour
  have hfin : (∀ {E : Off}, rE E (M 1) c → ∀ {post : Int32 → Off → Prop}, wj_X0_crossing_65 post E (nI k) (nI d) → C_m (nI k) (nI d) post E) → (∀ {post : Int32 → Off → Prop}, wj_X5_cannotMove_91 post M (nI k) (nI d) (nI a) → wp_X5_cannotMove post M (nI k) (nI d)) → mvRes E M k d := by
    intro kC kR
    have hroom : ∀ {E : Off}, rE E (M 1) c → decide (nI (cnt (inS (cV E) 3 (nI d)) c) < E 9 d) = decide (cnt (inS (rV M) 3 (nI d)) c < q) := by
      intro E hR
      have hLd : cnt (inS (cV E) 3 (nI d)) c = cnt (inS (rV M) 3 (nI d)) c := cntS_eq (rE_v hR) (by decide) (Nat.le_refl c)
      have h9 : E 9 d = nI q := by rw [(hR.2.2.2.2.2.2.2.1 d hd5).1, eq]
      rw [hLd, h9]
      have := cnt_le (inS (rV M) 3 (nI d)) c
      exact decide_eq_decide.mpr (nI_lti (by omega) (by omega))
    have kR2 : ∀ {post : Int32 → Off → Prop}, ((nI (cnt (inS (rV M) 3 (nI d)) c) < nI q → wj_X5_cannotMove_130 post M (nI k) (nI d) 0) ∧ (¬ nI (cnt (inS (rV M) 3 (nI d)) c) < nI q → wj_X5_cannotMove_130 post M (nI k) (nI d) 1)) → wp_X5_cannotMove post M (nI k) (nI d) := by
      intro post h
      refine kR (s5_livingIn hm h14 (s5_notes_f (l00 (s5_livingIn hm h14 ?_))))
      rw [show (120 : Int32) = nI 120 from rfl, nI_add, kc (by omega), eq]
      exact ⟨vpk (by omega) (by omega), h⟩
    have hli : nI (cnt (inS (rV M) 3 (nI d)) c) < nI q ↔ cnt (inS (rV M) 3 (nI d)) c < q := by
      have := cnt_le (inS (rV M) 3 (nI d)) c
      exact nI_lti (by omega) (by omega)
    by_cases hr : cnt (inS (rV M) 3 (nI d)) c < q
    case neg =>
      refine Or.inl ⟨14, nI q, by omega, by omega, fun E hE post h => ?_, fun post h => kR2 (iF (fun y => hr (hli.mp y)) ?_)⟩
      · have hR := rE_rows hE hR
        have hc := hR.1
        have e := vE_2 hR hk
        have e7 := vE_7 hR hk
        refine kC hR (s3_hasRoom hR.1 h14 hd5 ?_)
        rw [hroom hR, decide_eq_false hr]
        refine b01 ?_
        rw [kc (by omega), show E 9 d = nI q by rw [(hR.2.2.2.2.2.2.2.1 d hd5).1, eq]]
        refine ⟨vpk (by omega) (by omega), fun o1 e1 => ?_⟩
        subst e1
        exact h
      · unfold wj_X5_cannotMove_130
        rw [show (120 : Int32) = nI 120 from rfl, nI_add, kc (by omega), eq]
        exact ⟨vpk (by omega) (by omega), s5_notes_t (l11 h)⟩
    have kC3 : ∀ {E : Off}, rE E (M 1) c → ∀ {post : Int32 → Off → Prop}, ((bI (shutF (nI b) (rV M k 0)) = 0 → post 0 E) ∧ (¬ bI (shutF (nI b) (rV M k 0)) = 0 → wp_X0_because (fun v7 o6 => post v7 o6) E 15 (nI k))) → C_m (nI k) (nI d) post E := by
      intro E hR post h
      have hban : banF (E 10 d) (u16F (E 1 k)) = shutF (nI b) (rV M k 0) := by
        rw [show E 10 d = nI b by rw [(hR.2.2.2.2.2.2.2.1 d hd5).2, eb], show E 1 k = rV M k 0 from (vE1_of hR hk).1, (col_yes w1).2, banP hb w1]
      refine kC hR (s3_hasRoom hR.1 h14 hd5 ?_)
      rw [hroom hR, decide_eq_true hr]
      refine b11 (s3_colourAt (by omega) (s3_bans hd5 ?_))
      rw [hban]
      exact h
    have kR3 : ∀ {post : Int32 → Off → Prop}, wp_X5_notes (fun v18 o17 => ((v18 = 0 → post 0 o17) ∧ (¬ v18 = 0 → post 1 o17))) M (bI (shutF (nI b) (rV M k 0))) 15 (nI k) → wp_X5_cannotMove post M (nI k) (nI d) := by
      intro post h
      refine kR2 (iT (hli.mpr hr) ?_)
      unfold wj_X5_cannotMove_130
      rw [show (120 : Int32) = nI 120 from rfl, nI_add, kc (by omega)]
      refine ⟨vpk (by omega) (by omega), s5_notes_f (l01 (s5_s (f := 0) (by omega) (by decide) (s5_isShut hd5 ?_)))⟩
      rw [eb]
      exact h
    cases hsh : shutF (nI b) (rV M k 0)
    · exact Or.inr ⟨hq, hal, fun post h => kC3 hR (by rw [hsh]; exact b00 h), fun post h => kR3 (by rw [hsh]; exact s5_notes_f (l00 h))⟩
    · refine Or.inl ⟨15, nI k, by omega, by omega, fun E hE post h => ?_, fun post h => kR3 (by rw [hsh]; exact s5_notes_t (l10 h))⟩
      have hR := rE_rows hE hR
      have hc := hR.1
      have e := vE_2 hR hk
      have e7 := vE_7 hR hk
      refine kC3 hR ?_
      rw [hsh]
      refine b10 (fun o1 e1 => ?_)
      subst e1
      exact h
  by_cases hx : M 1 (tI a d) = 120
  case neg => exact hfin (fun hR _ h => hcl2 hR (s3_countOf hR.1 h14 (jF hx h))) (fun h => hrf2 (jF hx h))
  have hli2 : nI (cnt (inS (rV M) 3 (nI d)) c) < nI (cnt (inS (rV M) 3 (nI a)) c) ↔ cnt (inS (rV M) 3 (nI d)) c < cnt (inS (rV M) 3 (nI a)) c := by
    have h1 := cnt_le (inS (rV M) 3 (nI d)) c
    have h2 := cnt_le (inS (rV M) 3 (nI a)) c
    exact nI_lti (by omega) (by omega)
  by_cases hlt : nI (cnt (inS (rV M) 3 (nI d)) c) < nI (cnt (inS (rV M) 3 (nI a)) c)
  · exact hfin (fun hR _ h => hcl2 hR (s3_countOf hR.1 h14 (jT hx (s3_countOf hR.1 h14 (by rw [cntS_eq (rE_v hR) (by decide) (Nat.le_refl c), cntS_eq (rE_v hR) (by decide) (Nat.le_refl c)]; exact iT hlt h))))) (fun h => hrf2 (jT hx (s5_livingIn hm h14 (s5_livingIn hm h14 (iT hlt h)))))
  · refine Or.inl ⟨13, nI (cnt (inS (rV M) 3 (nI a)) c), by omega, by omega, fun E hE post h => ?_, fun post h => hrf2 (jT hx (s5_livingIn hm h14 (s5_livingIn hm h14 (iF hlt (s5_livingIn hm h14 (s5_notes_t (l10 h)))))))⟩
    have hR := rE_rows hE hR
    have hc := hR.1
    have e := vE_2 hR hk
    have e7 := vE_7 hR hk
    refine hcl2 hR (s3_countOf hc h14 (jT hx (s3_countOf hc h14 ?_)))
    rw [cntS_eq (rE_v hR) (by decide) (Nat.le_refl c), cntS_eq (rE_v hR) (by decide) (Nat.le_refl c)]
    refine iF hlt (fun o1 e1 => ?_)
    subst e1
    exact h
theorem out_m {E M : Off} {c T : Nat} (hR : rE E (M 1) c) (hV : vN (M 1) c T) (hT0 : T ≤ 10240) (p0 p1 : Int32) : outc (C_m p0 p1) (A_m p0 p1) (R_m p0 p1) B1 E M T := by
  have hc := hR.1
  have hm := hR.2.1
  have h14 := hV.1
  cases hd : isD p1
  · refine Or.inl ⟨-1, 1, ⟨rfl, rfl⟩, fun post h => s3_isD hd (b01 h), fun F J A1 h => ?_⟩
    cases hs : isS p0 c
    · exact s5_isS hm h14 hs (b00 h)
    · exact s5_isS hm h14 hs (b10 (s5_isD hd (b01 h)))
  obtain ⟨d, hd5, rfl⟩ := isD_c hd
  cases hs : isS p0 c
  · exact Or.inl ⟨-1, 1, ⟨rfl, rfl⟩, fun post h => s3_isD hd (b11 (s3_isS hc hs (b01 (iF (by decide) h)))), fun F J A1 h => s5_isS hm h14 hs (b00 h)⟩
  obtain ⟨k, hk, rfl⟩ := isS_c hs h14
  rcases mvChk hR hV hk hd5 with ⟨r, dd, h1, h2, hC, hX⟩ | ⟨hq, hal, hC, hX⟩
  · exact Or.inr (Or.inl ⟨r, dd, h1, h2, hC, fun F J A1 h => s5_isS hm h14 hs (b10 (s5_isD hd (b11 (hX _ (l10 h)))))⟩)
  obtain ⟨g0, g1, g2, g7, g3, g4, g5, g6⟩ := vE1_of hR hk
  obtain ⟨w1, w2, w3, w4, w5, w6⟩ := vV1_of hV hk
  obtain ⟨a, ha5, ea⟩ := w4 (by rw [hq]; decide)
  obtain ⟨t1, t2⟩ := tI_lt ha5 hd5
  obtain ⟨t, ht, et⟩ := hV.2.2.1
  obtain ⟨y, hy, ey⟩ := w6 hq
  let w : Int32 := if M 1 (tI a d) = 115 ∧ ¬ rV M k 6 ≤ M 1 1 + 3 then M 1 1 + 3 else rV M k 6
  have hw : ∃ y, y ≤ T + 20 ∧ w = nI y := by
    show ∃ y, y ≤ T + 20 ∧ (if M 1 (tI a d) = 115 ∧ ¬ rV M k 6 ≤ M 1 1 + 3 then M 1 1 + 3 else rV M k 6) = nI y
    split
    · exact ⟨t + 3, by omega, by rw [et, show (3 : Int32) = nI 3 from rfl, nI_add]⟩
    · exact ⟨y, hy, ey⟩
  have hself : rset M k 6 (rV M k 6) = M := st_self M 1 (8 + 8 * k + 6)
  refine Or.inr (Or.inr ⟨hC, w, rset (rset M k 6 w) k 3 (nI d), fun F J A1 h => s5_isS hm h14 hs (b10 (s5_isD hd (b11 (hX _ (l00 ?_))))), fun q hq => by rw [rset_r _ _ _ _ _ hq, rset_r _ _ _ _ _ hq], fun E2 hE2 => ?_⟩)
  · refine ⟨vp1, fun v1 e1 => s5_s (f := 3) (by omega) (by decide) ?_⟩
    rw [c1] at e1
    rw [ea]
    refine s5_treatyOf ha5 hd5 ?_
    rw [kc (by omega)]
    refine ⟨vpk (by omega) (by omega), ?_⟩
    have h48 : ∀ M2 : Off, M2 = rset M k 6 w → wj_X5_moves_48 A1 M2 (nI k) (nI d) := by
      intro M2 e2
      subst e2
      refine s5_set (f := 3) (by omega) (by decide) (s5_s (f := 6) (by omega) (by decide) ?_)
      rw [rset_v _ _ _ _ _ _ (by decide) (by decide), if_neg (by omega), rset_v _ _ _ _ _ _ (by decide) (by decide), if_pos ⟨rfl, rfl⟩]
      exact h
    by_cases hcl : M 1 (tI a d) = 115
    · refine jT hcl (s5_s (f := 6) (by omega) (by decide) ?_)
      subst e1
      by_cases hle : rV M k 6 ≤ M 1 1 + 3
      · have ew : w = rV M k 6 := if_neg (fun z => z.2 hle)
        exact iT hle (h48 M (by rw [ew, hself]))
      · have ew : w = M 1 1 + 3 := if_pos ⟨hcl, hle⟩
        exact iF hle (s5_set (f := 6) (by omega) (by decide) (h48 _ (by rw [ew])))
    · have ew : w = rV M k 6 := if_neg (fun z => hcl z.1)
      exact jF hcl (h48 M (by rw [ew, hself]))
  · have hR2 : rE E2 (M 1) c := rE_rows hE2 hR
    obtain ⟨g0, g1, g2, g7, g3, g4, g5, g6⟩ := vE1_of hR2 hk
    have e4 : E2 4 k = nI a := (g3 (by rw [hq]; decide)).trans ea
    have e62 : E2 7 k = rV M k 6 := g6 hq
    have hup := up1 (O := st (st E2 7 k w) 4 k (nI d)) (M1 := rset (rset M k 6 w) k 3 (nI d)) hR2 hV hk (Nat.le_refl T) (fun i _ => by simp [st_at]) (fun r i h1 h8 hi => by simp [st_at, hi]) (fun r h9 h11 => by rw [st_r _ _ _ _ _ (by omega), st_r _ _ _ _ _ (by omega)]) (fun x hx => by rw [rset_o _ _ _ _ _ (by decide) hx, rset_o _ _ _ _ _ (by decide) hx]) (by
      unfold vE1
      simp (disch := decide) only [rset_v]
      simp [cV, st_at]
      exact ⟨g0, g1, g2, g7, g4, g5⟩) (by
      unfold vV1
      simp (disch := decide) only [rset_v]
      simp
      exact ⟨w1, w2, w3, fun _ => ⟨d, hd5, rfl⟩, w5, fun _ => hw⟩) (Or.inl ⟨hal, by simp (disch := decide) only [rset_v]; simpa using hal⟩)
    refine ⟨_, fun post h => ?_, ⟨c, hup.1, hup.2⟩⟩
    unfold A_m wp_X3_transfer
    rw [kc (by omega), e4]
    refine ⟨vpk (by omega) (by omega), s3_clause ha5 hd5 ?_⟩
    rw [cl_eq hR2 hV ha5 hd5]
    have h37 : ∀ O2 : Off, O2 = st E2 7 k w → wj_X3_transfer_37 post O2 (nI k) (nI d) := by
      intro O2 e2
      subst e2
      unfold wj_X3_transfer_37
      rw [kc (by omega)]
      refine ⟨vpk (by omega) (by omega), fun o2 e2 => ⟨vpk (by omega) (by omega), ?_⟩⟩
      subst e2
      have : st (st E2 7 k w) 4 k (nI d) 7 k = w := by simp [st_at]
      rw [this]
      exact h
    have hse : st E2 7 k (rV M k 6) = E2 := by rw [← e62]; exact st_self E2 7 k
    by_cases hcl : M 1 (tI a d) = 115
    · refine jT hcl ⟨vpk (by omega) (by omega), vpk (by omega) (by omega), fun o3 e3 => h37 o3 ?_⟩
      rw [e3, e62, show E2 0 1 = M 1 1 from hR2.2.2.1]
      congr 1
      by_cases hle : rV M k 6 ≤ M 1 1 + 3
      · have ew : w = rV M k 6 := if_neg (fun z => z.2 hle)
        rw [ew, if_neg ((ile _ _).mp hle)]
      · have ew : w = M 1 1 + 3 := if_pos ⟨hcl, hle⟩
        rw [ile] at hle
        rw [ew, if_pos (Decidable.not_not.mp hle)]
    · have ew : w = rV M k 6 := if_neg (fun z => hcl z.1)
      exact jF hcl (h37 E2 (by rw [ew, hse]))
theorem op_22 {j : Nat} {E M : Off} {z : Nat → Int64} {zd : Nat → UInt64} {a1 a2 a3 : Int32} (hj : j < 512) (hI : inv j E M) : wc_22 (lwInv (j + 1)) E M z zd a1 a2 a3 := by
  unfold wc_22 ww_move wp_X4_move
  exact direct (C := C_m a1 a2) (A := A_m a1 a2) (R := R_m a1 a2) (B := B1) (rn := 2) (W := fun kx E1 z1 => wp_X5_move (fun bx M1 => wp_X5_thrown (fun t => (t = kx ∧ ((kx = 0 → lg_cmp (z1 (0 : Int32).toNatClampNeg) (bx).toInt64 = 0) ∧ lwInv (j + 1) E1 M1 z1 zd))) M1) M a1 a2) hj hI (hoS fun hR hV hT0 => out_m hR hV hT0 a1 a2) (by decide) (fun code n hB => by obtain ⟨rfl, rfl⟩ := hB; exact ⟨i1ne, Or.inl ⟨rfl, fun E1 h => Or.inl ⟨rfl, h⟩⟩⟩) (fun E1 h => Or.inr ⟨rfl, h⟩) (fun _ _ _ h => h) putG
theorem op_38 {j : Nat} {E M : Off} {z : Nat → Int64} {zd : Nat → UInt64} {a1 a2 a3 : Int32} (hj : j < 512) (hI : inv j E M) : wc_38 (lwInv (j + 1)) E M z zd a1 a2 a3 := by
  obtain ⟨c, T, hc, hm, h14, hR, hV⟩ := inv_c hI
  have c20 : ∀ (Q : Int32 → Off → Prop), Q 0 (st M 0 5 1) → wj_X5_canMove_20 Q M a1 a2 := fun Q h => s5_checked (b := false) (jF (by decide) h)
  cases hs : isS a1 c
  · exact s4_sock_f hc hs ⟨rfl, s5_isS hm h14 hs (b00 (c20 _ (fin_x i1ne (by simp [st_at]) (inv_t 1 hI))))⟩
  cases hd : isD a2
  · exact s4_sock_t hc hs (s4_drawer_f hd ⟨rfl, s5_isS hm h14 hs (b10 (s5_isD hd (b00 (c20 _ (fin_x i1ne (by simp [st_at]) (inv_t 1 hI))))))⟩)
  obtain ⟨k, hk, rfl⟩ := isS_c hs h14
  obtain ⟨d, hd5, rfl⟩ := isD_c hd
  have hin : ∀ (Q : Int32 → Off → Prop), wp_X5_cannotMove (fun v5 o4 => ((¬ v5 = 0 → Q 0 o4) ∧ (v5 = 0 → Q 1 o4))) (st M 0 5 0) (nI k) (nI d) → wp_X5_canMove Q M (nI k) (nI d) := fun Q h => s5_isS hm h14 hs (b10 (s5_isD hd (b10 (s5_checked (b := true) (jT rfl h)))))
  rcases mvChk (M := st M 0 5 0) hR hV hk hd5 with ⟨r, dd, h1, h2, hC, hX⟩ | ⟨hq, hal, hC, hX⟩
  · refine s4_sock_t hc hs (s4_drawer_t hd (hC E (fun _ _ => rfl) _ (fun o4 e4 => jF (nI_0' r h1 (by omega)) (l00 (hin _ (hX _ (jF (by decide) (fin_b0 (by simp [ntd, st_at]) ?_))))))))
    refine inv_same (fun q hq1 hq2 => ?_) ⟨rfl, rfl, rfl, rfl, rfl, fun q a b d => ?_⟩ hI
    · rw [e4, put_at]
      split
      · rw [Nat.sub_zero, st_r _ _ _ _ _ hq1]
      · rfl
    · unfold ntd
      rw [st_at, if_neg (fun y => d y.2), st_at, if_neg (fun y => b y.2), st_at, if_neg (fun y => a y.2)]
  · refine s4_sock_t hc hs (s4_drawer_t hd (hC _ (fun o4 e4 => jT rfl (l10 (hin _ (hX _ (jT rfl (fin_b1 (by simp [st_at]) ?_))))))))
    rw [e4, put_self]
    exact inv_t 0 hI
