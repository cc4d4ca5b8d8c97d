/-! ===== changes: separate, pair ===== -/
theorem fit_symm (v : vW) (a b : Nat) : fit v a b = fit v b a := by
  unfold fit
  rw [show decide (a ≠ b) = decide (b ≠ a) from decide_eq_decide.mpr ⟨Ne.symm, Ne.symm⟩, show decide (v a 1 = v b 1) = decide (v b 1 = v a 1) from decide_eq_decide.mpr eq_comm, show decide (v a 0 = v b 0) = decide (v b 0 = v a 0) from decide_eq_decide.mpr eq_comm, Bool.or_comm (decide (v a 0 = 119))]
theorem fit_ne {v : vW} {a b : Nat} (h : fit v a b = true) : a ≠ b := by
  unfold fit at h
  rw [Bool.and_eq_true] at h
  exact of_decide_eq_true h.1
theorem up2 {o O M M1 : Off} {c T k p : Nat} (hR : rE o (M 1) c) (hV : vN (M 1) c T) (hk : k < c) (hp : p < c) (hkp : k ≠ p)
    (hO : ∀ r, r < 12 → r ≠ 8 → O r = o r) (hO8 : ∀ i, i ≠ k → i ≠ p → O 8 i = o 8 i)
    (hn : ∀ x, x ≠ 8 + 8 * k + 7 → x ≠ 8 + 8 * p + 7 → M1 1 x = M 1 x)
    (e1 : O 8 k = rV M1 k 7) (e2 : O 8 p = rV M1 p 7)
    (hb : (rV M k 7 = -1 ∧ rV M p 7 = -1) ∨ (rV M k 7 = nI p ∧ rV M p 7 = nI k))
    (ha : (rV M1 k 7 = -1 ∧ rV M1 p 7 = -1) ∨ (rV M1 k 7 = nI p ∧ rV M1 p 7 = nI k ∧ rV M k 2 = 3 ∧ rV M p 2 = 3 ∧ rV M k 3 = rV M p 3 ∧ fit (rV M) k p = true)) : rE O (M1 1) c ∧ vN (M1 1) c T := by
  obtain ⟨r1, r2, r3, r4, r5, r6, r7, r8, r9, r10⟩ := hR
  obtain ⟨v1, v2, ⟨t, v3, v3e⟩, v4, v5, v6, v7⟩ := hV
  have hw : ∀ i g, g < 7 → rV M1 i g = rV M i g := fun i g hg => hn _ (by omega) (by omega)
  have hw7 : ∀ i, i ≠ k → i ≠ p → rV M1 i 7 = rV M i 7 := fun i h1 h2 => hn _ (by omega) (by omega)
  have hf : ∀ a b, fit (rV M1) a b = fit (rV M) a b := fun a b => by
    unfold fit
    rw [hw a 0 (by omega), hw a 1 (by omega), hw b 0 (by omega), hw b 1 (by omega)]
  have hv : ∀ i g, g < 7 → cV O i g = cV o i g := fun i g hg => by
    show O (g + 1) i = o (g + 1) i
    rw [hO _ (by omega) (by omega)]
  have hv7 : ∀ i, i < c → cV O i 7 = rV M1 i 7 := fun i hi => by
    show O 8 i = rV M1 i 7
    by_cases h1 : i = k
    · rw [h1]; exact e1
    by_cases h2 : i = p
    · rw [h2]; exact e2
    rw [hO8 i h1 h2, hw7 i h1 h2]
    exact (r7 i hi).2.2.2.1
  refine ⟨⟨by rw [hO 0 (by omega) (by omega)]; exact r1, by rw [hn 0 (by omega) (by omega)]; exact r2, by rw [hO 0 (by omega) (by omega), hn 1 (by omega) (by omega)]; exact r3, by rw [hO 0 (by omega) (by omega), hn 2 (by omega) (by omega)]; exact r4, by rw [hO 0 (by omega) (by omega), hn 3 (by omega) (by omega)]; exact r5, by rw [hO 0 (by omega) (by omega), hn 4 (by omega) (by omega)]; exact r6, fun i hi => ?_, fun d hd => ?_, fun a b hab hb => ?_, fun a ha => ?_⟩, ⟨v1, fun i hi => ?_, ⟨t, v3, by rw [hn 1 (by omega) (by omega)]; exact v3e⟩, fun d hd => ?_, fun d hd => ?_, fun a b hab hb => ?_, fun a b hab hb => ?_⟩⟩
  · show vE1 (cV O) (rV M1) i
    unfold vE1
    rw [hv i 0 (by omega), hv i 1 (by omega), hv i 2 (by omega), hv i 3 (by omega), hv i 4 (by omega), hv i 5 (by omega), hv i 6 (by omega), hv7 i hi, hw i 0 (by omega), hw i 1 (by omega), hw i 2 (by omega), hw i 3 (by omega), hw i 4 (by omega), hw i 5 (by omega), hw i 6 (by omega)]
    obtain ⟨g0, g1, g2, -, g3⟩ := r7 i hi
    exact ⟨g0, g1, g2, rfl, g3⟩
  · rw [hO 9 (by omega) (by omega), hO 10 (by omega) (by omega), hn _ (by omega) (by omega), hn _ (by omega) (by omega)]; exact r8 d hd
  · rw [hO 11 (by omega) (by omega), hn _ (by omega) (by omega)]; exact r9 a b hab hb
  · rw [hO 11 (by omega) (by omega)]; exact r10 a ha
  · obtain ⟨w1, w2, w3, w4, w5, w6, w7⟩ := v2 i hi
    have q : ∀ i g, g < 7 → nV (M1 1) i g = nV (M 1) i g := hw
    rw [q i 0 (by omega), q i 1 (by omega), q i 2 (by omega), q i 3 (by omega), q i 4 (by omega), q i 6 (by omega)]
    refine ⟨w1, w2, w3, w4, w5, w6, ?_⟩
    by_cases h1 : i = k
    · subst h1
      rcases ha with ⟨ha, -⟩ | ⟨a1, a2, a3, a4, a5, a6⟩
      · exact Or.inl ha
      · exact Or.inr ⟨p, hp, a1, a2, a3, (q p 2 (by omega)).trans a4, a5.trans (q p 3 (by omega)).symm, (hf i p).trans a6⟩
    by_cases h2 : i = p
    · subst h2
      rcases ha with ⟨-, ha⟩ | ⟨a1, a2, a3, a4, a5, a6⟩
      · exact Or.inl ha
      · exact Or.inr ⟨k, hk, a2, a1, a4, (q k 2 (by omega)).trans a3, a5.symm.trans (q k 3 (by omega)).symm, (hf i k).trans ((fit_symm _ _ _).trans a6)⟩
    rcases w7 with w | ⟨u, u1, u2, u3, u4, u5, u6, u7⟩
    · exact Or.inl ((hw7 i h1 h2).trans w)
    · have hne : ∀ y y2 : Nat, y < c → y2 < c → i ≠ y → i ≠ y2 → (rV M y 7 = -1 ∨ rV M y 7 = nI y2) → u ≠ y := by
        intro y y2 hy hy2 hiy hiy2 h he
        subst he
        have u3 : rV M u 7 = nI i := u3
        rcases h with h | h
        · rw [h] at u3
          exact (nI_meq (by omega)).mp u3
        · rw [h, nI_eqi (by omega) (by omega)] at u3
          exact hiy2 u3.symm
      have huk : u ≠ k := hne k p hk hp h1 h2 (by rcases hb with hb | hb; exact Or.inl hb.1; exact Or.inr hb.1)
      have hup : u ≠ p := hne p k hp hk h2 h1 (by rcases hb with hb | hb; exact Or.inl hb.2; exact Or.inr hb.2)
      exact Or.inr ⟨u, u1, (hw7 i h1 h2).trans u2, (hw7 u huk hup).trans u3, u4, (q u 2 (by omega)).trans u5, u6.trans (q u 3 (by omega)).symm, (hf i u).trans u7⟩
  · rw [hn _ (by omega) (by omega)]; exact v4 d hd
  · rw [hn _ (by omega) (by omega)]; exact v5 d hd
  · rw [hn _ (by omega) (by omega)]; exact v6 a b hab hb
  · rw [hn _ (by omega) (by omega)]; exact v7 a b hab hb
abbrev C_k (p0 : Int32) (post : Int32 → Off → Prop) (o : Off) : Prop := wp_X0_separating post o p0
abbrev A_k (p0 : Int32) (post : Int32 → Off → Prop) (o : Off) : Prop := wp_X3_part post o p0
abbrev R_k (p0 : Int32) (F : Int32 → Prop) (J : Off → Prop) (A1 : Int32 → Off → Prop) (o : Off) : Prop := wp_X5_isSock (fun v2 => ((¬ v2 = 0 → wp_X5_cannotSeparate (fun v4 o3 => ((v4 = 0 → wp_X5_separates A1 o3 p0) ∧ (¬ v4 = 0 → J o3))) o p0) ∧ (v2 = 0 → F 1))) o p0
theorem out_k {E M : Off} {c T : Nat} (hR : rE E (M 1) c) (hV : vN (M 1) c T) (hT0 : T ≤ 10240) (p0 : Int32) : outc (C_k p0) (A_k p0) (R_k p0) B1 E M T := by
  have hc := hR.1
  have hm := hR.2.1
  have h14 := hV.1
  cases hs : isS p0 c
  · exact Or.inl ⟨-1, 1, ⟨rfl, rfl⟩, fun post h => s3_isS hc hs (by first | exact b00 h | exact b01 h), fun F J A1 h => s5_isS hm h14 hs (by first | exact b00 h | exact b01 h)⟩
  obtain ⟨k, hk, rfl⟩ := isS_c hs h14
  have e := vE_2 hR hk
  have e7 := vE_7 hR hk
  have hl := par_lt hV hk
  have hl' : rV M k 7 < 0 ↔ rV M k 7 = -1 := hl
  rcases (vN_v hV k hk).2.2.2.2.2.2 with hal | ⟨p, p1, p2, p3, p4, p5, p6, p7⟩
  · have hal : rV M k 7 = -1 := hal
    refine Or.inr (Or.inl ⟨9, nI k, by omega, by omega, fun E hE post h => ?_, fun F J A1 h => s5_isS hm h14 hs (b11 (s5_isPaired (by omega) (by rw [decide_eq_true (hl'.mpr hal)]; exact b01 (s5_notes_t ⟨isB1, l10 h⟩))))⟩)
    have hR := rE_rows hE hR
    have hc := hR.1
    have e := vE_2 hR hk
    have e7 := vE_7 hR hk
    refine s3_isS hc hs (b11 ?_)
    rw [kc (by omega)]
    refine ⟨vpk (by omega) (by omega), jT (e7.trans hal) (fun o1 e1 => ?_)⟩
    subst e1
    exact h
  · have ep : rV M k 7 = nI p := p2
    have hkp : k ≠ p := fit_ne p7
    have hne : ¬ rV M k 7 = -1 := by rw [ep]; exact (nI_eqm (by omega)).mp
    refine Or.inr (Or.inr ⟨fun post h => s3_isS hc hs (b11 ?_), nI p, rset (rset M k 7 (-1)) p 7 (-1), fun F J A1 h => s5_isS hm h14 hs (b11 (s5_isPaired (by omega) ?_)), fun q hq => by rw [rset_r _ _ _ _ _ hq, rset_r _ _ _ _ _ hq], fun E2 hE2 => ?_⟩)
    · rw [kc (by omega)]
      exact ⟨vpk (by omega) (by omega), jF (fun y => hne (e7.symm.trans y)) h⟩
    · rw [decide_eq_false (fun y => hne (hl'.mp y))]
      refine b11 (s5_notes_f ⟨isB0, l00 (s5_s (f := 7) (by omega) (by decide) ?_)⟩)
      rw [ep]
      exact s5_set (f := 7) (by omega) (by decide) (s5_set (f := 7) (by omega) (by decide) h)
    · have hR2 : rE E2 (M 1) c := rE_rows hE2 hR
      have hup := up2 (O := st (st E2 8 k (-1)) 8 p (-1)) (M1 := rset (rset M k 7 (-1)) p 7 (-1)) hR2 hV hk p1 hkp (fun r hr h8 => by rw [st_r _ _ _ _ _ h8, st_r _ _ _ _ _ h8]) (fun i h1 h2 => by simp [st_at, h1, h2]) (fun x h1 h2 => by unfold rset; rw [st_at, if_neg (by omega), st_at, if_neg (by omega)]) (by
        rw [rset_v _ _ _ _ _ _ (by decide) (by decide), rset_v _ _ _ _ _ _ (by decide) (by decide)]
        simp [st_at]) (by
        rw [rset_v _ _ _ _ _ _ (by decide) (by decide), rset_v _ _ _ _ _ _ (by decide) (by decide)]
        simp [st_at]) (Or.inr ⟨ep, p3⟩) (Or.inl (by
        simp (disch := decide) only [rset_v]
        simp))
      refine ⟨_, fun post h => ?_, ⟨c, hup.1, hup.2⟩⟩
      unfold A_k wp_X3_part
      rw [kc (by omega)]
      refine ⟨vpk (by omega) (by omega), fun v1 e1 => ⟨vpk (by omega) (by omega), fun o2 e2 => ?_⟩⟩
      have e8 : E2 8 k = nI p := by rw [show E2 8 k = rV M k 7 from vE_7 hR2 hk, ep]
      rw [e8] at e1
      subst e1
      refine s3_isS (c := c) (b := true) ?_ (isS_k p1 h14) (b10 ⟨vpk (by omega) (by omega), fun o4 e4 => ?_⟩)
      · rw [e2, st_at, if_neg (by omega)]
        exact hR2.1
      · rw [kc (by omega)] at e4
        subst e4; subst e2
        exact h
theorem op_24 {j : Nat} {E M : Off} {z : Nat → Int64} {zd : Nat → UInt64} {a1 a2 a3 : Int32} (hj : j < 512) (hI : inv j E M) : wc_24 (lwInv (j + 1)) E M z zd a1 a2 a3 := by
  unfold wc_24 ww_separate wp_X4_separate
  exact direct (C := C_k a1) (A := A_k a1) (R := R_k a1) (B := B1) (rn := 2) (W := fun kx E1 z1 => wp_X5_separate (fun bx M1 => wp_X5_thrown (fun t => (t = kx ∧ ((kx = 0 → lg_cmp (z1 (0 : Int32).toNatClampNeg) (bx).toInt64 = 0) ∧ lwInv (j + 1) E1 M1 z1 zd))) M1) M a1) hj hI (hoS fun hR hV hT0 => out_k hR hV hT0 a1) (by decide) (fun code n hB => by obtain ⟨rfl, rfl⟩ := hB; exact ⟨i1ne, Or.inl ⟨rfl, fun E1 h => Or.inl ⟨rfl, h⟩⟩⟩) (fun E1 h => Or.inr ⟨rfl, h⟩) (fun _ _ _ h => h) putG
abbrev C_j (p0 p1 : Int32) (post : Int32 → Off → Prop) (o : Off) : Prop := wp_X0_pairing post o p0 p1
abbrev A_j (p0 p1 : Int32) (post : Int32 → Off → Prop) (o : Off) : Prop := wp_X3_join post o p0 p1
abbrev R_j (p0 p1 : Int32) (F : Int32 → Prop) (J : Off → Prop) (A1 : Int32 → Off → Prop) (o : Off) : Prop := wp_X5_isSock (fun v2 => ((v2 = 0 → F 1) ∧ (¬ v2 = 0 → wp_X5_isSock (fun v5 => ((¬ v5 = 0 → ((¬ p0 = p1 → wp_X5_cannotPair (fun v7 o6 => ((v7 = 0 → wp_X5_pairs A1 o6 p0 p1) ∧ (¬ v7 = 0 → J o6))) o p0 p1) ∧ (p0 = p1 → F 2))) ∧ (v5 = 0 → F 1))) o p1))) o p0
abbrev R_j2 (p0 p1 : Int32) (F : Int32 → Prop) (J : Off → Prop) (A1 : Int32 → Off → Prop) (o : Off) : Prop := wp_X5_isSock (fun v2 => ((v2 = 0 → F 1) ∧ (¬ v2 = 0 → wp_X5_isSock (fun v5 => ((v5 = 0 → F 1) ∧ (¬ v5 = 0 → ((¬ p0 = p1 → wp_X5_cannotPair (fun v7 o6 => ((v7 = 0 → wp_X5_pairs A1 o6 p0 p1) ∧ (¬ v7 = 0 → J o6))) o p0 p1) ∧ (p0 = p1 → F 2))))) o p1))) o p0
theorem out_j {E M : Off} {c T : Nat} (hR : rE E (M 1) c) (hV : vN (M 1) c T) (hT0 : T ≤ 10240) (p0 p1 : Int32) : outc (C_j p0 p1) (A_j p0 p1) (R_j p0 p1) B2 E M T := by
  have hc := hR.1
  have hm := hR.2.1
  have h14 := hV.1
  cases hs : isS p0 c
  · exact Or.inl ⟨-1, 1, Or.inl ⟨rfl, rfl⟩, fun post h => s3_isS hc hs (by first | exact b00 h | exact b01 h), fun F J A1 h => s5_isS hm h14 hs (by first | exact b00 h | exact b01 h)⟩
  obtain ⟨k, hk, rfl⟩ := isS_c hs h14
  have e := vE_2 hR hk
  have e7 := vE_7 hR hk
  cases hs2 : isS p1 c
  · exact Or.inl ⟨-1, 1, Or.inl ⟨rfl, rfl⟩, fun post h => s3_isS hc hs (b10 (s3_isS hc hs2 (b01 h))), fun F J A1 h => s5_isS hm h14 hs (b10 (s5_isS hm h14 hs2 (by first | exact b00 h | exact b01 h)))⟩
  obtain ⟨p, hp, rfl⟩ := isS_c hs2 h14
  have f2 := vE_2 hR hp
  have f7 := vE_7 hR hp
  have hin : ∀ {F : Int32 → Prop} {J : Off → Prop} {A1 : Int32 → Off → Prop}, ((¬ nI k = nI p → wp_X5_cannotPair (fun v7 o6 => ((v7 = 0 → wp_X5_pairs A1 o6 (nI k) (nI p)) ∧ (¬ v7 = 0 → J o6))) M (nI k) (nI p)) ∧ (nI k = nI p → F 2)) → R_j (nI k) (nI p) F J A1 M := by
    intro F J A1 h
    exact s5_isS hm h14 hs (b10 (s5_isS hm h14 hs2 (by first | exact b10 h | exact b11 h)))
  by_cases hkp : k = p
  · subst hkp
    exact Or.inl ⟨-2, 2, Or.inr ⟨rfl, rfl⟩, fun post h => s3_isS hc hs (b10 (s3_isS hc hs2 (b11 (jT rfl h)))), fun F J A1 h => hin (jT rfl h)⟩
  have hne : ¬ nI k = nI p := fun y => hkp ((nI_eqi (by omega) (by omega)).mp y)
  by_cases hq : rV M k 2 = 3
  case neg =>
    refine Or.inr (Or.inl ⟨6, nI k, by omega, by omega, fun E hE post h => ?_, fun F J A1 h => hin (jF hne (s5_noRes_f (by omega) hq (l11 (l10 h))))⟩)
    have hR := rE_rows hE hR
    have hc := hR.1
    have e := vE_2 hR hk
    have e7 := vE_7 hR hk
    have f2 := vE_2 hR hp
    have f7 := vE_7 hR hp
    refine s3_isS hc hs (b10 (s3_isS hc hs2 (b11 (jF hne ?_))))
    rw [kc (by omega)]
    refine ⟨vpk (by omega) (by omega), iF (fun y => hq (e.symm.trans y)) (fun o1 e1 => ?_)⟩
    subst e1
    exact h
  by_cases hq2 : rV M p 2 = 3
  case neg =>
    refine Or.inr (Or.inl ⟨6, nI p, by omega, by omega, fun E hE post h => ?_, fun F J A1 h => hin (jF hne (s5_noRes_t (by omega) hq (l01 (s5_noRes_f (by omega) hq2 (l11 (l10 h))))))⟩)
    have hR := rE_rows hE hR
    have hc := hR.1
    have e := vE_2 hR hk
    have e7 := vE_7 hR hk
    have f2 := vE_2 hR hp
    have f7 := vE_7 hR hp
    refine s3_isS hc hs (b10 (s3_isS hc hs2 (b11 (jF hne ?_))))
    rw [kc (by omega), kc (by omega)]
    refine ⟨vpk (by omega) (by omega), iT (e.trans hq) ⟨vpk (by omega) (by omega), iF (fun y => hq2 (f2.symm.trans y)) (fun o1 e1 => ?_)⟩⟩
    subst e1
    exact h
  obtain ⟨g0, g1, g2, g7, g3, g4, g5, g6⟩ := vE1_of hR hk
  obtain ⟨k0, k1, k2, k7, k3, k4, k5, k6⟩ := vE1_of hR hp
  have e3 : E 4 k = rV M k 3 := g3 (by rw [hq]; decide)
  have f3 : E 4 p = rV M p 3 := k3 (by rw [hq2]; decide)
  by_cases hd : rV M k 3 = rV M p 3
  case neg =>
    refine Or.inr (Or.inl ⟨10, rV M p 3, by omega, by omega, fun E hE post h => ?_, fun F J A1 h => hin (jF hne (s5_noRes_t (by omega) hq (l01 (s5_noRes_t (by omega) hq2 (l01 (s5_s (f := 3) (by omega) (by decide) (s5_s (f := 3) (by omega) (by decide) (iF hd (s5_s (f := 3) (by omega) (by decide) (s5_notes_t (l10 (l10 h))))))))))))⟩)
    have hR := rE_rows hE hR
    have hc := hR.1
    have e := vE_2 hR hk
    have e7 := vE_7 hR hk
    have f2 := vE_2 hR hp
    have f7 := vE_7 hR hp
    refine s3_isS hc hs (b10 (s3_isS hc hs2 (b11 (jF hne ?_))))
    rw [kc (by omega), kc (by omega)]
    refine ⟨vpk (by omega) (by omega), iT (e.trans hq) ⟨vpk (by omega) (by omega), iT (f2.trans hq2) ⟨vpk (by omega) (by omega), vpk (by omega) (by omega), iF ?_ ⟨vpk (by omega) (by omega), fun o1 e1 => ?_⟩⟩⟩⟩
    · rw [show E 4 k = rV M k 3 from (vE1_of hR hk).2.2.2.2.1 (by rw [hq]; decide), show E 4 p = rV M p 3 from (vE1_of hR hp).2.2.2.2.1 (by rw [hq2]; decide)]; exact hd
    · subst e1
      rw [show E 4 p = rV M p 3 from (vE1_of hR hp).2.2.2.2.1 (by rw [hq2]; decide)]
      exact h
  have hcl2 : ∀ {E : Off}, rE E (M 1) c → ∀ {post : Int32 → Off → Prop}, wp_X0_joining (fun v4 o3 => post v4 o3) E (nI k) (nI p) → C_j (nI k) (nI p) post E := by
    intro E hR post h
    have hc := hR.1
    have e := vE_2 hR hk
    have f2 := vE_2 hR hp
    have e3 : E 4 k = rV M k 3 := (vE1_of hR hk).2.2.2.2.1 (by rw [hq]; decide)
    have f3 : E 4 p = rV M p 3 := (vE1_of hR hp).2.2.2.2.1 (by rw [hq2]; decide)
    refine s3_isS hc hs (b10 (s3_isS hc hs2 (b11 (jF hne ?_))))
    rw [kc (by omega), kc (by omega)]
    refine ⟨vpk (by omega) (by omega), iT (e.trans hq) ⟨vpk (by omega) (by omega), iT (f2.trans hq2) ⟨vpk (by omega) (by omega), vpk (by omega) (by omega), iT ?_ h⟩⟩⟩
    rw [e3, f3]; exact hd
  have hl : rV M k 7 < 0 ↔ rV M k 7 = -1 := par_lt hV hk
  have hl2 : rV M p 7 < 0 ↔ rV M p 7 = -1 := par_lt hV hp
  by_cases ha : rV M k 7 = -1
  case neg =>
    refine Or.inr (Or.inl ⟨8, rV M k 7, by omega, by omega, fun E hE post h => ?_, fun F J A1 h => hin (jF hne (s5_noRes_t (by omega) hq (l01 (s5_noRes_t (by omega) hq2 (l01 (s5_s (f := 3) (by omega) (by decide) (s5_s (f := 3) (by omega) (by decide) (iT hd (s5_s (f := 3) (by omega) (by decide) (s5_notes_f (l00 (s5_bound_f (by omega) (fun y => ha (hl.mp y)) (l11 (l10 h))))))))))))))⟩)
    have hR := rE_rows hE hR
    have hc := hR.1
    have e := vE_2 hR hk
    have e7 := vE_7 hR hk
    have f2 := vE_2 hR hp
    have f7 := vE_7 hR hp
    refine hcl2 hR ?_
    unfold wp_X0_joining
    rw [kc (by omega)]
    refine ⟨vpk (by omega) (by omega), iF (fun y => ha (e7.symm.trans y)) ⟨vpk (by omega) (by omega), fun o1 e1 => ?_⟩⟩
    subst e1
    rw [show E 8 k = rV M k 7 from e7]
    exact h
  by_cases hb : rV M p 7 = -1
  case neg =>
    refine Or.inr (Or.inl ⟨8, rV M p 7, by omega, by omega, fun E hE post h => ?_, fun F J A1 h => hin (jF hne (s5_noRes_t (by omega) hq (l01 (s5_noRes_t (by omega) hq2 (l01 (s5_s (f := 3) (by omega) (by decide) (s5_s (f := 3) (by omega) (by decide) (iT hd (s5_s (f := 3) (by omega) (by decide) (s5_notes_f (l00 (s5_bound_t (by omega) (hl.mpr ha) (l01 (s5_bound_f (by omega) (fun y => hb (hl2.mp y)) (l11 (l10 h))))))))))))))))⟩)
    have hR := rE_rows hE hR
    have hc := hR.1
    have e := vE_2 hR hk
    have e7 := vE_7 hR hk
    have f2 := vE_2 hR hp
    have f7 := vE_7 hR hp
    refine hcl2 hR ?_
    unfold wp_X0_joining
    rw [kc (by omega), kc (by omega)]
    refine ⟨vpk (by omega) (by omega), iT (e7.trans ha) ⟨vpk (by omega) (by omega), iF (fun y => hb (f7.symm.trans y)) ⟨vpk (by omega) (by omega), fun o1 e1 => ?_⟩⟩⟩
    subst e1
    rw [show E 8 p = rV M p 7 from f7]
    exact h
  have hcl3 : ∀ {E : Off}, rE E (M 1) c → ∀ {post : Int32 → Off → Prop}, ((bI (fit (rV M) k p) = 0 → (vp_in (nI p) 14 ∧ wp_X0_because (fun v3 o2 => post v3 o2) E 11 (E 2 p))) ∧ (¬ bI (fit (rV M) k p) = 0 → post 0 E)) → C_j (nI k) (nI p) post E := by
    intro E hR post h
    have e7 := vE_7 hR hk
    have f7 := vE_7 hR hp
    have hfe : fit (cV E) k p = fit (rV M) k p := fit_eq (rE_v hR) hk hp
    refine hcl2 hR ?_
    unfold wp_X0_joining
    rw [kc (by omega), kc (by omega)]
    refine ⟨vpk (by omega) (by omega), iT (e7.trans ha) ⟨vpk (by omega) (by omega), iT (f7.trans hb) (s3_match (by omega) (by omega) ?_)⟩⟩
    rw [hfe]
    exact h
  have hin3 : ∀ {F : Int32 → Prop} {J : Off → Prop} {A1 : Int32 → Off → Prop}, ((¬ bI (fit (rV M) k p) = 0 → wj_X5_cannotPair_84 (fun v7 o6 => ((v7 = 0 → wp_X5_pairs A1 o6 (nI k) (nI p)) ∧ (¬ v7 = 0 → J o6))) M (nI p) 0) ∧ (bI (fit (rV M) k p) = 0 → wj_X5_cannotPair_84 (fun v7 o6 => ((v7 = 0 → wp_X5_pairs A1 o6 (nI k) (nI p)) ∧ (¬ v7 = 0 → J o6))) M (nI p) 1)) → R_j (nI k) (nI p) F J A1 M := by
    intro F J A1 h
    exact hin (jF hne (s5_noRes_t (by omega) hq (l01 (s5_noRes_t (by omega) hq2 (l01 (s5_s (f := 3) (by omega) (by decide) (s5_s (f := 3) (by omega) (by decide) (iT hd (s5_s (f := 3) (by omega) (by decide) (s5_notes_f (l00 (s5_bound_t (by omega) (hl.mpr ha) (l01 (s5_bound_t (by omega) (hl2.mpr hb) (l01 (s5_fits (by omega) (by omega) h))))))))))))))))
  cases hfit : fit (rV M) k p
  · refine Or.inr (Or.inl ⟨11, rV M p 1, by omega, by omega, fun E hE post h => ?_, fun F J A1 h => hin3 ?_⟩)
    · have hR := rE_rows hE hR
      have hc := hR.1
      have e := vE_2 hR hk
      have e7 := vE_7 hR hk
      have f2 := vE_2 hR hp
      have f7 := vE_7 hR hp
      refine hcl3 hR ?_
      rw [hfit]
      refine b00 ⟨vpk (by omega) (by omega), fun o1 e1 => ?_⟩
      subst e1
      rw [show E 2 p = rV M p 1 from (vE1_of hR hp).2.1]
      exact h
    · rw [hfit]
      exact b01 (s5_s (f := 1) (by omega) (by decide) (s5_notes_t (l10 (l10 h))))
  · have hR1 : (rset (rset M k 7 (nI p)) p 7 (nI k)) 1 0 = nI c := by
      rw [rset_o _ _ _ _ _ (by decide) (by omega), rset_o _ _ _ _ _ (by decide) (by omega)]
      exact hm
    refine Or.inr (Or.inr ⟨fun post h => hcl3 hR (by rw [hfit]; exact b10 h), nI (cnt (prR (rV (rset (rset M k 7 (nI p)) p 7 (nI k))) (rV M k 3)) c) / 2, rset (rset M k 7 (nI p)) p 7 (nI k), fun F J A1 h => hin3 ?_, fun q hq => by rw [rset_r _ _ _ _ _ hq, rset_r _ _ _ _ _ hq], fun E2 hE2 => ?_⟩)
    · rw [hfit]
      refine b11 (s5_s (f := 1) (by omega) (by decide) (s5_notes_f (l00 (l00 ?_))))
      refine s5_set (f := 7) (by omega) (by decide) (s5_set (f := 7) (by omega) (by decide) (s5_s (f := 3) (by omega) (by decide) ?_))
      rw [rset_v _ _ _ _ _ _ (by decide) (by decide), if_neg (by omega), rset_v _ _ _ _ _ _ (by decide) (by decide), if_neg (by omega)]
      exact s5_pairsIn hR1 h14 h
    · have hR2 : rE E2 (M 1) c := rE_rows hE2 hR
      have hup := up2 (O := st (st E2 8 k (nI p)) 8 p (nI k)) (M1 := rset (rset M k 7 (nI p)) p 7 (nI k)) hR2 hV hk hp hkp (fun r hr h8 => by rw [st_r _ _ _ _ _ h8, st_r _ _ _ _ _ h8]) (fun i h1 h2 => by simp [st_at, h1, h2]) (fun x h1 h2 => by unfold rset; rw [st_at, if_neg (by omega), st_at, if_neg (by omega)]) (by
        rw [rset_v _ _ _ _ _ _ (by decide) (by decide), rset_v _ _ _ _ _ _ (by decide) (by decide)]
        simp [st_at, hkp]) (by
        rw [rset_v _ _ _ _ _ _ (by decide) (by decide), rset_v _ _ _ _ _ _ (by decide) (by decide)]
        simp [st_at]) (Or.inl ⟨ha, hb⟩) (Or.inr ⟨by simp (disch := decide) only [rset_v]; simp [hkp], by simp (disch := decide) only [rset_v]; simp, hq, hq2, hd, hfit⟩)
      refine ⟨_, fun post h => ?_, ⟨c, hup.1, hup.2⟩⟩
      unfold A_j wp_X3_join
      rw [kc (by omega), kc (by omega)]
      refine ⟨vpk (by omega) (by omega), fun o1 e1 => ⟨vpk (by omega) (by omega), fun o2 e2 => ⟨vpk (by omega) (by omega), ?_⟩⟩⟩
      subst e1; subst e2
      refine s3_pairsIn hup.1.1 h14 ?_
      rw [cntP_eq hup.1 hup.2]
      have e4 : st (st E2 8 k (nI p)) 8 p (nI k) 4 k = rV M k 3 := by
        rw [st_r _ _ _ _ _ (by omega), st_r _ _ _ _ _ (by omega)]
        exact (vE1_of hR2 hk).2.2.2.2.1 (by rw [hq]; decide)
      rw [e4]
      exact h
theorem out_j2 {E M : Off} {c T : Nat} (hR : rE E (M 1) c) (hV : vN (M 1) c T) (hT0 : T ≤ 10240) (p0 p1 : Int32) : outc (C_j p0 p1) (A_j p0 p1) (R_j2 p0 p1) B2 E M T := by
  have hc := hR.1
  have hm := hR.2.1
  have h14 := hV.1
  cases hs : isS p0 c
  · exact Or.inl ⟨-1, 1, Or.inl ⟨rfl, rfl⟩, fun post h => s3_isS hc hs (by first | exact b00 h | exact b01 h), fun F J A1 h => s5_isS hm h14 hs (by first | exact b00 h | exact b01 h)⟩
  obtain ⟨k, hk, rfl⟩ := isS_c hs h14
  have e := vE_2 hR hk
  have e7 := vE_7 hR hk
  cases hs2 : isS p1 c
  · exact Or.inl ⟨-1, 1, Or.inl ⟨rfl, rfl⟩, fun post h => s3_isS hc hs (b10 (s3_isS hc hs2 (b01 h))), fun F J A1 h => s5_isS hm h14 hs (b10 (s5_isS hm h14 hs2 (by first | exact b00 h | exact b01 h)))⟩
  obtain ⟨p, hp, rfl⟩ := isS_c hs2 h14
  have f2 := vE_2 hR hp
  have f7 := vE_7 hR hp
  have hin : ∀ {F : Int32 → Prop} {J : Off → Prop} {A1 : Int32 → Off → Prop}, ((¬ nI k = nI p → wp_X5_cannotPair (fun v7 o6 => ((v7 = 0 → wp_X5_pairs A1 o6 (nI k) (nI p)) ∧ (¬ v7 = 0 → J o6))) M (nI k) (nI p)) ∧ (nI k = nI p → F 2)) → R_j2 (nI k) (nI p) F J A1 M := by
    intro F J A1 h
    exact s5_isS hm h14 hs (b10 (s5_isS hm h14 hs2 (by first | exact b10 h | exact b11 h)))
  by_cases hkp : k = p
  · subst hkp
    exact Or.inl ⟨-2, 2, Or.inr ⟨rfl, rfl⟩, fun post h => s3_isS hc hs (b10 (s3_isS hc hs2 (b11 (jT rfl h)))), fun F J A1 h => hin (jT rfl h)⟩
  have hne : ¬ nI k = nI p := fun y => hkp ((nI_eqi (by omega) (by omega)).mp y)
  by_cases hq : rV M k 2 = 3
  case neg =>
    refine Or.inr (Or.inl ⟨6, nI k, by omega, by omega, fun E hE post h => ?_, fun F J A1 h => hin (jF hne (s5_noRes_f (by omega) hq (l11 (l10 h))))⟩)
    have hR := rE_rows hE hR
    have hc := hR.1
    have e := vE_2 hR hk
    have e7 := vE_7 hR hk
    have f2 := vE_2 hR hp
    have f7 := vE_7 hR hp
    refine s3_isS hc hs (b10 (s3_isS hc hs2 (b11 (jF hne ?_))))
    rw [kc (by omega)]
    refine ⟨vpk (by omega) (by omega), iF (fun y => hq (e.symm.trans y)) (fun o1 e1 => ?_)⟩
    subst e1
    exact h
  by_cases hq2 : rV M p 2 = 3
  case neg =>
    refine Or.inr (Or.inl ⟨6, nI p, by omega, by omega, fun E hE post h => ?_, fun F J A1 h => hin (jF hne (s5_noRes_t (by omega) hq (l01 (s5_noRes_f (by omega) hq2 (l11 (l10 h))))))⟩)
    have hR := rE_rows hE hR
    have hc := hR.1
    have e := vE_2 hR hk
    have e7 := vE_7 hR hk
    have f2 := vE_2 hR hp
    have f7 := vE_7 hR hp
    refine s3_isS hc hs (b10 (s3_isS hc hs2 (b11 (jF hne ?_))))
    rw [kc (by omega), kc (by omega)]
    refine ⟨vpk (by omega) (by omega), iT (e.trans hq) ⟨vpk (by omega) (by omega), iF (fun y => hq2 (f2.symm.trans y)) (fun o1 e1 => ?_)⟩⟩
    subst e1
    exact h
  obtain ⟨g0, g1, g2, g7, g3, g4, g5, g6⟩ := vE1_of hR hk
  obtain ⟨k0, k1, k2, k7, k3, k4, k5, k6⟩ := vE1_of hR hp
  have e3 : E 4 k = rV M k 3 := g3 (by rw [hq]; decide)
  have f3 : E 4 p = rV M p 3 := k3 (by rw [hq2]; decide)
  by_cases hd : rV M k 3 = rV M p 3
  case neg =>
    refine Or.inr (Or.inl ⟨10, rV M p 3, by omega, by omega, fun E hE post h => ?_, fun F J A1 h => hin (jF hne (s5_noRes_t (by omega) hq (l01 (s5_noRes_t (by omega) hq2 (l01 (s5_s (f := 3) (by omega) (by decide) (s5_s (f := 3) (by omega) (by decide) (iF hd (s5_s (f := 3) (by omega) (by decide) (s5_notes_t (l10 (l10 h))))))))))))⟩)
    have hR := rE_rows hE hR
    have hc := hR.1
    have e := vE_2 hR hk
    have e7 := vE_7 hR hk
    have f2 := vE_2 hR hp
    have f7 := vE_7 hR hp
    refine s3_isS hc hs (b10 (s3_isS hc hs2 (b11 (jF hne ?_))))
    rw [kc (by omega), kc (by omega)]
    refine ⟨vpk (by omega) (by omega), iT (e.trans hq) ⟨vpk (by omega) (by omega), iT (f2.trans hq2) ⟨vpk (by omega) (by omega), vpk (by omega) (by omega), iF ?_ ⟨vpk (by omega) (by omega), fun o1 e1 => ?_⟩⟩⟩⟩
    · rw [show E 4 k = rV M k 3 from (vE1_of hR hk).2.2.2.2.1 (by rw [hq]; decide), show E 4 p = rV M p 3 from (vE1_of hR hp).2.2.2.2.1 (by rw [hq2]; decide)]; exact hd
    · subst e1
      rw [show E 4 p = rV M p 3 from (vE1_of hR hp).2.2.2.2.1 (by rw [hq2]; decide)]
      exact h
  have hcl2 : ∀ {E : Off}, rE E (M 1) c → ∀ {post : Int32 → Off → Prop}, wp_X0_joining (fun v4 o3 => post v4 o3) E (nI k) (nI p) → C_j (nI k) (nI p) post E := by
    intro E hR post h
    have hc := hR.1
    have e := vE_2 hR hk
    have f2 := vE_2 hR hp
    have e3 : E 4 k = rV M k 3 := (vE1_of hR hk).2.2.2.2.1 (by rw [hq]; decide)
    have f3 : E 4 p = rV M p 3 := (vE1_of hR hp).2.2.2.2.1 (by rw [hq2]; decide)
    refine s3_isS hc hs (b10 (s3_isS hc hs2 (b11 (jF hne ?_))))
    rw [kc (by omega), kc (by omega)]
    refine ⟨vpk (by omega) (by omega), iT (e.trans hq) ⟨vpk (by omega) (by omega), iT (f2.trans hq2) ⟨vpk (by omega) (by omega), vpk (by omega) (by omega), iT ?_ h⟩⟩⟩
    rw [e3, f3]; exact hd
  have hl : rV M k 7 < 0 ↔ rV M k 7 = -1 := par_lt hV hk
  have hl2 : rV M p 7 < 0 ↔ rV M p 7 = -1 := par_lt hV hp
  by_cases ha : rV M k 7 = -1
  case neg =>
    refine Or.inr (Or.inl ⟨8, rV M k 7, by omega, by omega, fun E hE post h => ?_, fun F J A1 h => hin (jF hne (s5_noRes_t (by omega) hq (l01 (s5_noRes_t (by omega) hq2 (l01 (s5_s (f := 3) (by omega) (by decide) (s5_s (f := 3) (by omega) (by decide) (iT hd (s5_s (f := 3) (by omega) (by decide) (s5_notes_f (l00 (s5_bound_f (by omega) (fun y => ha (hl.mp y)) (l11 (l10 h))))))))))))))⟩)
    have hR := rE_rows hE hR
    have hc := hR.1
    have e := vE_2 hR hk
    have e7 := vE_7 hR hk
    have f2 := vE_2 hR hp
    have f7 := vE_7 hR hp
    refine hcl2 hR ?_
    unfold wp_X0_joining
    rw [kc (by omega)]
    refine ⟨vpk (by omega) (by omega), iF (fun y => ha (e7.symm.trans y)) ⟨vpk (by omega) (by omega), fun o1 e1 => ?_⟩⟩
    subst e1
    rw [show E 8 k = rV M k 7 from e7]
    exact h
  by_cases hb : rV M p 7 = -1
  case neg =>
    refine Or.inr (Or.inl ⟨8, rV M p 7, by omega, by omega, fun E hE post h => ?_, fun F J A1 h => hin (jF hne (s5_noRes_t (by omega) hq (l01 (s5_noRes_t (by omega) hq2 (l01 (s5_s (f := 3) (by omega) (by decide) (s5_s (f := 3) (by omega) (by decide) (iT hd (s5_s (f := 3) (by omega) (by decide) (s5_notes_f (l00 (s5_bound_t (by omega) (hl.mpr ha) (l01 (s5_bound_f (by omega) (fun y => hb (hl2.mp y)) (l11 (l10 h))))))))))))))))⟩)
    have hR := rE_rows hE hR
    have hc := hR.1
    have e := vE_2 hR hk
    have e7 := vE_7 hR hk
    have f2 := vE_2 hR hp
    have f7 := vE_7 hR hp
    refine hcl2 hR ?_
    unfold wp_X0_joining
    rw [kc (by omega), kc (by omega)]
    refine ⟨vpk (by omega) (by omega), iT (e7.trans ha) ⟨vpk (by omega) (by omega), iF (fun y => hb (f7.symm.trans y)) ⟨vpk (by omega) (by omega), fun o1 e1 => ?_⟩⟩⟩
    subst e1
    rw [show E 8 p = rV M p 7 from f7]
    exact h
  have hcl3 : ∀ {E : Off}, rE E (M 1) c → ∀ {post : Int32 → Off → Prop}, ((bI (fit (rV M) k p) = 0 → (vp_in (nI p) 14 ∧ wp_X0_because (fun v3 o2 => post v3 o2) E 11 (E 2 p))) ∧ (¬ bI (fit (rV M) k p) = 0 → post 0 E)) → C_j (nI k) (nI p) post E := by
    intro E hR post h
    have e7 := vE_7 hR hk
    have f7 := vE_7 hR hp
    have hfe : fit (cV E) k p = fit (rV M) k p := fit_eq (rE_v hR) hk hp
    refine hcl2 hR ?_
    unfold wp_X0_joining
    rw [kc (by omega), kc (by omega)]
    refine ⟨vpk (by omega) (by omega), iT (e7.trans ha) ⟨vpk (by omega) (by omega), iT (f7.trans hb) (s3_match (by omega) (by omega) ?_)⟩⟩
    rw [hfe]
    exact h
  have hin3 : ∀ {F : Int32 → Prop} {J : Off → Prop} {A1 : Int32 → Off → Prop}, ((¬ bI (fit (rV M) k p) = 0 → wj_X5_cannotPair_84 (fun v7 o6 => ((v7 = 0 → wp_X5_pairs A1 o6 (nI k) (nI p)) ∧ (¬ v7 = 0 → J o6))) M (nI p) 0) ∧ (bI (fit (rV M) k p) = 0 → wj_X5_cannotPair_84 (fun v7 o6 => ((v7 = 0 → wp_X5_pairs A1 o6 (nI k) (nI p)) ∧ (¬ v7 = 0 → J o6))) M (nI p) 1)) → R_j2 (nI k) (nI p) F J A1 M := by
    intro F J A1 h
    exact hin (jF hne (s5_noRes_t (by omega) hq (l01 (s5_noRes_t (by omega) hq2 (l01 (s5_s (f := 3) (by omega) (by decide) (s5_s (f := 3) (by omega) (by decide) (iT hd (s5_s (f := 3) (by omega) (by decide) (s5_notes_f (l00 (s5_bound_t (by omega) (hl.mpr ha) (l01 (s5_bound_t (by omega) (hl2.mpr hb) (l01 (s5_fits (by omega) (by omega) h))))))))))))))))
  cases hfit : fit (rV M) k p
  · refine Or.inr (Or.inl ⟨11, rV M p 1, by omega, by omega, fun E hE post h => ?_, fun F J A1 h => hin3 ?_⟩)
    · have hR := rE_rows hE hR
      have hc := hR.1
      have e := vE_2 hR hk
      have e7 := vE_7 hR hk
      have f2 := vE_2 hR hp
      have f7 := vE_7 hR hp
      refine hcl3 hR ?_
      rw [hfit]
      refine b00 ⟨vpk (by omega) (by omega), fun o1 e1 => ?_⟩
      subst e1
      rw [show E 2 p = rV M p 1 from (vE1_of hR hp).2.1]
      exact h
    · rw [hfit]
      exact b01 (s5_s (f := 1) (by omega) (by decide) (s5_notes_t (l10 (l10 h))))
  · have hR1 : (rset (rset M k 7 (nI p)) p 7 (nI k)) 1 0 = nI c := by
      rw [rset_o _ _ _ _ _ (by decide) (by omega), rset_o _ _ _ _ _ (by decide) (by omega)]
      exact hm
    refine Or.inr (Or.inr ⟨fun post h => hcl3 hR (by rw [hfit]; exact b10 h), nI (cnt (prR (rV (rset (rset M k 7 (nI p)) p 7 (nI k))) (rV M k 3)) c) / 2, rset (rset M k 7 (nI p)) p 7 (nI k), fun F J A1 h => hin3 ?_, fun q hq => by rw [rset_r _ _ _ _ _ hq, rset_r _ _ _ _ _ hq], fun E2 hE2 => ?_⟩)
    · rw [hfit]
      refine b11 (s5_s (f := 1) (by omega) (by decide) (s5_notes_f (l00 (l00 ?_))))
      refine s5_set (f := 7) (by omega) (by decide) (s5_set (f := 7) (by omega) (by decide) (s5_s (f := 3) (by omega) (by decide) ?_))
      rw [rset_v _ _ _ _ _ _ (by decide) (by decide), if_neg (by omega), rset_v _ _ _ _ _ _ (by decide) (by decide), if_neg (by omega)]
      exact s5_pairsIn hR1 h14 h
    · have hR2 : rE E2 (M 1) c := rE_rows hE2 hR
      have hup := up2 (O := st (st E2 8 k (nI p)) 8 p (nI k)) (M1 := rset (rset M k 7 (nI p)) p 7 (nI k)) hR2 hV hk hp hkp (fun r hr h8 => by rw [st_r _ _ _ _ _ h8, st_r _ _ _ _ _ h8]) (fun i h1 h2 => by simp [st_at, h1, h2]) (fun x h1 h2 => by unfold rset; rw [st_at, if_neg (by omega), st_at, if_neg (by omega)]) (by
        rw [rset_v _ _ _ _ _ _ (by decide) (by decide), rset_v _ _ _ _ _ _ (by decide) (by decide)]
        simp [st_at, hkp]) (by
        rw [rset_v _ _ _ _ _ _ (by decide) (by decide), rset_v _ _ _ _ _ _ (by decide) (by decide)]
        simp [st_at]) (Or.inl ⟨ha, hb⟩) (Or.inr ⟨by simp (disch := decide) only [rset_v]; simp [hkp], by simp (disch := decide) only [rset_v]; simp, hq, hq2, hd, hfit⟩)
      refine ⟨_, fun post h => ?_, ⟨c, hup.1, hup.2⟩⟩
      unfold A_j wp_X3_join
      rw [kc (by omega), kc (by omega)]
      refine ⟨vpk (by omega) (by omega), fun o1 e1 => ⟨vpk (by omega) (by omega), fun o2 e2 => ⟨vpk (by omega) (by omega), ?_⟩⟩⟩
      subst e1; subst e2
      refine s3_pairsIn hup.1.1 h14 ?_
      rw [cntP_eq hup.1 hup.2]
      have e4 : st (st E2 8 k (nI p)) 8 p (nI k) 4 k = rV M k 3 := by
        rw [st_r _ _ _ _ _ (by omega), st_r _ _ _ _ _ (by omega)]
        exact (vE1_of hR2 hk).2.2.2.2.1 (by rw [hq]; decide)
      rw [e4]
      exact h
theorem op_23 {j : Nat} {E M : Off} {z : Nat → Int64} {zd : Nat → UInt64} {a1 a2 a3 : Int32} (hj : j < 512) (hI : inv j E M) : wc_23 (lwInv (j + 1)) E M z zd a1 a2 a3 := by
  unfold wc_23 ww_pair wp_X4_pair
  exact direct (C := C_j a1 a2) (A := A_j a1 a2) (R := R_j a1 a2) (B := B2) (rn := 3) (W := fun kx E1 z1 => wp_X5_pair (fun bx M1 => wp_X5_thrown (fun t => (t = kx ∧ ((kx = 0 → lg_cmp (z1 (0 : Int32).toNatClampNeg) (bx).toInt64 = 0) ∧ lwInv (j + 1) E1 M1 z1 zd))) M1) M a1 a2) hj hI (hoS fun hR hV hT0 => out_j hR hV hT0 a1 a2) (by decide) (fun code n hB => by rcases hB with ⟨rfl, rfl⟩ | ⟨rfl, rfl⟩; exact ⟨i1ne, Or.inl ⟨rfl, fun E1 h => Or.inl ⟨rfl, h⟩⟩⟩; exact ⟨i2ne, Or.inr (Or.inl ⟨rfl, fun E1 h => Or.inr (Or.inl ⟨rfl, h⟩)⟩)⟩) (fun E1 h => Or.inr (Or.inr ⟨rfl, h⟩)) (fun _ _ _ h => h) putG
