/-! ===== changes: apply, withdraw, appeal, renew, leave ===== -/
theorem vE1_of {o M : Off} {c k : Nat} (h : rE o (M 1) c) (hk : k < c) : vE1 (cV o) (rV M) k := rE_v h k hk
theorem vV1_of {M : Off} {c T k : Nat} (h : vN (M 1) c T) (hk : k < c) : vV1 (rV M) T k := by
  obtain ⟨w1, w2, w3, w4, w5, w6, -⟩ := vN_v h k hk
  exact ⟨w1, w2, w3, w4, w5, w6⟩
def B1 : Int32 → Int32 → Prop := fun code n => code = -1 ∧ n = 1
abbrev C_a (p0 p1 : Int32) (post : Int32 → Off → Prop) (o : Off) : Prop := wp_X0_applying post o p0 p1
abbrev A_a (p0 p1 : Int32) (post : Int32 → Off → Prop) (o : Off) : Prop := wp_X3_file post o p0 p1
abbrev R_a (p0 p1 : Int32) (F : Int32 → Prop) (J : Off → Prop) (A1 : Int32 → Off → Prop) (o : Off) : Prop := wp_X5_isSock (fun v2 => ((v2 = 0 → F 1) ∧ (¬ v2 = 0 → wp_X5_isDrawer (fun v5 => ((¬ v5 = 0 → wp_X5_cannotApply (fun v7 o6 => ((v7 = 0 → wp_X5_applies A1 o6 p0 p1) ∧ (¬ v7 = 0 → J o6))) o p0) ∧ (v5 = 0 → F 1))) p1))) o p0
theorem out_a {E M : Off} {c T : Nat} (hR : rE E (M 1) c) (hV : vN (M 1) c T) (hT0 : T ≤ 10240) (p0 p1 : Int32) : outc (C_a p0 p1) (A_a p0 p1) (R_a p0 p1) B1 E M T := by
  have hc := hR.1
  have hm := hR.2.1
  have h14 := hV.1
  cases hs : isS p0 c
  · exact Or.inl ⟨-1, 1, ⟨rfl, rfl⟩, fun post h => s3_isS hc hs (b00 h), fun F J A1 h => s5_isS hm h14 hs (b00 h)⟩
  obtain ⟨k, hk, rfl⟩ := isS_c hs h14
  cases hd : isD p1
  · exact Or.inl ⟨-1, 1, ⟨rfl, rfl⟩, fun post h => s3_isS hc hs (b10 (s3_isD hd (b01 h))), fun F J A1 h => s5_isS hm h14 hs (b10 (s5_isD hd (b01 h)))⟩
  obtain ⟨d, hd5, rfl⟩ := isD_c hd
  have e := vE_2 hR hk
  by_cases hq : rV M k 2 = 0
  · refine Or.inr (Or.inr ⟨fun post h => s3_isS hc hs (b10 (s3_isD hd (b11 ?_))), ?_⟩)
    · rw [kc (by omega)]
      exact ⟨vpk (by omega) (by omega), iT (e.trans hq) h⟩
    · refine ⟨nI (cnt (inS (rV (rset (rset (rset (rset M k 2 1) k 3 (nI d)) k 4 1) k 5 (M 1 1))) 1 (nI d)) c), rset (rset (rset (rset M k 2 1) k 3 (nI d)) k 4 1) k 5 (M 1 1), fun F J A1 h => ?_, fun q hq => ?_, fun E2 hE2 => ?_⟩
      · refine s5_isS hm h14 hs (b10 (s5_isD hd (b11 (s5_is_t (by omega) hq (b11 (s5_s (f := 3) (by omega) (by decide) (s5_notes_f ⟨isB0, l00 ?_⟩)))))))
        refine s5_set (f := 2) (by omega) (by decide) (s5_set (f := 3) (by omega) (by decide) (s5_set (f := 4) (by omega) (by decide) ⟨vp1, ?_⟩))
        rw [c1, rset_o _ _ _ _ _ (by decide) (by omega), rset_o _ _ _ _ _ (by decide) (by omega), rset_o _ _ _ _ _ (by decide) (by omega)]
        refine s5_set (f := 5) (by omega) (by decide) (s5_askingFor (c := c) ?_ h14 h)
        rw [rset_o _ _ _ _ _ (by decide) (by omega), rset_o _ _ _ _ _ (by decide) (by omega), rset_o _ _ _ _ _ (by decide) (by omega), rset_o _ _ _ _ _ (by decide) (by omega)]
        exact hm
      · rw [rset_r _ _ _ _ _ hq, rset_r _ _ _ _ _ hq, rset_r _ _ _ _ _ hq, rset_r _ _ _ _ _ hq]
      · have hR2 : rE E2 (M 1) c := rE_rows hE2 hR
        have hup : rE (st (st (st (st E2 3 k 1) 4 k (nI d)) 5 k 1) 6 k (E2 0 1)) ((rset (rset (rset (rset M k 2 1) k 3 (nI d)) k 4 1) k 5 (M 1 1)) 1) c ∧ vN ((rset (rset (rset (rset M k 2 1) k 3 (nI d)) k 4 1) k 5 (M 1 1)) 1) c T := by
          obtain ⟨g0, g1, g2, g7, -⟩ := vE1_of hR2 hk
          obtain ⟨w1, w2, -⟩ := vV1_of hV hk
          refine up1 hR2 hV hk (Nat.le_refl T) (fun i _ => by simp [st_at]) (fun r i h1 h8 hi => by simp [st_at, hi]) (fun r h9 h11 => by rw [st_r _ _ _ _ _ (by omega), st_r _ _ _ _ _ (by omega), st_r _ _ _ _ _ (by omega), st_r _ _ _ _ _ (by omega)]) (fun x hx => by rw [rset_o _ _ _ _ _ (by decide) hx, rset_o _ _ _ _ _ (by decide) hx, rset_o _ _ _ _ _ (by decide) hx, rset_o _ _ _ _ _ (by decide) hx]) ?_ ?_ (Or.inl ⟨alone hV hk (by rw [hq]; decide), ?_⟩)
          · unfold vE1
            simp (disch := decide) only [rset_v]
            simp [cV, st_at]
            exact ⟨g0, g1, g7, hR2.2.2.1⟩
          · unfold vV1
            simp (disch := decide) only [rset_v]
            simp
            exact ⟨w1, w2, ⟨d, hd5, rfl⟩, ⟨1, by omega, by omega, rfl⟩⟩
          · simp (disch := decide) only [rset_v]
            simp
            exact alone hV hk (by rw [hq]; decide)
        refine ⟨_, fun post h => ?_, ⟨c, hup.1, hup.2⟩⟩
        unfold A_a wp_X3_file
        rw [kc (by omega)]
        refine ⟨vpk (by omega) (by omega), fun o1 e1 => ⟨vpk (by omega) (by omega), fun o2 e2 => ⟨vpk (by omega) (by omega), fun o3 e3 => ⟨vpk (by omega) (by omega), fun o4 e4 => ?_⟩⟩⟩⟩
        subst e1; subst e2; subst e3; subst e4
        refine s3_countOf hup.1.1 h14 ?_
        have ec := cntS_eq (s := 1) (d := nI d) (rE_v hup.1) (by decide) (Nat.le_refl c)
        have e01 : st (st (st E2 3 k 1) 4 k (nI d)) 5 k 1 0 1 = E2 0 1 := by simp [st_at]
        rw [e01, ec]
        exact h
  · refine Or.inr (Or.inl ⟨2, rV M k 3, by omega, by omega, fun E hE post h => ?_, fun F J A1 h => ?_⟩)
    · have hR := rE_rows hE hR
      have hc := hR.1
      have e := vE_2 hR hk
      have e7 := vE_7 hR hk
      refine s3_isS hc hs (b10 (s3_isD hd (b11 ?_)))
      rw [kc (by omega)]
      refine ⟨vpk (by omega) (by omega), iF (fun y => hq (e.symm.trans y)) ⟨vpk (by omega) (by omega), fun o1 e1 => ?_⟩⟩
      subst e1
      rw [show E 4 k = rV M k 3 from (vE1_of hR hk).2.2.2.2.1 hq]
      exact h
    · refine s5_isS hm h14 hs (b10 (s5_isD hd (b11 (s5_is_f (by omega) hq (b01 (s5_s (f := 3) (by omega) (by decide) (s5_notes_t ⟨isB1, l10 ?_⟩)))))))
      exact h
theorem hoS {C A : wT} {R : wR} {B : Int32 → Int32 → Prop} {E M : Off} (h : ∀ {c T : Nat}, rE E ((beg M) 1) c → vN ((beg M) 1) c T → T ≤ 10240 → outc C A R B E (beg M) T) : ∀ T, T ≤ 10240 → oK E (M 1) T → ∃ T1, T ≤ T1 ∧ T1 ≤ T + 20 ∧ outc C A R B E (beg M) T1 := by
  rintro T hT0 ⟨c, hR, hV⟩
  have e := beg_r M 1 (by decide) (by decide)
  exact ⟨T, Nat.le_refl T, by omega, h (by rw [e]; exact hR) (by rw [e]; exact hV) hT0⟩
theorem op_13 {j : Nat} {E M : Off} {z : Nat → Int64} {zd : Nat → UInt64} {a1 a2 a3 : Int32} (hj : j < 512) (hI : inv j E M) : wc_13 (lwInv (j + 1)) E M z zd a1 a2 a3 := by
  unfold wc_13 ww_apply wp_X4_apply
  exact direct (C := C_a a1 a2) (A := A_a a1 a2) (R := R_a a1 a2) (B := B1) (rn := 2) (W := fun kx E1 z1 => wp_X5_apply (fun bx M1 => wp_X5_thrown (fun t => (t = kx ∧ ((kx = 0 → lg_cmp (z1 (0 : Int32).toNatClampNeg) (bx).toInt64 = 0) ∧ lwInv (j + 1) E1 M1 z1 zd))) M1) M a1 a2) hj hI (hoS fun hR hV hT0 => out_a hR hV hT0 a1 a2) (by decide) (fun code n hB => by obtain ⟨rfl, rfl⟩ := hB; exact ⟨i1ne, Or.inl ⟨rfl, fun E1 h => Or.inl ⟨rfl, h⟩⟩⟩) (fun E1 h => Or.inr ⟨rfl, h⟩) (fun _ _ _ h => h) putG
