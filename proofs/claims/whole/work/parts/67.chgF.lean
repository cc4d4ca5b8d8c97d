/-! ===== changes: bans ===== -/
theorem ban_eq : ∀ b, b < 16 → (banF (nI b) 114 = shutF (nI b) 114 ∧ banF (nI b) 103 = shutF (nI b) 103 ∧ banF (nI b) 98 = shutF (nI b) 98 ∧ banF (nI b) 119 = shutF (nI b) 119) := by decide +kernel
theorem banP {b : Nat} {p : Int32} (hb : b < 16) (hp : isCol p) : banF (nI b) p = shutF (nI b) p := by
  obtain ⟨h1, h2, h3, h4⟩ := ban_eq b hb
  rcases hp with rfl | rfl | rfl | rfl
  · exact h1
  · exact h2
  · exact h3
  · exact h4
abbrev fbd (b : Nat) (p : Int32) : Prop := (nI b ||| ((1 : Int32) <<< (ixF p cols 0 &&& 31))) = nI b + ((1 - bI (shutF (nI b) p)) * bitF p) ∧ (nI b &&& (((1 : Int32) <<< (ixF p cols 0 &&& 31)) ^^^ (-1 : Int32))) = nI b + ((0 - bI (shutF (nI b) p)) * bitF p) ∧ (nI b + ((1 - bI (shutF (nI b) p)) * bitF p)).toNatClampNeg < 16 ∧ (nI b + ((0 - bI (shutF (nI b) p)) * bitF p)).toNatClampNeg < 16 ∧ ¬ (nI b + ((1 - bI (shutF (nI b) p)) * bitF p)) < 0 ∧ ¬ (nI b + ((0 - bI (shutF (nI b) p)) * bitF p)) < 0
theorem fbd_all : ∀ b, b < 16 → (fbd b 114 ∧ fbd b 103 ∧ fbd b 98 ∧ fbd b 119) := by decide +kernel
theorem fbdP {b : Nat} {p : Int32} (hb : b < 16) (hp : isCol p) : fbd b p := by
  obtain ⟨h1, h2, h3, h4⟩ := fbd_all b hb
  rcases hp with rfl | rfl | rfl | rfl
  · exact h1
  · exact h2
  · exact h3
  · exact h4
theorem nat16 {x : Int32} (h : x.toNatClampNeg < 16) (h0 : ¬ x < 0) : ∃ b, b < 16 ∧ x = nI b := by
  have e := i32_nat h0
  have hl := x.toInt_lt
  rw [e, nI_clampi (by omega)] at h
  exact ⟨_, h, e⟩
abbrev C_b (p0 p1 : Int32) (post : Int32 → Off → Prop) (o : Off) : Prop := wp_X0_banning (fun v => post v o) o p0 p1
abbrev A_b (p0 p1 : Int32) (post : Int32 → Off → Prop) (o : Off) : Prop := wp_X3_forbid post o p0 p1
abbrev R_b (p0 p1 : Int32) (F : Int32 → Prop) (J : Off → Prop) (A1 : Int32 → Off → Prop) (o : Off) : Prop := wp_X5_isDrawer (fun v2 => ((¬ v2 = 0 → wp_X5_bitOf (fun v3 => ((v3 ≤ 0 → F 2) ∧ (¬ v3 ≤ 0 → wp_X5_bans A1 o p0 p1 1))) p1) ∧ (v2 = 0 → F 1))) p0
abbrev R_b2 (p0 p1 : Int32) (F : Int32 → Prop) (J : Off → Prop) (A1 : Int32 → Off → Prop) (o : Off) : Prop := wp_X5_isDrawer (fun v2 => ((¬ v2 = 0 → wp_X5_bans A1 o p0 p1 1) ∧ (v2 = 0 → F 1))) p0
theorem out_b {E M : Off} {c T : Nat} (hR : rE E (M 1) c) (hV : vN (M 1) c T) (hT0 : T ≤ 10240) (p0 p1 : Int32) : outcN isB (C_b p0 p1) (A_b p0 p1) (R_b p0 p1) B2 E M T := by
  have hc := hR.1
  have hm := hR.2.1
  have h14 := hV.1
  cases hd : isD p0
  · exact Or.inl ⟨-1, 1, Or.inl ⟨rfl, rfl⟩, fun post h => s3_isD hd (b01 h), fun F J A1 h => s5_isD hd (b01 h)⟩
  obtain ⟨d, hd5, rfl⟩ := isD_c hd
  by_cases hcol : isCol p1
  case neg =>
    obtain ⟨h1, h2⟩ := col_no hcol
    refine Or.inl ⟨-2, 2, Or.inr ⟨rfl, rfl⟩, fun post h => s3_isD hd (b11 (s_col ?_)), fun F J A1 h => s5_isD hd (b11 (s5_bitOf ?_))⟩
    · rw [h1]; exact iF (by decide) h
    · rw [h2]; exact iT (by decide) h
  obtain ⟨⟨i, hi, h1, h2⟩, -⟩ := col_yes hcol
  have hi0 : 0 ≤ nI i := by rw [ile]; exact nI_pos (by omega)
  have hb0 : ¬ nI (2 ^ i) ≤ 0 := by
    have : i = 0 ∨ i = 1 ∨ i = 2 ∨ i = 3 := by omega
    rcases this with rfl | rfl | rfl | rfl <;> decide
  obtain ⟨b, hb, eb⟩ := hV.2.2.2.2.1 d hd5
  have hf := fbdP hb hcol
  have hbe := banP hb hcol
  obtain ⟨r1, r2, r3, r4, r5, r6, r7, r8, r9, r10⟩ := id hR
  obtain ⟨v1, v2, v3, v4, v5, v6, v7⟩ := id hV
  refine Or.inr ⟨fun post h => s3_isD hd (b11 (s_col (by rw [h1]; exact iT hi0 h))), bI (!shutF (nI b) p1), st M 1 (125 + d) (nI b + ((1 - bI (shutF (nI b) p1)) * bitF p1)), bI_B _, fun F J A1 h => s5_isD hd (b11 ?_), fun q hq => st_r _ _ _ _ _ hq, fun E2 hE2 => ?_⟩
  · have hbans : wp_X5_bans A1 M (nI d) p1 1 := by
      refine s5_isShut hd5 ?_
      rw [eb]
      have hs : ∀ s0 : Int32, s0 = bI (shutF (nI b) p1) → wj_X5_bans_14 A1 M (nI d) p1 1 s0 := by
        intro s0 e0
        unfold wj_X5_bans_14
        rw [show (125 : Int32) = nI 125 from rfl, nI_add, kc (by omega)]
        refine ⟨vpk (by omega) (by omega), s5_bitOf ⟨vpk (by omega) (by omega), fun o3 e3 => ?_⟩⟩
        rw [eb, e0] at e3
        subst e3
        rw [e0]
        cases hsh : shutF (nI b) p1 <;> rw [hsh] at h
        · exact jF (by decide) h
        · exact jT (by decide) h
      cases hsh : shutF (nI b) p1
      · exact b00 (hs 0 (by rw [hsh]; rfl))
      · exact b10 (hs 1 (by rw [hsh]; rfl))
    refine s5_bitOf ?_
    rw [h2]; exact iF hb0 hbans
  · have hR2 : rE E2 (M 1) c := rE_rows hE2 hR
    obtain ⟨r1, r2, r3, r4, r5, r6, r7, r8, r9, r10⟩ := id hR2
    have hup := up9 (O := st E2 10 d (nI b + ((1 - bI (shutF (nI b) p1)) * bitF p1))) (M1 := st M 1 (125 + d) (nI b + ((1 - bI (shutF (nI b) p1)) * bitF p1))) hR2 hV (Nat.le_refl T) (fun r hr => st_r _ _ _ _ _ (by omega)) (fun x hx => by rw [st_at, if_neg (by omega)]) (fun i hi => by
      rw [st_r _ _ _ _ 9 (by omega), st_at M 1 _ _ 1 (120 + i), if_neg (by omega)]
      refine ⟨(r8 i hi).1, ?_⟩
      by_cases e : i = d
      · subst e; simp [st_at]
      · rw [st_at, if_neg (by omega), st_at, if_neg (by omega)]; exact (r8 i hi).2) (fun a b hab hb => by
      rw [st_r _ _ _ _ 11 (by omega), st_at, if_neg (by omega)]; exact r9 a b hab hb) (fun a ha => by
      rw [st_r _ _ _ _ 11 (by omega)]; exact r10 a ha) (fun i hi => by
      rw [st_at, if_neg (by omega)]; exact v4 i hi) (fun i hi => by
      by_cases e : i = d
      · subst e
        rw [st_at, if_pos ⟨rfl, rfl⟩]
        exact nat16 hf.2.2.1 hf.2.2.2.2.1
      · rw [st_at, if_neg (by omega)]; exact v5 i hi) (fun a b hab hb => by
      rw [st_at, if_neg (by omega)]; exact v6 a b hab hb) (fun a b hab hb => by
      rw [st_at, if_neg (by omega)]; exact v7 a b hab hb)
    refine ⟨_, fun post h => ?_, ⟨c, hup.1, hup.2⟩⟩
    have e10 : E2 10 d = nI b := by rw [(r8 d hd5).2, eb]
    unfold A_b wp_X3_forbid
    refine s3_bans hd5 ?_
    rw [e10, hbe]
    have hs : ∀ s0 : Int32, s0 = bI (!shutF (nI b) p1) → wj_X3_forbid_14 post E2 (nI d) p1 s0 := by
      intro s0 e0
      unfold wj_X3_forbid_14
      rw [kc (by omega)]
      refine ⟨vpk (by omega) (by omega), s_col ⟨vpk (by omega) (by omega), fun o3 e3 => ?_⟩⟩
      rw [e10, hf.1] at e3
      subst e3; subst e0
      exact ⟨bI_B _, h⟩
    cases hsh : shutF (nI b) p1
    · exact b01 (hs 1 (by rw [hsh]; rfl))
    · exact b11 (hs 0 (by rw [hsh]; rfl))
theorem out_b2 {E M : Off} {c T : Nat} (hR : rE E (M 1) c) (hV : vN (M 1) c T) (hT0 : T ≤ 10240) (p0 p1 : Int32) (hcol : isCol p1) : outcN isB (C_b p0 p1) (A_b p0 p1) (R_b2 p0 p1) B2 E M T := by
  have hc := hR.1
  have hm := hR.2.1
  have h14 := hV.1
  cases hd : isD p0
  · exact Or.inl ⟨-1, 1, Or.inl ⟨rfl, rfl⟩, fun post h => s3_isD hd (b01 h), fun F J A1 h => s5_isD hd (b01 h)⟩
  obtain ⟨d, hd5, rfl⟩ := isD_c hd
  obtain ⟨⟨i, hi, h1, h2⟩, -⟩ := col_yes hcol
  have hi0 : 0 ≤ nI i := by rw [ile]; exact nI_pos (by omega)
  have hb0 : ¬ nI (2 ^ i) ≤ 0 := by
    have : i = 0 ∨ i = 1 ∨ i = 2 ∨ i = 3 := by omega
    rcases this with rfl | rfl | rfl | rfl <;> decide
  obtain ⟨b, hb, eb⟩ := hV.2.2.2.2.1 d hd5
  have hf := fbdP hb hcol
  have hbe := banP hb hcol
  obtain ⟨r1, r2, r3, r4, r5, r6, r7, r8, r9, r10⟩ := id hR
  obtain ⟨v1, v2, v3, v4, v5, v6, v7⟩ := id hV
  refine Or.inr ⟨fun post h => s3_isD hd (b11 (s_col (by rw [h1]; exact iT hi0 h))), bI (!shutF (nI b) p1), st M 1 (125 + d) (nI b + ((1 - bI (shutF (nI b) p1)) * bitF p1)), bI_B _, fun F J A1 h => s5_isD hd (b11 ?_), fun q hq => st_r _ _ _ _ _ hq, fun E2 hE2 => ?_⟩
  · have hbans : wp_X5_bans A1 M (nI d) p1 1 := by
      refine s5_isShut hd5 ?_
      rw [eb]
      have hs : ∀ s0 : Int32, s0 = bI (shutF (nI b) p1) → wj_X5_bans_14 A1 M (nI d) p1 1 s0 := by
        intro s0 e0
        unfold wj_X5_bans_14
        rw [show (125 : Int32) = nI 125 from rfl, nI_add, kc (by omega)]
        refine ⟨vpk (by omega) (by omega), s5_bitOf ⟨vpk (by omega) (by omega), fun o3 e3 => ?_⟩⟩
        rw [eb, e0] at e3
        subst e3
        rw [e0]
        cases hsh : shutF (nI b) p1 <;> rw [hsh] at h
        · exact jF (by decide) h
        · exact jT (by decide) h
      cases hsh : shutF (nI b) p1
      · exact b00 (hs 0 (by rw [hsh]; rfl))
      · exact b10 (hs 1 (by rw [hsh]; rfl))
    exact hbans
  · have hR2 : rE E2 (M 1) c := rE_rows hE2 hR
    obtain ⟨r1, r2, r3, r4, r5, r6, r7, r8, r9, r10⟩ := id hR2
    have hup := up9 (O := st E2 10 d (nI b + ((1 - bI (shutF (nI b) p1)) * bitF p1))) (M1 := st M 1 (125 + d) (nI b + ((1 - bI (shutF (nI b) p1)) * bitF p1))) hR2 hV (Nat.le_refl T) (fun r hr => st_r _ _ _ _ _ (by omega)) (fun x hx => by rw [st_at, if_neg (by omega)]) (fun i hi => by
      rw [st_r _ _ _ _ 9 (by omega), st_at M 1 _ _ 1 (120 + i), if_neg (by omega)]
      refine ⟨(r8 i hi).1, ?_⟩
      by_cases e : i = d
      · subst e; simp [st_at]
      · rw [st_at, if_neg (by omega), st_at, if_neg (by omega)]; exact (r8 i hi).2) (fun a b hab hb => by
      rw [st_r _ _ _ _ 11 (by omega), st_at, if_neg (by omega)]; exact r9 a b hab hb) (fun a ha => by
      rw [st_r _ _ _ _ 11 (by omega)]; exact r10 a ha) (fun i hi => by
      rw [st_at, if_neg (by omega)]; exact v4 i hi) (fun i hi => by
      by_cases e : i = d
      · subst e
        rw [st_at, if_pos ⟨rfl, rfl⟩]
        exact nat16 hf.2.2.1 hf.2.2.2.2.1
      · rw [st_at, if_neg (by omega)]; exact v5 i hi) (fun a b hab hb => by
      rw [st_at, if_neg (by omega)]; exact v6 a b hab hb) (fun a b hab hb => by
      rw [st_at, if_neg (by omega)]; exact v7 a b hab hb)
    refine ⟨_, fun post h => ?_, ⟨c, hup.1, hup.2⟩⟩
    have e10 : E2 10 d = nI b := by rw [(r8 d hd5).2, eb]
    unfold A_b wp_X3_forbid
    refine s3_bans hd5 ?_
    rw [e10, hbe]
    have hs : ∀ s0 : Int32, s0 = bI (!shutF (nI b) p1) → wj_X3_forbid_14 post E2 (nI d) p1 s0 := by
      intro s0 e0
      unfold wj_X3_forbid_14
      rw [kc (by omega)]
      refine ⟨vpk (by omega) (by omega), s_col ⟨vpk (by omega) (by omega), fun o3 e3 => ?_⟩⟩
      rw [e10, hf.1] at e3
      subst e3; subst e0
      exact ⟨bI_B _, h⟩
    cases hsh : shutF (nI b) p1
    · exact b01 (hs 1 (by rw [hsh]; rfl))
    · exact b11 (hs 0 (by rw [hsh]; rfl))
theorem op_29 {j : Nat} {E M : Off} {z : Nat → Int64} {zd : Nat → UInt64} {a1 a2 a3 : Int32} (hj : j < 512) (hI : inv j E M) : wc_29 (lwInv (j + 1)) E M z zd a1 a2 a3 := by
  unfold wc_29 ww_ban wp_X4_ban
  exact directB (C := C_b a1 (((a2).toUInt32 % 65536).toInt32)) (A := A_b a1 (((a2).toUInt32 % 65536).toInt32)) (R := R_b a1 (((a2).toUInt32 % 65536).toInt32)) (B := B2) (W := fun kx E1 z1 => wp_X5_ban (fun bx M1 => wp_X5_thrown (fun t => (t = kx ∧ ((kx = 0 → ((bx = 0 → lg_cmp (z1 (0 : Int32).toNatClampNeg) 0 = 0) ∧ (¬ bx = 0 → lg_cmp (z1 (0 : Int32).toNatClampNeg) 1 = 0))) ∧ lwInv (j + 1) E1 M1 z1 zd))) M1) M a1 (((a2).toUInt32 % 65536).toInt32)) hj hI (hoN fun hR hV hT0 => out_b hR hV hT0 a1 (((a2).toUInt32 % 65536).toInt32)) (fun code n hB => by rcases hB with ⟨rfl, rfl⟩ | ⟨rfl, rfl⟩; exact ⟨i1ne, Or.inl ⟨rfl, fun E1 h => Or.inl ⟨rfl, h⟩⟩⟩; exact ⟨i2ne, Or.inr (Or.inl ⟨rfl, fun E1 h => Or.inr ⟨rfl, h⟩⟩)⟩) (fun _ _ _ h => h) (fun _ _ _ h => h)
abbrev C_u (p0 p1 : Int32) (post : Int32 → Off → Prop) (o : Off) : Prop := wp_X0_banning (fun v => post v o) o p0 p1
abbrev A_u (p0 p1 : Int32) (post : Int32 → Off → Prop) (o : Off) : Prop := wp_X3_permit post o p0 p1
abbrev R_u (p0 p1 : Int32) (F : Int32 → Prop) (J : Off → Prop) (A1 : Int32 → Off → Prop) (o : Off) : Prop := wp_X5_isDrawer (fun v2 => ((¬ v2 = 0 → wp_X5_bitOf (fun v3 => ((v3 ≤ 0 → F 2) ∧ (¬ v3 ≤ 0 → wp_X5_bans A1 o p0 p1 0))) p1) ∧ (v2 = 0 → F 1))) p0
abbrev R_u2 (p0 p1 : Int32) (F : Int32 → Prop) (J : Off → Prop) (A1 : Int32 → Off → Prop) (o : Off) : Prop := wp_X5_isDrawer (fun v2 => ((¬ v2 = 0 → wp_X5_bans A1 o p0 p1 0) ∧ (v2 = 0 → F 1))) p0
theorem out_u {E M : Off} {c T : Nat} (hR : rE E (M 1) c) (hV : vN (M 1) c T) (hT0 : T ≤ 10240) (p0 p1 : Int32) : outcN isB (C_u p0 p1) (A_u p0 p1) (R_u p0 p1) B2 E M T := by
  have hc := hR.1
  have hm := hR.2.1
  have h14 := hV.1
  cases hd : isD p0
  · exact Or.inl ⟨-1, 1, Or.inl ⟨rfl, rfl⟩, fun post h => s3_isD hd (b01 h), fun F J A1 h => s5_isD hd (b01 h)⟩
  obtain ⟨d, hd5, rfl⟩ := isD_c hd
  by_cases hcol : isCol p1
  case neg =>
    obtain ⟨h1, h2⟩ := col_no hcol
    refine Or.inl ⟨-2, 2, Or.inr ⟨rfl, rfl⟩, fun post h => s3_isD hd (b11 (s_col ?_)), fun F J A1 h => s5_isD hd (b11 (s5_bitOf ?_))⟩
    · rw [h1]; exact iF (by decide) h
    · rw [h2]; exact iT (by decide) h
  obtain ⟨⟨i, hi, h1, h2⟩, -⟩ := col_yes hcol
  have hi0 : 0 ≤ nI i := by rw [ile]; exact nI_pos (by omega)
  have hb0 : ¬ nI (2 ^ i) ≤ 0 := by
    have : i = 0 ∨ i = 1 ∨ i = 2 ∨ i = 3 := by omega
    rcases this with rfl | rfl | rfl | rfl <;> decide
  obtain ⟨b, hb, eb⟩ := hV.2.2.2.2.1 d hd5
  have hf := fbdP hb hcol
  have hbe := banP hb hcol
  obtain ⟨r1, r2, r3, r4, r5, r6, r7, r8, r9, r10⟩ := id hR
  obtain ⟨v1, v2, v3, v4, v5, v6, v7⟩ := id hV
  refine Or.inr ⟨fun post h => s3_isD hd (b11 (s_col (by rw [h1]; exact iT hi0 h))), bI (shutF (nI b) p1), st M 1 (125 + d) (nI b + ((0 - bI (shutF (nI b) p1)) * bitF p1)), bI_B _, fun F J A1 h => s5_isD hd (b11 ?_), fun q hq => st_r _ _ _ _ _ hq, fun E2 hE2 => ?_⟩
  · have hbans : wp_X5_bans A1 M (nI d) p1 0 := by
      refine s5_isShut hd5 ?_
      rw [eb]
      have hs : ∀ s0 : Int32, s0 = bI (shutF (nI b) p1) → wj_X5_bans_14 A1 M (nI d) p1 0 s0 := by
        intro s0 e0
        unfold wj_X5_bans_14
        rw [show (125 : Int32) = nI 125 from rfl, nI_add, kc (by omega)]
        refine ⟨vpk (by omega) (by omega), s5_bitOf ⟨vpk (by omega) (by omega), fun o3 e3 => ?_⟩⟩
        rw [eb, e0] at e3
        subst e3
        rw [e0]
        cases hsh : shutF (nI b) p1 <;> rw [hsh] at h
        · exact jT (by decide) h
        · exact jF (by decide) h
      cases hsh : shutF (nI b) p1
      · exact b00 (hs 0 (by rw [hsh]; rfl))
      · exact b10 (hs 1 (by rw [hsh]; rfl))
    refine s5_bitOf ?_
    rw [h2]; exact iF hb0 hbans
  · have hR2 : rE E2 (M 1) c := rE_rows hE2 hR
    obtain ⟨r1, r2, r3, r4, r5, r6, r7, r8, r9, r10⟩ := id hR2
    have hup := up9 (O := st E2 10 d (nI b + ((0 - bI (shutF (nI b) p1)) * bitF p1))) (M1 := st M 1 (125 + d) (nI b + ((0 - bI (shutF (nI b) p1)) * bitF p1))) hR2 hV (Nat.le_refl T) (fun r hr => st_r _ _ _ _ _ (by omega)) (fun x hx => by rw [st_at, if_neg (by omega)]) (fun i hi => by
      rw [st_r _ _ _ _ 9 (by omega), st_at M 1 _ _ 1 (120 + i), if_neg (by omega)]
      refine ⟨(r8 i hi).1, ?_⟩
      by_cases e : i = d
      · subst e; simp [st_at]
      · rw [st_at, if_neg (by omega), st_at, if_neg (by omega)]; exact (r8 i hi).2) (fun a b hab hb => by
      rw [st_r _ _ _ _ 11 (by omega), st_at, if_neg (by omega)]; exact r9 a b hab hb) (fun a ha => by
      rw [st_r _ _ _ _ 11 (by omega)]; exact r10 a ha) (fun i hi => by
      rw [st_at, if_neg (by omega)]; exact v4 i hi) (fun i hi => by
      by_cases e : i = d
      · subst e
        rw [st_at, if_pos ⟨rfl, rfl⟩]
        exact nat16 hf.2.2.2.1 hf.2.2.2.2.2
      · rw [st_at, if_neg (by omega)]; exact v5 i hi) (fun a b hab hb => by
      rw [st_at, if_neg (by omega)]; exact v6 a b hab hb) (fun a b hab hb => by
      rw [st_at, if_neg (by omega)]; exact v7 a b hab hb)
    refine ⟨_, fun post h => ?_, ⟨c, hup.1, hup.2⟩⟩
    have e10 : E2 10 d = nI b := by rw [(r8 d hd5).2, eb]
    unfold A_u wp_X3_permit
    refine s3_bans hd5 ?_
    rw [e10, hbe]
    rw [kc (by omega)]
    refine ⟨vpk (by omega) (by omega), s_col ⟨vpk (by omega) (by omega), fun o3 e3 => ?_⟩⟩
    rw [e10, hf.2.1] at e3
    subst e3
    exact ⟨bI_B _, h⟩
theorem out_u2 {E M : Off} {c T : Nat} (hR : rE E (M 1) c) (hV : vN (M 1) c T) (hT0 : T ≤ 10240) (p0 p1 : Int32) (hcol : isCol p1) : outcN isB (C_u p0 p1) (A_u p0 p1) (R_u2 p0 p1) B2 E M T := by
  have hc := hR.1
  have hm := hR.2.1
  have h14 := hV.1
  cases hd : isD p0
  · exact Or.inl ⟨-1, 1, Or.inl ⟨rfl, rfl⟩, fun post h => s3_isD hd (b01 h), fun F J A1 h => s5_isD hd (b01 h)⟩
  obtain ⟨d, hd5, rfl⟩ := isD_c hd
  obtain ⟨⟨i, hi, h1, h2⟩, -⟩ := col_yes hcol
  have hi0 : 0 ≤ nI i := by rw [ile]; exact nI_pos (by omega)
  have hb0 : ¬ nI (2 ^ i) ≤ 0 := by
    have : i = 0 ∨ i = 1 ∨ i = 2 ∨ i = 3 := by omega
    rcases this with rfl | rfl | rfl | rfl <;> decide
  obtain ⟨b, hb, eb⟩ := hV.2.2.2.2.1 d hd5
  have hf := fbdP hb hcol
  have hbe := banP hb hcol
  obtain ⟨r1, r2, r3, r4, r5, r6, r7, r8, r9, r10⟩ := id hR
  obtain ⟨v1, v2, v3, v4, v5, v6, v7⟩ := id hV
  refine Or.inr ⟨fun post h => s3_isD hd (b11 (s_col (by rw [h1]; exact iT hi0 h))), bI (shutF (nI b) p1), st M 1 (125 + d) (nI b + ((0 - bI (shutF (nI b) p1)) * bitF p1)), bI_B _, fun F J A1 h => s5_isD hd (b11 ?_), fun q hq => st_r _ _ _ _ _ hq, fun E2 hE2 => ?_⟩
  · have hbans : wp_X5_bans A1 M (nI d) p1 0 := by
      refine s5_isShut hd5 ?_
      rw [eb]
      have hs : ∀ s0 : Int32, s0 = bI (shutF (nI b) p1) → wj_X5_bans_14 A1 M (nI d) p1 0 s0 := by
        intro s0 e0
        unfold wj_X5_bans_14
        rw [show (125 : Int32) = nI 125 from rfl, nI_add, kc (by omega)]
        refine ⟨vpk (by omega) (by omega), s5_bitOf ⟨vpk (by omega) (by omega), fun o3 e3 => ?_⟩⟩
        rw [eb, e0] at e3
        subst e3
        rw [e0]
        cases hsh : shutF (nI b) p1 <;> rw [hsh] at h
        · exact jT (by decide) h
        · exact jF (by decide) h
      cases hsh : shutF (nI b) p1
      · exact b00 (hs 0 (by rw [hsh]; rfl))
      · exact b10 (hs 1 (by rw [hsh]; rfl))
    exact hbans
  · have hR2 : rE E2 (M 1) c := rE_rows hE2 hR
    obtain ⟨r1, r2, r3, r4, r5, r6, r7, r8, r9, r10⟩ := id hR2
    have hup := up9 (O := st E2 10 d (nI b + ((0 - bI (shutF (nI b) p1)) * bitF p1))) (M1 := st M 1 (125 + d) (nI b + ((0 - bI (shutF (nI b) p1)) * bitF p1))) hR2 hV (Nat.le_refl T) (fun r hr => st_r _ _ _ _ _ (by omega)) (fun x hx => by rw [st_at, if_neg (by omega)]) (fun i hi => by
      rw [st_r _ _ _ _ 9 (by omega), st_at M 1 _ _ 1 (120 + i), if_neg (by omega)]
      refine ⟨(r8 i hi).1, ?_⟩
      by_cases e : i = d
      · subst e; simp [st_at]
      · rw [st_at, if_neg (by omega), st_at, if_neg (by omega)]; exact (r8 i hi).2) (fun a b hab hb => by
      rw [st_r _ _ _ _ 11 (by omega), st_at, if_neg (by omega)]; exact r9 a b hab hb) (fun a ha => by
      rw [st_r _ _ _ _ 11 (by omega)]; exact r10 a ha) (fun i hi => by
      rw [st_at, if_neg (by omega)]; exact v4 i hi) (fun i hi => by
      by_cases e : i = d
      · subst e
        rw [st_at, if_pos ⟨rfl, rfl⟩]
        exact nat16 hf.2.2.2.1 hf.2.2.2.2.2
      · rw [st_at, if_neg (by omega)]; exact v5 i hi) (fun a b hab hb => by
      rw [st_at, if_neg (by omega)]; exact v6 a b hab hb) (fun a b hab hb => by
      rw [st_at, if_neg (by omega)]; exact v7 a b hab hb)
    refine ⟨_, fun post h => ?_, ⟨c, hup.1, hup.2⟩⟩
    have e10 : E2 10 d = nI b := by rw [(r8 d hd5).2, eb]
    unfold A_u wp_X3_permit
    refine s3_bans hd5 ?_
    rw [e10, hbe]
    rw [kc (by omega)]
    refine ⟨vpk (by omega) (by omega), s_col ⟨vpk (by omega) (by omega), fun o3 e3 => ?_⟩⟩
    rw [e10, hf.2.1] at e3
    subst e3
    exact ⟨bI_B _, h⟩
theorem op_30 {j : Nat} {E M : Off} {z : Nat → Int64} {zd : Nat → UInt64} {a1 a2 a3 : Int32} (hj : j < 512) (hI : inv j E M) : wc_30 (lwInv (j + 1)) E M z zd a1 a2 a3 := by
  unfold wc_30 ww_unban wp_X4_unban
  exact directB (C := C_u a1 (((a2).toUInt32 % 65536).toInt32)) (A := A_u a1 (((a2).toUInt32 % 65536).toInt32)) (R := R_u a1 (((a2).toUInt32 % 65536).toInt32)) (B := B2) (W := fun kx E1 z1 => wp_X5_unban (fun bx M1 => wp_X5_thrown (fun t => (t = kx ∧ ((kx = 0 → ((bx = 0 → lg_cmp (z1 (0 : Int32).toNatClampNeg) 0 = 0) ∧ (¬ bx = 0 → lg_cmp (z1 (0 : Int32).toNatClampNeg) 1 = 0))) ∧ lwInv (j + 1) E1 M1 z1 zd))) M1) M a1 (((a2).toUInt32 % 65536).toInt32)) hj hI (hoN fun hR hV hT0 => out_u hR hV hT0 a1 (((a2).toUInt32 % 65536).toInt32)) (fun code n hB => by rcases hB with ⟨rfl, rfl⟩ | ⟨rfl, rfl⟩; exact ⟨i1ne, Or.inl ⟨rfl, fun E1 h => Or.inl ⟨rfl, h⟩⟩⟩; exact ⟨i2ne, Or.inr (Or.inl ⟨rfl, fun E1 h => Or.inr ⟨rfl, h⟩⟩)⟩) (fun _ _ _ h => h) (fun _ _ _ h => h)
theorem op_37 {j : Nat} {E M : Off} {z : Nat → Int64} {zd : Nat → UInt64} {a1 a2 a3 : Int32} (hj : j < 512) (hI : inv j E M) : wc_37 (lwInv (j + 1)) E M z zd a1 a2 a3 := by
  obtain ⟨c, T, hc, hm, h14, hR, hV⟩ := inv_c hI
  unfold wc_37 ww_isBanned wp_X4_isBanned wp_X0_banning wp_X5_isBanned
  cases hd : isD a1
  · exact s3_isD hd (b01 (rq_m1 (Or.inl ⟨rfl, s5_isD hd (b01 (fun o3 e3 => by
      subst e3
      exact jF (by simp [st_at]) (fin_x i1ne (by simp [st_at]) (inv_t 1 hI))))⟩)))
  obtain ⟨d, hd5, rfl⟩ := isD_c hd
  generalize ((a2).toUInt32 % 65536).toInt32 = p
  by_cases hcol : isCol p
  case neg =>
    obtain ⟨h1, h2⟩ := col_no hcol
    refine s3_isD hd (b11 (s_col ?_))
    rw [h1]
    refine iF (by decide) (rq_m2 (Or.inr ⟨rfl, s5_isD hd (b11 (s5_bitOf ?_))⟩))
    rw [h2]
    refine l01 (fun o3 e3 => ?_)
    subst e3
    exact jF (by simp [st_at]) (fin_x i2ne (by simp [st_at]) (inv_t 2 hI))
  obtain ⟨⟨i, hi, h1, h2⟩, -⟩ := col_yes hcol
  have hi0 : 0 ≤ nI i := by rw [ile]; exact nI_pos (by omega)
  have hb0 : ¬ nI (2 ^ i) = 0 := by
    have : i = 0 ∨ i = 1 ∨ i = 2 ∨ i = 3 := by omega
    rcases this with rfl | rfl | rfl | rfl <;> decide
  obtain ⟨b, hb, eb⟩ := hV.2.2.2.2.1 d hd5
  have e10 : E 10 d = nI b := by rw [(hR.2.2.2.2.2.2.2.1 d hd5).2, eb]
  refine s3_isD hd (b11 (s_col ?_))
  rw [h1]
  refine iT hi0 (rq_0 (s3_bans hd5 ?_))
  rw [e10, banP hb hcol]
  refine ⟨bI_B _, ?_⟩
  have key : ∀ w : Int32, w = bI (shutF (nI b) p) → wp_X5_isDrawer (fun v1 => ((¬ v1 = 0 → wp_X5_bitOf (fun v2 => ((¬ v2 = 0 → wj_X5_isBanned_24 (fun bx M1 => wp_X5_thrown (fun t => (t = 0 ∧ (((0 : Int32) = 0 → ((bx = 0 → lg_cmp (vp_updL z (0 : Int32).toNatClampNeg w.toInt64 (0 : Int32).toNatClampNeg) 0 = 0) ∧ (¬ bx = 0 → lg_cmp (vp_updL z (0 : Int32).toNatClampNeg w.toInt64 (0 : Int32).toNatClampNeg) 1 = 0))) ∧ lwInv (j + 1) E M1 (vp_updL z (0 : Int32).toNatClampNeg w.toInt64) zd))) M1) M (nI d) p 0) ∧ (v2 = 0 → wj_X5_isBanned_24 (fun bx M1 => wp_X5_thrown (fun t => (t = 0 ∧ (((0 : Int32) = 0 → ((bx = 0 → lg_cmp (vp_updL z (0 : Int32).toNatClampNeg w.toInt64 (0 : Int32).toNatClampNeg) 0 = 0) ∧ (¬ bx = 0 → lg_cmp (vp_updL z (0 : Int32).toNatClampNeg w.toInt64 (0 : Int32).toNatClampNeg) 1 = 0))) ∧ lwInv (j + 1) E M1 (vp_updL z (0 : Int32).toNatClampNeg w.toInt64) zd))) M1) M (nI d) p 2))) p) ∧ (v1 = 0 → wj_X5_isBanned_24 (fun bx M1 => wp_X5_thrown (fun t => (t = 0 ∧ (((0 : Int32) = 0 → ((bx = 0 → lg_cmp (vp_updL z (0 : Int32).toNatClampNeg w.toInt64 (0 : Int32).toNatClampNeg) 0 = 0) ∧ (¬ bx = 0 → lg_cmp (vp_updL z (0 : Int32).toNatClampNeg w.toInt64 (0 : Int32).toNatClampNeg) 1 = 0))) ∧ lwInv (j + 1) E M1 (vp_updL z (0 : Int32).toNatClampNeg w.toInt64) zd))) M1) M (nI d) p 1))) (nI d) := by
    intro w ew
    refine s5_isD hd (b11 (s5_bitOf ?_))
    rw [h2]
    refine jF hb0 (fun o3 e3 => ?_)
    subst e3
    refine jT (by simp [st_at]) (s5_isShut hd5 ?_)
    rw [st_at, if_neg (by omega), eb]
    cases hsh : shutF (nI b) p
    · rw [hsh] at ew
      subst ew
      exact b00 (fin_b0 (by simp [st_at]) (inv_t 0 hI))
    · rw [hsh] at ew
      subst ew
      exact b10 (fin_b1 (by simp [st_at]) (inv_t 0 hI))
  cases hsh : shutF (nI b) p
  · exact b00 (key 0 (by rw [hsh]; rfl))
  · exact b10 (key 1 (by rw [hsh]; rfl))
