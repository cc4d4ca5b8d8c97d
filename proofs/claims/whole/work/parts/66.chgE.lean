/-! ===== changes: quotas, new socks ===== -/
abbrev ZT : Int32 → Prop := fun _ => True
def outcN (Z : Int32 → Prop) (C A : wT) (R : wR) (B : Int32 → Int32 → Prop) (E M : Off) (T1 : Nat) : Prop :=
  (∃ code n : Int32, B code n ∧ (∀ post : Int32 → Off → Prop, post code E → C post E) ∧ (∀ F J A1, F n → R F J A1 M)) ∨
  ((∀ post : Int32 → Off → Prop, post 0 E → C post E) ∧ ∃ (v : Int32) (M1 : Off), Z v ∧ (∀ F J A1, A1 v M1 → R F J A1 M) ∧ (∀ q, q ≠ 1 → M1 q = M q) ∧ ∀ E2 : Off, (∀ k, k < 12 → E2 k = E k) → ∃ O, (∀ post : Int32 → Off → Prop, post v O → A post E2) ∧ oK O (M1 1) T1)
theorem outcN_o {Z : Int32 → Prop} {C A : wT} {R : wR} {B : Int32 → Int32 → Prop} {E M : Off} {T1 : Nat} (h : outcN Z C A R B E M T1) : outc C A R B E M T1 := by
  rcases h with h | ⟨h1, v, M1, -, h2⟩
  · exact Or.inl h
  · exact Or.inr (Or.inr ⟨h1, v, M1, h2⟩)
theorem directN {Z : Int32 → Prop} {C A : wT} {R : wR} {B : Int32 → Int32 → Prop} {E M : Off} {j : Nat} {z : Nat → Int64} {zd : Nat → UInt64} {px : Nat → Off → Prop} {W : Int32 → Off → (Nat → Int64) → Prop} {G : Int32 → Off → Prop} (hj : j < 512) (hI : inv j E M)
    (ho : ∀ T, T ≤ 10240 → oK E (M 1) T → ∃ T1, T ≤ T1 ∧ T1 ≤ T + 20 ∧ outcN Z C A R B E (beg M) T1)
    (hpx : ∀ code n, B code n → ¬ n = 0 ∧ ((code = -1 ∧ ∀ E1, W n E1 z → px 3 E1) ∨ (code = -2 ∧ ∀ E1, W n E1 z → px 1 E1) ∨ (code = -3 ∧ ∀ E1, W n E1 z → px 5 E1)))
    (hW : ∀ kx E1 z1, wp_X5_begin (fun o1 => R (fun n => wp_X5_fail (fun bx M1 => wp_X5_thrown (fun t => (t = kx ∧ ((kx = 0 → lg_cmp (z1 (0 : Int32).toNatClampNeg) (bx).toInt64 = 0) ∧ lwInv (j + 1) E1 M1 z1 zd))) M1) o1 n) (fun o => wp_X5_reject (fun bx M1 => wp_X5_thrown (fun t => (t = kx ∧ ((kx = 0 → lg_cmp (z1 (0 : Int32).toNatClampNeg) (bx).toInt64 = 0) ∧ lwInv (j + 1) E1 M1 z1 zd))) M1) o 2) (fun w o => wp_X5_commit (fun bx M1 => wp_X5_thrown (fun t => (t = kx ∧ ((kx = 0 → lg_cmp (z1 (0 : Int32).toNatClampNeg) (bx).toInt64 = 0) ∧ lwInv (j + 1) E1 M1 z1 zd))) M1) o w) o1) M → W kx E1 z1)
    (hG : ∀ v o1, (o1 = E ∨ ∃ d, o1 = st E 12 0 d) → wp_X4_require (fun o4 => (∃ i6 : Nat, i6 < 8 ∧ o4 60 2 = nI i6 ∧ (∀ o5 : Off, o5 = keepH o4 o4 i6 → A (fun v9 o7 => (∀ o8 : Off, o8 = put o5 0 12 o7 → W 0 o8 (vp_updL z (0 : Int32).toNatClampNeg v9.toInt64))) o5))) px o1 v → G v o1) : C G E := by
  have hI2 := hI
  obtain ⟨len, T, hT, hO, hH, hS, hL, hIn, hX⟩ := hI2
  obtain ⟨T1, hT1, hT2, ho⟩ := ho T (by omega) hO
  rcases ho with ⟨code, n, hB, hC, hR⟩ | ⟨hC, v, M1, hZ, hR, hM, hA⟩
  · obtain ⟨hn, hp⟩ := hpx code n hB
    refine hC _ (hG _ _ (Or.inl rfl) ?_)
    have hw : W n E z := by
      refine hW n E z (s5_begin (hR _ _ _ ?_))
      intro o1 e
      subst e
      exact fin_x hn rfl (inv_same (sameE_rf E) (sameM_tr (same_beg M) (sameM_thr _ n)) hI)
    rcases hp with ⟨rfl, hp⟩ | ⟨rfl, hp⟩ | ⟨rfl, hp⟩
    · exact rq_m1 (hp E hw)
    · exact rq_m2 (hp E hw)
    · exact rq_m3 (hp E hw)
  · refine hC _ (hG _ _ (Or.inl rfl) (rq_0 ?_))
    obtain ⟨i, kept, k1, k2, k3, k4, k5, k6⟩ := id hH
    refine ⟨i, k1, k3, fun o5 e5 => ?_⟩
    subst e5
    obtain ⟨O, hA, hN⟩ := hA (keepH E E i) (fun k hk => keepH_o _ _ _ _ (by omega) (by omega))
    refine hA _ ?_
    intro o8 e8
    subst e8
    refine hW _ _ _ (s5_begin (hR _ _ _ ?_))
    have b0 : ∀ q, q ≠ 5 → M1 0 q = M 0 q := fun q hq => by rw [hM 0 (by decide), beg_0, if_neg hq]
    refine s5_commit (kept := kept) ((b0 6 (by decide)).trans k5) k2 (fun M3 hc => ?_)
    refine fin_i ?_ rfl (inv_keep hT hO hH hS hL hIn hX k1 k3 (M2 := M1) ⟨?_, ?_, ?_, ?_, fun q a1 _ _ => b0 q a1⟩ (fun x hx => ?_) ((b0 6 (by decide)).trans k5) k2 hc hT1 hT2 hN)
    · rw [hc.2.1 5 (by decide), hM 0 (by decide), beg_0, if_pos rfl]
    · rw [hM 4 (by decide), beg_r M 4 (by decide) (by decide)]
    · rw [hM 5 (by decide), beg_r M 5 (by decide) (by decide)]
    · rw [hM 6 (by decide), beg_r M 6 (by decide) (by decide)]
    · rw [hM 7 (by decide), beg_r M 7 (by decide) (by decide)]
    · rw [hM 2 (by decide), beg_2 M x hx]
abbrev pB (Q : Int32 → Off → Prop) : Int32 → Off → Prop := fun v o => ((¬ v = 1 → Q 0 o) ∧ (v = 1 → Q 1 o))
theorem pB_x {Q : Int32 → Off → Prop} {v : Int32} {o : Off} (h : ∀ w, Q w o) : pB Q v o := ⟨fun _ => h 0, fun _ => h 1⟩
theorem pB_f {K : Prop} {z : Nat → Int64} {v : Int32} {w : Int64} {M1 : Off} (hB : isB v) (h0 : v = 0 → w = 0) (h1 : ¬ v = 0 → w = 1) (ht : M1 0 5 = 0) (h : K) : pB (fun bx M1 => wp_X5_thrown (fun t => (t = 0 ∧ (((0 : Int32) = 0 → ((bx = 0 → lg_cmp (vp_updL z (0 : Int32).toNatClampNeg w (0 : Int32).toNatClampNeg) 0 = 0) ∧ (¬ bx = 0 → lg_cmp (vp_updL z (0 : Int32).toNatClampNeg w (0 : Int32).toNatClampNeg) 1 = 0))) ∧ K))) M1) v M1 := by
  rcases hB with rfl | rfl
  · refine ⟨fun _ => ⟨ht, fun _ => ⟨fun _ => ?_, fun y => absurd rfl y⟩, h⟩, fun y => absurd y (by decide)⟩
    rw [updL_at, h0 rfl]; exact cmp_self _
  · refine ⟨fun y => absurd rfl y, fun _ => ⟨ht, fun _ => ⟨fun y => absurd y (by decide), fun _ => ?_⟩, h⟩⟩
    rw [updL_at, h1 (by decide)]; exact cmp_self _
theorem directB {C A : wT} {R : wR} {B : Int32 → Int32 → Prop} {E M : Off} {j : Nat} {z : Nat → Int64} {zd : Nat → UInt64} {px : Nat → Off → Prop} {W : Int32 → Off → (Nat → Int64) → Prop} {G : Int32 → Off → Prop} (hj : j < 512) (hI : inv j E M)
    (ho : ∀ T, T ≤ 10240 → oK E (M 1) T → ∃ T1, T ≤ T1 ∧ T1 ≤ T + 20 ∧ outcN isB C A R B E (beg M) T1)
    (hpx : ∀ code n, B code n → ¬ n = 0 ∧ ((code = -1 ∧ ∀ E1, W n E1 z → px 3 E1) ∨ (code = -2 ∧ ∀ E1, W n E1 z → px 1 E1) ∨ (code = -3 ∧ ∀ E1, W n E1 z → px 5 E1)))
    (hW : ∀ kx E1 z1, wp_X5_begin (fun o1 => R (fun n => wp_X5_fail (pB (fun bx M1 => wp_X5_thrown (fun t => (t = kx ∧ ((kx = 0 → ((bx = 0 → lg_cmp (z1 (0 : Int32).toNatClampNeg) 0 = 0) ∧ (¬ bx = 0 → lg_cmp (z1 (0 : Int32).toNatClampNeg) 1 = 0))) ∧ lwInv (j + 1) E1 M1 z1 zd))) M1)) o1 n) (fun o => wp_X5_reject (pB (fun bx M1 => wp_X5_thrown (fun t => (t = kx ∧ ((kx = 0 → ((bx = 0 → lg_cmp (z1 (0 : Int32).toNatClampNeg) 0 = 0) ∧ (¬ bx = 0 → lg_cmp (z1 (0 : Int32).toNatClampNeg) 1 = 0))) ∧ lwInv (j + 1) E1 M1 z1 zd))) M1)) o 2) (fun w o => wp_X5_commit (pB (fun bx M1 => wp_X5_thrown (fun t => (t = kx ∧ ((kx = 0 → ((bx = 0 → lg_cmp (z1 (0 : Int32).toNatClampNeg) 0 = 0) ∧ (¬ bx = 0 → lg_cmp (z1 (0 : Int32).toNatClampNeg) 1 = 0))) ∧ lwInv (j + 1) E1 M1 z1 zd))) M1)) o w) o1) M → W kx E1 z1)
    (hG : ∀ v o1, (o1 = E ∨ ∃ d, o1 = st E 12 0 d) → wp_X4_require (fun o4 => (∃ i6 : Nat, i6 < 8 ∧ o4 60 2 = nI i6 ∧ (∀ o5 : Off, o5 = keepH o4 o4 i6 → A (fun v9 o7 => (∀ o8 : Off, o8 = put o5 0 12 o7 → (isB v9 ∧ ((v9 = 0 → W 0 o8 (vp_updL z (0 : Int32).toNatClampNeg 0)) ∧ (¬ v9 = 0 → W 0 o8 (vp_updL z (0 : Int32).toNatClampNeg 1)))))) o5))) px o1 v → G v o1) : C G E := by
  have hI2 := hI
  obtain ⟨len, T, hT, hO, hH, hS, hL, hIn, hX⟩ := hI2
  obtain ⟨T1, hT1, hT2, ho⟩ := ho T (by omega) hO
  rcases ho with ⟨code, n, hB, hC, hR⟩ | ⟨hC, v, M1, hZ, hR, hM, hA⟩
  · obtain ⟨hn, hp⟩ := hpx code n hB
    refine hC _ (hG _ _ (Or.inl rfl) ?_)
    have hw : W n E z := by
      refine hW n E z (s5_begin (hR _ _ _ ?_))
      intro o1 e
      subst e
      exact pB_x (fun _ => fin_x hn rfl (inv_same (sameE_rf E) (sameM_tr (same_beg M) (sameM_thr _ n)) hI))
    rcases hp with ⟨rfl, hp⟩ | ⟨rfl, hp⟩ | ⟨rfl, hp⟩
    · exact rq_m1 (hp E hw)
    · exact rq_m2 (hp E hw)
    · exact rq_m3 (hp E hw)
  · refine hC _ (hG _ _ (Or.inl rfl) (rq_0 ?_))
    obtain ⟨i, kept, k1, k2, k3, k4, k5, k6⟩ := id hH
    refine ⟨i, k1, k3, fun o5 e5 => ?_⟩
    subst e5
    obtain ⟨O, hA, hN⟩ := hA (keepH E E i) (fun k hk => keepH_o _ _ _ _ (by omega) (by omega))
    refine hA _ ?_
    intro o8 e8
    subst e8
    have hk : ∀ w : Int64, (v = 0 → w = 0) → (¬ v = 0 → w = 1) → W 0 (put (keepH E E i) 0 12 O) (vp_updL z (0 : Int32).toNatClampNeg w) := fun w hw0 hw1 => by
      refine hW _ _ _ (s5_begin (hR _ _ _ ?_))
      have b0 : ∀ q, q ≠ 5 → M1 0 q = M 0 q := fun q hq => by rw [hM 0 (by decide), beg_0, if_neg hq]
      refine s5_commit (kept := kept) ((b0 6 (by decide)).trans k5) k2 (fun M3 hc => ?_)
      refine pB_f hZ hw0 hw1 ?_ (inv_keep hT hO hH hS hL hIn hX k1 k3 (M2 := M1) ⟨?_, ?_, ?_, ?_, fun q a1 _ _ => b0 q a1⟩ (fun x hx => ?_) ((b0 6 (by decide)).trans k5) k2 hc hT1 hT2 hN)
      · rw [hc.2.1 5 (by decide), hM 0 (by decide), beg_0, if_pos rfl]
      · rw [hM 4 (by decide), beg_r M 4 (by decide) (by decide)]
      · rw [hM 5 (by decide), beg_r M 5 (by decide) (by decide)]
      · rw [hM 6 (by decide), beg_r M 6 (by decide) (by decide)]
      · rw [hM 7 (by decide), beg_r M 7 (by decide) (by decide)]
      · rw [hM 2 (by decide), beg_2 M x hx]
    exact ⟨hZ, fun h0 => hk 0 (fun _ => rfl) (fun y => absurd h0 y), fun h1 => hk 1 (fun y => absurd y h1) (fun _ => rfl)⟩
theorem hoN {Z : Int32 → Prop} {C A : wT} {R : wR} {B : Int32 → Int32 → Prop} {E M : Off} (h : ∀ {c T : Nat}, rE E ((beg M) 1) c → vN ((beg M) 1) c T → T ≤ 10240 → outcN Z C A R B E (beg M) T) : ∀ T, T ≤ 10240 → oK E (M 1) T → ∃ T1, T ≤ T1 ∧ T1 ≤ T + 20 ∧ outcN Z C A R B E (beg M) T1 := by
  rintro T hT0 ⟨c, hR, hV⟩
  have e := beg_r M 1 (by decide) (by decide)
  exact ⟨T, Nat.le_refl T, by omega, h (by rw [e]; exact hR) (by rw [e]; exact hV) hT0⟩
theorem up9 {o O M M1 : Off} {c T T1 : Nat} (hR : rE o (M 1) c) (hV : vN (M 1) c T) (hT : T ≤ T1) (hO : ∀ r, r < 9 → O r = o r) (hn : ∀ x, x < 120 → M1 1 x = M 1 x)
    (h9 : ∀ d, d < 5 → O 9 d = M1 1 (120 + d) ∧ O 10 d = M1 1 (125 + d)) (h11 : ∀ a b, a < b → b < 5 → O 11 (5 * a + b) = M1 1 (130 + (5 * a + b)) ∧ O 11 (5 * b + a) = M1 1 (130 + (5 * a + b))) (h6 : ∀ a, a < 5 → O 11 (6 * a) = 0)
    (hq : ∀ d, d < 5 → ∃ q, q ≤ 9 ∧ M1 1 (120 + d) = nI q) (hb : ∀ d, d < 5 → ∃ b, b < 16 ∧ M1 1 (125 + d) = nI b) (hcl : ∀ a b, a < b → b < 5 → M1 1 (130 + (5 * a + b)) = 0 ∨ isCls (M1 1 (130 + (5 * a + b)))) (h0 : ∀ a b, b ≤ a → a < 5 → M1 1 (130 + (5 * a + b)) = 0) : rE O (M1 1) c ∧ vN (M1 1) c T1 := by
  obtain ⟨r1, r2, r3, r4, r5, r6, r7, r8, r9, r10⟩ := hR
  obtain ⟨v1, v2, ⟨t, v3, v3e⟩, v4, v5, v6, v7⟩ := hV
  have q : ∀ i g, i < c → g < 8 → nV (M1 1) i g = nV (M 1) i g := fun i g hi hg => hn _ (by omega)
  refine ⟨⟨by rw [hO 0 (by omega)]; exact r1, by rw [hn 0 (by omega)]; exact r2, by rw [hO 0 (by omega), hn 1 (by omega)]; exact r3, by rw [hO 0 (by omega), hn 2 (by omega)]; exact r4, by rw [hO 0 (by omega), hn 3 (by omega)]; exact r5, by rw [hO 0 (by omega), hn 4 (by omega)]; exact r6, fun i hi => ?_, h9, h11, h6⟩, ⟨v1, fun i hi => ?_, ⟨t, by omega, by rw [hn 1 (by omega)]; exact v3e⟩, hq, hb, hcl, h0⟩⟩
  · have hv : ∀ g, g < 8 → cV O i g = cV o i g := fun g hg => by
      show O (g + 1) i = o (g + 1) i
      rw [hO _ (by omega)]
    show vE1 (cV O) (nV (M1 1)) i
    unfold vE1
    rw [hv 0 (by omega), hv 1 (by omega), hv 2 (by omega), hv 3 (by omega), hv 4 (by omega), hv 5 (by omega), hv 6 (by omega), hv 7 (by omega), q i 0 hi (by omega), q i 1 hi (by omega), q i 2 hi (by omega), q i 3 hi (by omega), q i 4 hi (by omega), q i 5 hi (by omega), q i 6 hi (by omega), q i 7 hi (by omega)]
    exact r7 i hi
  · obtain ⟨w1, w2, w3, w4, w5, w6, w7⟩ := vV_mono (T2 := T1) v2 hT i hi
    rw [q i 0 hi (by omega), q i 1 hi (by omega), q i 2 hi (by omega), q i 3 hi (by omega), q i 4 hi (by omega), q i 6 hi (by omega), q i 7 hi (by omega)]
    refine ⟨w1, w2, w3, w4, w5, w6, ?_⟩
    rcases w7 with w | ⟨p, p1, p2, p3, p4, p5, p6, p7⟩
    · exact Or.inl w
    · refine Or.inr ⟨p, p1, p2, (q p 7 p1 (by omega)).trans p3, p4, (q p 2 p1 (by omega)).trans p5, p6.trans (q p 3 p1 (by omega)).symm, ?_⟩
      unfold fit at p7 ⊢
      rw [q i 0 hi (by omega), q i 1 hi (by omega), q p 0 p1 (by omega), q p 1 p1 (by omega)]
      exact p7
theorem ix_q {a d : Nat} : nI a + nI d = nI (a + d) := nI_add a d
abbrev C_q (p0 p1 : Int32) (post : Int32 → Off → Prop) (o : Off) : Prop := wp_X0_settingQuota (fun v => post v o) o p0 p1
abbrev A_q (p0 p1 : Int32) (post : Int32 → Off → Prop) (o : Off) : Prop := wp_X3_changeQuota post o p0 p1
abbrev R_q (p0 p1 : Int32) (F : Int32 → Prop) (J : Off → Prop) (A1 : Int32 → Off → Prop) (o : Off) : Prop := wp_X5_isDrawer (fun v2 => ((¬ v2 = 0 → wp_X5_in (fun v3 => ((v3 = 0 → F 2) ∧ (¬ v3 = 0 → wp_X5_limits A1 o p0 p1))) p1 0 9) ∧ (v2 = 0 → F 1))) p0
abbrev R_q2 (p0 p1 : Int32) (F : Int32 → Prop) (J : Off → Prop) (A1 : Int32 → Off → Prop) (o : Off) : Prop := wp_X5_isDrawer (fun v2 => ((v2 = 0 → F 1) ∧ (¬ v2 = 0 → wp_X5_in (fun v3 => ((¬ v3 = 0 → wp_X5_limits A1 o p0 p1) ∧ (v3 = 0 → F 2))) p1 0 9))) p0
theorem out_q {E M : Off} {c T : Nat} (hR : rE E (M 1) c) (hV : vN (M 1) c T) (hT0 : T ≤ 10240) (p0 p1 : Int32) : outcN ZT (C_q p0 p1) (A_q p0 p1) (R_q p0 p1) B2 E M T := by
  have hc := hR.1
  have hm := hR.2.1
  have h14 := hV.1
  cases hd : isD p0
  · exact Or.inl ⟨-1, 1, Or.inl ⟨rfl, rfl⟩, fun post h => s3_isD hd (b01 h), fun F J A1 h => s5_isD hd (by first | exact b00 h | exact b01 h)⟩
  obtain ⟨d, hd5, rfl⟩ := isD_c hd
  by_cases hb : p1 < 0 ∨ 9 < p1
  · refine Or.inl ⟨-2, 2, Or.inr ⟨rfl, rfl⟩, fun post h => s3_isD hd (b11 ?_), fun F J A1 h => s5_isD hd ?_⟩
    · rw [ile p1 9]
      by_cases y : p1 < 0
      · exact iT y h
      · exact iF y ⟨fun y2 => absurd (hb.resolve_left y) y2, fun _ => h⟩
    · first
      | exact b11 (s5_in_f hb (l00 h))
      | exact b10 (s5_in_f hb (l01 h))
  have hb1 : ¬ p1 < 0 := fun y => hb (Or.inl y)
  have hb9 : ¬ 9 < p1 := fun y => hb (Or.inr y)
  obtain ⟨q, hq9, rfl⟩ := i32_small (m := 9) hb1 hb9 (by omega)
  have hl : ∀ {A1 : Int32 → Off → Prop}, A1 (M 1 (120 + d)) (st M 1 (120 + d) (nI q)) → wp_X5_limits A1 M (nI d) (nI q) := by
    intro A1 h
    unfold wp_X5_limits
    rw [show (120 : Int32) = nI 120 from rfl, nI_add, kc (by omega)]
    refine ⟨vpk (by omega) (by omega), fun v1 e1 => ⟨vpk (by omega) (by omega), fun o2 e2 => ?_⟩⟩
    subst e1; subst e2
    exact h
  refine Or.inr ⟨fun post h => s3_isD hd (b11 ?_), M 1 (120 + d), st M 1 (120 + d) (nI q), trivial, fun F J A1 h => s5_isD hd ?_, fun q hq => st_r _ _ _ _ _ hq, fun E2 hE2 => ?_⟩
  · rw [ile (nI q) 9]
    exact iF hb1 (iT hb9 h)
  · first
    | exact b11 (s5_in_t hb1 hb9 (l10 (hl h)))
    | exact b10 (s5_in_t hb1 hb9 (l11 (hl h)))
  · have hR2 : rE E2 (M 1) c := rE_rows hE2 hR
    have hR2' := hR2
    have hV' := hV
    obtain ⟨r1, r2, r3, r4, r5, r6, r7, r8, r9, r10⟩ := hR2'
    obtain ⟨v1, v2, v3, v4, v5, v6, v7⟩ := hV'
    have hup := up9 (O := st E2 9 d (nI q)) (M1 := st M 1 (120 + d) (nI q)) hR2 hV (Nat.le_refl T) (fun r hr => st_r _ _ _ _ _ (by omega)) (fun x hx => by rw [st_at, if_neg (by omega)]) (fun i hi => by
      rw [st_r _ _ _ _ 10 (by omega), st_at M 1 _ _ 1 (125 + i), if_neg (by omega)]
      refine ⟨?_, (r8 i hi).2⟩
      by_cases e : i = d
      · subst e; simp [st_at]
      · rw [st_at, if_neg (by omega), st_at, if_neg (by omega)]; exact (r8 i hi).1) (fun a b hab hb => by
      rw [st_r _ _ _ _ 11 (by omega), st_at, if_neg (by omega)]; exact r9 a b hab hb) (fun a ha => by
      rw [st_r _ _ _ _ 11 (by omega)]; exact r10 a ha) (fun i hi => by
      by_cases e : i = d
      · subst e; exact ⟨q, hq9, by simp [st_at]⟩
      · rw [st_at, if_neg (by omega)]; exact v4 i hi) (fun i hi => by
      rw [st_at, if_neg (by omega)]; exact v5 i hi) (fun a b hab hb => by
      rw [st_at, if_neg (by omega)]; exact v6 a b hab hb) (fun a b hab hb => by
      rw [st_at, if_neg (by omega)]; exact v7 a b hab hb)
    refine ⟨_, fun post h => ?_, ⟨c, hup.1, hup.2⟩⟩
    unfold A_q wp_X3_changeQuota
    rw [kc (by omega)]
    refine ⟨vpk (by omega) (by omega), fun v1 e1 => ⟨vpk (by omega) (by omega), fun o2 e2 => ?_⟩⟩
    subst e1; subst e2
    rw [(r8 d hd5).1]
    exact h
theorem out_q2 {E M : Off} {c T : Nat} (hR : rE E (M 1) c) (hV : vN (M 1) c T) (hT0 : T ≤ 10240) (p0 p1 : Int32) : outcN ZT (C_q p0 p1) (A_q p0 p1) (R_q2 p0 p1) B2 E M T := by
  have hc := hR.1
  have hm := hR.2.1
  have h14 := hV.1
  cases hd : isD p0
  · exact Or.inl ⟨-1, 1, Or.inl ⟨rfl, rfl⟩, fun post h => s3_isD hd (b01 h), fun F J A1 h => s5_isD hd (by first | exact b00 h | exact b01 h)⟩
  obtain ⟨d, hd5, rfl⟩ := isD_c hd
  by_cases hb : p1 < 0 ∨ 9 < p1
  · refine Or.inl ⟨-2, 2, Or.inr ⟨rfl, rfl⟩, fun post h => s3_isD hd (b11 ?_), fun F J A1 h => s5_isD hd ?_⟩
    · rw [ile p1 9]
      by_cases y : p1 < 0
      · exact iT y h
      · exact iF y ⟨fun y2 => absurd (hb.resolve_left y) y2, fun _ => h⟩
    · first
      | exact b11 (s5_in_f hb (l00 h))
      | exact b10 (s5_in_f hb (l01 h))
  have hb1 : ¬ p1 < 0 := fun y => hb (Or.inl y)
  have hb9 : ¬ 9 < p1 := fun y => hb (Or.inr y)
  obtain ⟨q, hq9, rfl⟩ := i32_small (m := 9) hb1 hb9 (by omega)
  have hl : ∀ {A1 : Int32 → Off → Prop}, A1 (M 1 (120 + d)) (st M 1 (120 + d) (nI q)) → wp_X5_limits A1 M (nI d) (nI q) := by
    intro A1 h
    unfold wp_X5_limits
    rw [show (120 : Int32) = nI 120 from rfl, nI_add, kc (by omega)]
    refine ⟨vpk (by omega) (by omega), fun v1 e1 => ⟨vpk (by omega) (by omega), fun o2 e2 => ?_⟩⟩
    subst e1; subst e2
    exact h
  refine Or.inr ⟨fun post h => s3_isD hd (b11 ?_), M 1 (120 + d), st M 1 (120 + d) (nI q), trivial, fun F J A1 h => s5_isD hd ?_, fun q hq => st_r _ _ _ _ _ hq, fun E2 hE2 => ?_⟩
  · rw [ile (nI q) 9]
    exact iF hb1 (iT hb9 h)
  · first
    | exact b11 (s5_in_t hb1 hb9 (l10 (hl h)))
    | exact b10 (s5_in_t hb1 hb9 (l11 (hl h)))
  · have hR2 : rE E2 (M 1) c := rE_rows hE2 hR
    have hR2' := hR2
    have hV' := hV
    obtain ⟨r1, r2, r3, r4, r5, r6, r7, r8, r9, r10⟩ := hR2'
    obtain ⟨v1, v2, v3, v4, v5, v6, v7⟩ := hV'
    have hup := up9 (O := st E2 9 d (nI q)) (M1 := st M 1 (120 + d) (nI q)) hR2 hV (Nat.le_refl T) (fun r hr => st_r _ _ _ _ _ (by omega)) (fun x hx => by rw [st_at, if_neg (by omega)]) (fun i hi => by
      rw [st_r _ _ _ _ 10 (by omega), st_at M 1 _ _ 1 (125 + i), if_neg (by omega)]
      refine ⟨?_, (r8 i hi).2⟩
      by_cases e : i = d
      · subst e; simp [st_at]
      · rw [st_at, if_neg (by omega), st_at, if_neg (by omega)]; exact (r8 i hi).1) (fun a b hab hb => by
      rw [st_r _ _ _ _ 11 (by omega), st_at, if_neg (by omega)]; exact r9 a b hab hb) (fun a ha => by
      rw [st_r _ _ _ _ 11 (by omega)]; exact r10 a ha) (fun i hi => by
      by_cases e : i = d
      · subst e; exact ⟨q, hq9, by simp [st_at]⟩
      · rw [st_at, if_neg (by omega)]; exact v4 i hi) (fun i hi => by
      rw [st_at, if_neg (by omega)]; exact v5 i hi) (fun a b hab hb => by
      rw [st_at, if_neg (by omega)]; exact v6 a b hab hb) (fun a b hab hb => by
      rw [st_at, if_neg (by omega)]; exact v7 a b hab hb)
    refine ⟨_, fun post h => ?_, ⟨c, hup.1, hup.2⟩⟩
    unfold A_q wp_X3_changeQuota
    rw [kc (by omega)]
    refine ⟨vpk (by omega) (by omega), fun v1 e1 => ⟨vpk (by omega) (by omega), fun o2 e2 => ?_⟩⟩
    subst e1; subst e2
    rw [(r8 d hd5).1]
    exact h
theorem op_28 {j : Nat} {E M : Off} {z : Nat → Int64} {zd : Nat → UInt64} {a1 a2 a3 : Int32} (hj : j < 512) (hI : inv j E M) : wc_28 (lwInv (j + 1)) E M z zd a1 a2 a3 := by
  unfold wc_28 ww_setQuota wp_X4_setQuota
  exact directN (C := C_q a1 a2) (A := A_q a1 a2) (R := R_q a1 a2) (B := B2) (W := fun kx E1 z1 => wp_X5_setQuota (fun bx M1 => wp_X5_thrown (fun t => (t = kx ∧ ((kx = 0 → lg_cmp (z1 (0 : Int32).toNatClampNeg) (bx).toInt64 = 0) ∧ lwInv (j + 1) E1 M1 z1 zd))) M1) M a1 a2) hj hI (hoN fun hR hV hT0 => out_q hR hV hT0 a1 a2) (fun code n hB => by rcases hB with ⟨rfl, rfl⟩ | ⟨rfl, rfl⟩; exact ⟨i1ne, Or.inl ⟨rfl, fun E1 h => Or.inl ⟨rfl, h⟩⟩⟩; exact ⟨i2ne, Or.inr (Or.inl ⟨rfl, fun E1 h => Or.inr ⟨rfl, h⟩⟩)⟩) (fun _ _ _ h => h) (fun _ _ _ h => h)
theorem col_no {p : Int32} (h : ¬ isCol p) : ixF p cols 0 = -1 ∧ bitF p = 0 := by
  unfold isCol at h
  have h1 : ¬ p = 114 := fun y => h (Or.inl y)
  have h2 : ¬ p = 103 := fun y => h (Or.inr (Or.inl y))
  have h3 : ¬ p = 98 := fun y => h (Or.inr (Or.inr (Or.inl y)))
  have h4 : ¬ p = 119 := fun y => h (Or.inr (Or.inr (Or.inr y)))
  constructor
  · refine ixF_no _ _ (fun b hb e => ?_)
    unfold cols at hb
    simp only [List.mem_cons, List.not_mem_nil, or_false] at hb
    rcases hb with rfl | rfl | rfl | rfl
    · exact h1 e.symm
    · exact h2 e.symm
    · exact h3 e.symm
    · exact h4 e.symm
  · unfold bitF
    rw [if_neg h1, if_neg h2, if_neg h3, if_neg h4]
theorem col_yes {p : Int32} (h : isCol p) : (∃ i, i < 4 ∧ ixF p cols 0 = nI i ∧ bitF p = nI (2 ^ i)) ∧ u16F p = p := by
  rcases h with rfl | rfl | rfl | rfl
  · exact ⟨⟨0, by omega, by decide, by decide⟩, by decide⟩
  · exact ⟨⟨1, by omega, by decide, by decide⟩, by decide⟩
  · exact ⟨⟨2, by omega, by decide, by decide⟩, by decide⟩
  · exact ⟨⟨3, by omega, by decide, by decide⟩, by decide⟩
theorem cls_no {p : Int32} (h : ¬ isCls p) : ixF p [111, 115, 120] 0 = -1 := by
  refine ixF_no _ _ (fun b hb e => ?_)
  simp only [List.mem_cons, List.not_mem_nil, or_false] at hb
  subst e
  exact h hb
theorem cls_yes {p : Int32} (h : isCls p) : (∃ i, i < 3 ∧ ixF p [111, 115, 120] 0 = nI i) ∧ u16F p = p ∧ ¬ p ≤ 0 ∧ ¬ p = 0 := by
  rcases h with rfl | rfl | rfl
  · exact ⟨⟨0, by omega, by decide⟩, by decide, by decide, by decide⟩
  · exact ⟨⟨1, by omega, by decide⟩, by decide, by decide, by decide⟩
  · exact ⟨⟨2, by omega, by decide⟩, by decide, by decide, by decide⟩
def Bm2 : Int32 → Int32 → Prop := fun code n => code = -2 ∧ n = 1
abbrev C_n (p0 p1 : Int32) (post : Int32 → Off → Prop) (o : Off) : Prop := wp_X0_adding post o p0 p1
abbrev A_n (p0 p1 : Int32) (post : Int32 → Off → Prop) (o : Off) : Prop := wp_X3_add post o p0 p1
abbrev R_n (p0 p1 : Int32) (F : Int32 → Prop) (J : Off → Prop) (A1 : Int32 → Off → Prop) (o : Off) : Prop := wp_X5_isKind (fun v2 => ((¬ v2 = 0 → wp_X5_tooMany (fun v4 o3 => ((v4 = 0 → wp_X5_adds A1 o3 p0 p1) ∧ (¬ v4 = 0 → J o3))) o) ∧ (v2 = 0 → F 1))) p0 p1
def addM (M : Off) (c : Nat) (p q : Int32) : Off := st (raway (rset (rset M c 0 p) c 1 q) c) 1 0 (nI c + 1)
def addE (o : Off) (c : Nat) (p q : Int32) : Off := st (st (st (st (st o 1 c p) 2 c q) 3 c 0) 8 c (-1)) 0 0 (nI c + 1)
theorem up_add {o M : Off} {c T s : Nat} {p : Int32} (hR : rE o (M 1) c) (hV : vN (M 1) c T) (hc : c < 14) (hp : isCol p) (hs1 : 1 ≤ s) (hs9 : s ≤ 9) : rE (addE o c p (nI s)) (addM M c p (nI s) 1) (c + 1) ∧ vN (addM M c p (nI s) 1) (c + 1) T := by
  obtain ⟨r1, r2, r3, r4, r5, r6, r7, r8, r9, r10⟩ := hR
  obtain ⟨v1, v2, ⟨t, v3, v3e⟩, v4, v5, v6, v7⟩ := hV
  have hx : ∀ x, x ≠ 0 → (x < 8 + 8 * c ∨ 16 + 8 * c ≤ x) → addM M c p (nI s) 1 x = M 1 x := by
    intro x h0 h
    unfold addM
    rw [st_at, if_neg (by omega), raway_o _ _ _ h, rset_o _ _ _ _ _ (by decide) h, rset_o _ _ _ _ _ (by decide) h]
  have hw : ∀ i g, i < c → g < 8 → nV (addM M c p (nI s) 1) i g = nV (M 1) i g := fun i g hi hg => hx _ (by omega) (by omega)
  have hn : ∀ g, g < 8 → nV (addM M c p (nI s) 1) c g = if g < 2 then (if g = 1 then nI s else p) else if g = 7 then -1 else 0 := by
    intro g hg
    unfold addM
    show (st (raway (rset (rset M c 0 p) c 1 (nI s)) c) 1 0 (nI c + 1)) 1 (8 + 8 * c + g) = _
    rw [st_at, if_neg (by omega)]
    show rV (raway (rset (rset M c 0 p) c 1 (nI s)) c) c g = _
    rw [raway_v _ _ _ _ hg, if_pos rfl]
    split
    · rw [rset_v _ _ _ _ _ _ (by decide) hg, rset_v _ _ _ _ _ _ (by decide) hg]
      have : g = 0 ∨ g = 1 := by omega
      rcases this with rfl | rfl <;> simp
    · rfl
  have hv : ∀ i g, i < c → g < 8 → cV (addE o c p (nI s)) i g = cV o i g := by
    intro i g hi hg
    show addE o c p (nI s) (g + 1) i = o (g + 1) i
    unfold addE
    rw [st_r _ _ _ _ _ (by omega), st_at, if_neg (by omega), st_at, if_neg (by omega), st_at, if_neg (by omega), st_at, if_neg (by omega)]
  have ho : ∀ r i, 9 ≤ r → addE o c p (nI s) r i = o r i := by
    intro r i hr
    unfold addE
    rw [st_r _ _ _ _ _ (by omega), st_r _ _ _ _ _ (by omega), st_r _ _ _ _ _ (by omega), st_r _ _ _ _ _ (by omega), st_r _ _ _ _ _ (by omega)]
  have h0 : ∀ i, i ≠ 0 → addE o c p (nI s) 0 i = o 0 i := by
    intro i hi
    unfold addE
    rw [st_at, if_neg (by omega), st_r _ _ _ _ _ (by omega), st_r _ _ _ _ _ (by omega), st_r _ _ _ _ _ (by omega), st_r _ _ _ _ _ (by omega)]
  refine ⟨⟨?_, ?_, by rw [h0 1 (by omega), hx 1 (by omega) (by omega)]; exact r3, by rw [h0 2 (by omega), hx 2 (by omega) (by omega)]; exact r4, by rw [h0 3 (by omega), hx 3 (by omega) (by omega)]; exact r5, by rw [h0 4 (by omega), hx 4 (by omega) (by omega)]; exact r6, fun i hi => ?_, fun d hd => ?_, fun a b hab hb => ?_, fun a ha => ?_⟩, ⟨by omega, fun i hi => ?_, ⟨t, v3, by rw [hx 1 (by omega) (by omega)]; exact v3e⟩, fun d hd => ?_, fun d hd => ?_, fun a b hab hb => ?_, fun a b hab hb => ?_⟩⟩
  · unfold addE
    rw [st_at, if_pos ⟨rfl, rfl⟩, nI_add1]
  · unfold addM
    rw [st_at, if_pos ⟨rfl, rfl⟩, nI_add1]
  · show vE1 (cV (addE o c p (nI s))) (nV (addM M c p (nI s) 1)) i
    unfold vE1
    by_cases e : i = c
    · subst e
      rw [hn 0 (by omega), hn 1 (by omega), hn 2 (by omega), hn 3 (by omega), hn 4 (by omega), hn 5 (by omega), hn 6 (by omega), hn 7 (by omega)]
      simp [cV, addE, st_at]
    · have hi : i < c := by omega
      rw [hv i 0 hi (by omega), hv i 1 hi (by omega), hv i 2 hi (by omega), hv i 3 hi (by omega), hv i 4 hi (by omega), hv i 5 hi (by omega), hv i 6 hi (by omega), hv i 7 hi (by omega), hw i 0 hi (by omega), hw i 1 hi (by omega), hw i 2 hi (by omega), hw i 3 hi (by omega), hw i 4 hi (by omega), hw i 5 hi (by omega), hw i 6 hi (by omega), hw i 7 hi (by omega)]
      exact r7 i hi
  · rw [ho 9 d (by omega), ho 10 d (by omega), hx _ (by omega) (by omega), hx _ (by omega) (by omega)]; exact r8 d hd
  · rw [ho 11 _ (by omega), ho 11 _ (by omega), hx _ (by omega) (by omega)]; exact r9 a b hab hb
  · rw [ho 11 _ (by omega)]; exact r10 a ha
  · by_cases e : i = c
    · subst e
      rw [hn 0 (by omega), hn 1 (by omega), hn 2 (by omega), hn 3 (by omega), hn 4 (by omega), hn 6 (by omega), hn 7 (by omega)]
      simp
      exact ⟨hp, s, hs1, hs9, rfl⟩
    · have hi : i < c := by omega
      obtain ⟨w1, w2, w3, w4, w5, w6, w7⟩ := v2 i hi
      rw [hw i 0 hi (by omega), hw i 1 hi (by omega), hw i 2 hi (by omega), hw i 3 hi (by omega), hw i 4 hi (by omega), hw i 6 hi (by omega), hw i 7 hi (by omega)]
      refine ⟨w1, w2, w3, w4, w5, w6, ?_⟩
      rcases w7 with w | ⟨u, u1, u2, u3, u4, u5, u6, u7⟩
      · exact Or.inl w
      · refine Or.inr ⟨u, by omega, u2, (hw u 7 u1 (by omega)).trans u3, u4, (hw u 2 u1 (by omega)).trans u5, u6.trans (hw u 3 u1 (by omega)).symm, ?_⟩
        unfold fit at u7 ⊢
        rw [hw i 0 hi (by omega), hw i 1 hi (by omega), hw u 0 u1 (by omega), hw u 1 u1 (by omega)]
        exact u7
  · rw [hx _ (by omega) (by omega)]; exact v4 d hd
  · rw [hx _ (by omega) (by omega)]; exact v5 d hd
  · rw [hx _ (by omega) (by omega)]; exact v6 a b hab hb
  · rw [hx _ (by omega) (by omega)]; exact v7 a b hab hb
theorem out_n {E M : Off} {c T : Nat} (hR : rE E (M 1) c) (hV : vN (M 1) c T) (hT0 : T ≤ 10240) (p0 p1 : Int32) : outc (C_n p0 p1) (A_n p0 p1) (R_n p0 p1) Bm2 E M T := by
  have hc := hR.1
  have hm := hR.2.1
  have h14 := hV.1
  by_cases hcol : isCol p0
  case neg =>
    obtain ⟨h1, h2⟩ := col_no hcol
    refine Or.inl ⟨-2, 1, ⟨rfl, rfl⟩, fun post h => s_col ?_, fun F J A1 h => s5_bitOf ?_⟩
    · rw [h1]; exact iT (by decide) h
    · rw [h2]; exact iT (by decide) (l01 h)
  obtain ⟨⟨i, hi, h1, h2⟩, -⟩ := col_yes hcol
  have hi0 : ¬ nI i < 0 := nI_pos (by omega)
  have hb0 : ¬ nI (2 ^ i) ≤ 0 := by
    have : i = 0 ∨ i = 1 ∨ i = 2 ∨ i = 3 := by omega
    rcases this with rfl | rfl | rfl | rfl <;> decide
  by_cases hb : p1 < 1 ∨ 9 < p1
  · refine Or.inl ⟨-2, 1, ⟨rfl, rfl⟩, fun post h => s_col ?_, fun F J A1 h => s5_bitOf ?_⟩
    · rw [h1, ile p1 9]
      refine iF hi0 ?_
      by_cases y : p1 < 1
      · exact iT y h
      · exact iF y ⟨fun y2 => absurd (hb.resolve_left y) y2, fun _ => h⟩
    · rw [h2]; exact iF hb0 (s5_in_f hb (l00 (l01 h)))
  have hb1 : ¬ p1 < 1 := fun y => hb (Or.inl y)
  have hb9 : ¬ 9 < p1 := fun y => hb (Or.inr y)
  obtain ⟨q, hq1, hq9, rfl⟩ := i32_rng (a := 1) (b := 9) hb1 hb9 (by omega) (by omega)
  have hin : ∀ {F : Int32 → Prop} {J : Off → Prop} {A1 : Int32 → Off → Prop}, wp_X5_tooMany (fun v4 o3 => ((v4 = 0 → wp_X5_adds A1 o3 p0 (nI q)) ∧ (¬ v4 = 0 → J o3))) M → R_n p0 (nI q) F J A1 M := by
    intro F J A1 h
    refine s5_bitOf ?_
    rw [h2]; exact iF hb0 (s5_in_t hb1 hb9 (l10 (l11 h)))
  by_cases hfull : c = 14
  · subst hfull
    refine Or.inr (Or.inl ⟨1, 14, by omega, by omega, fun E hE post h => ?_, fun F J A1 h => hin ?_⟩)
    · have hR := rE_rows hE hR
      have hc := hR.1
      refine s_col ?_
      rw [h1, ile (nI q) 9]
      refine iF hi0 (iF hb1 (iT hb9 (iF (by rw [hc]; decide) (fun o1 e1 => ?_))))
      subst e1
      exact h
    · unfold wp_X5_tooMany
      rw [c0, hm]
      exact ⟨i0_160, jT rfl (s5_notes_t ⟨isB1, l10 h⟩)⟩
  have hc14 : c < 14 := by omega
  refine Or.inr (Or.inr ⟨fun post h => s_col ?_, nI c, addM M c p0 (nI q), fun F J A1 h => hin ?_, fun r hr => ?_, fun E2 hE2 => ?_⟩)
  · rw [h1, ile (nI q) 9]
    refine iF hi0 (iF hb1 (iT hb9 (iT ?_ h)))
    rw [hc, show (14 : Int32) = nI 14 from rfl, nI_lti (by omega) (by omega)]
    exact hc14
  · unfold wp_X5_tooMany
    rw [c0, hm]
    refine ⟨i0_160, jF ?_ (s5_notes_f ⟨isB0, l00 ?_⟩)⟩
    · rw [show (14 : Int32) = nI 14 from rfl, nI_eqi (by omega) (by omega)]
      exact hfull
    · refine ⟨i0_160, fun v1 e1 => ?_⟩
      rw [c0, hm] at e1
      subst e1
      refine s5_set (f := 0) hc14 (by decide) (s5_set (f := 1) hc14 (by decide) (s5_sendsAway hc14 ⟨i0_160, i0_160, fun o5 e5 => ?_⟩))
      rw [c0, raway_o _ _ _ (by omega), rset_o _ _ _ _ _ (by decide) (by omega), rset_o _ _ _ _ _ (by decide) (by omega), hm] at e5
      subst e5
      exact h
  · unfold addM
    rw [st_r _ _ _ _ _ hr, raway_r _ _ _ hr, rset_r _ _ _ _ _ hr, rset_r _ _ _ _ _ hr]
  · have hR2 : rE E2 (M 1) c := rE_rows hE2 hR
    have hup := up_add hR2 hV hc14 hcol hq1 hq9
    refine ⟨_, fun post h => ?_, ⟨c + 1, hup.1, hup.2⟩⟩
    unfold A_n wp_X3_add
    intro v1 e1
    rw [hR2.1] at e1
    subst e1
    rw [kc (by omega)]
    refine ⟨vpk hc14 (by omega), fun o2 e2 => ⟨vpk hc14 (by omega), fun o3 e3 => ⟨vpk hc14 (by omega), fun o4 e4 => ⟨vpk hc14 (by omega), fun o5 e5 o6 e6 => ?_⟩⟩⟩⟩
    subst e2; subst e3; subst e4; subst e5; subst e6
    rw [st_r _ _ _ _ 0 (by omega), st_r _ _ _ _ 0 (by omega), st_r _ _ _ _ 0 (by omega), st_r _ _ _ _ 0 (by omega), hR2.1]
    exact h
theorem op_0 {j : Nat} {E M : Off} {z : Nat → Int64} {zd : Nat → UInt64} {a1 a2 a3 : Int32} (hj : j < 512) (hI : inv j E M) : wc_0 (lwInv (j + 1)) E M z zd a1 a2 a3 := by
  unfold wc_0 ww_addSock wp_X4_addSock
  exact direct (C := C_n (((a1).toUInt32 % 65536).toInt32) a2) (A := A_n (((a1).toUInt32 % 65536).toInt32) a2) (R := R_n (((a1).toUInt32 % 65536).toInt32) a2) (B := Bm2) (rn := 2) (W := fun kx E1 z1 => wp_X5_addSock (fun bx M1 => wp_X5_thrown (fun t => (t = kx ∧ ((kx = 0 → lg_cmp (z1 (0 : Int32).toNatClampNeg) (bx).toInt64 = 0) ∧ lwInv (j + 1) E1 M1 z1 zd))) M1) M (((a1).toUInt32 % 65536).toInt32) a2) hj hI (hoS fun hR hV hT0 => out_n hR hV hT0 (((a1).toUInt32 % 65536).toInt32) a2) (by decide) (fun code n hB => by obtain ⟨rfl, rfl⟩ := hB; exact ⟨i1ne, Or.inr (Or.inl ⟨rfl, fun E1 h => Or.inl ⟨rfl, h⟩⟩)⟩) (fun E1 h => Or.inr ⟨rfl, h⟩) (fun _ _ _ h => h) putG
