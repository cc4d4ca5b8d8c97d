/-! ===== a change on both sides: its check, its doing ===== -/
abbrev wT : Type := (Int32 → Off → Prop) → Off → Prop
abbrev wR : Type := (Int32 → Prop) → (Off → Prop) → (Int32 → Off → Prop) → Off → Prop
def outc (C A : wT) (R : wR) (B : Int32 → Int32 → Prop) (E M : Off) (T1 : Nat) : Prop :=
  (∃ code n : Int32, B code n ∧ (∀ post : Int32 → Off → Prop, post code E → C post E) ∧ (∀ F J A1, F n → R F J A1 M)) ∨
  (∃ (r : Nat) (d : Int32), 1 ≤ r ∧ r ≤ 16 ∧ (∀ E2 : Off, (∀ k, k < 12 → E2 k = E k) → ∀ post : Int32 → Off → Prop, post (nI r) (st E2 12 0 d) → C post E2) ∧ (∀ F J A1, J (st (st M 0 11 (nI r)) 0 12 d) → R F J A1 M)) ∨
  ((∀ post : Int32 → Off → Prop, post 0 E → C post E) ∧ ∃ (v : Int32) (M1 : Off), (∀ F J A1, A1 v M1 → R F J A1 M) ∧ (∀ q, q ≠ 1 → M1 q = M q) ∧ ∀ E2 : Off, (∀ k, k < 12 → E2 k = E k) → ∃ O, (∀ post : Int32 → Off → Prop, post v O → A post E2) ∧ oK O (M1 1) T1)
theorem st_r (o : Off) (k i : Nat) (v : Int32) (j : Nat) (h : j ≠ k) : st o k i v j = o j := by
  funext q
  rw [st_at, if_neg (fun y => h y.1)]
theorem rjE_r (o : Off) (r d : Int32) (j : Nat) (h : j ≠ 13) : rjE o r d j = o j := by
  unfold rjE
  rw [st_r _ _ _ _ _ h, st_r _ _ _ _ _ h, st_r _ _ _ _ _ h]
theorem direct {C A : wT} {R : wR} {B : Int32 → Int32 → Prop} {E M : Off} {rn : Int32} {j : Nat} {z : Nat → Int64} {zd : Nat → UInt64} {px : Nat → Off → Prop} {W : Int32 → Off → (Nat → Int64) → Prop} {G : Int32 → Off → Prop} (hj : j < 512) (hI : inv j E M)
    (ho : ∀ T, T ≤ 10240 → oK E (M 1) T → ∃ T1, T ≤ T1 ∧ T1 ≤ T + 20 ∧ outc C A R B E (beg M) T1)
    (hrn : ¬ rn = 0)
    (hpx : ∀ code n, B code n → ¬ n = 0 ∧ ((code = -1 ∧ ∀ E1, W n E1 z → px 3 E1) ∨ (code = -2 ∧ ∀ E1, W n E1 z → px 1 E1) ∨ (code = -3 ∧ ∀ E1, W n E1 z → px 5 E1)))
    (hpr : ∀ E1, W rn E1 z → px 4 E1)
    (hW : ∀ kx E1 z1, wp_X5_begin (fun o1 => R (fun n => wp_X5_fail (fun bx M1 => wp_X5_thrown (fun t => (t = kx ∧ ((kx = 0 → lg_cmp (z1 (0 : Int32).toNatClampNeg) (bx).toInt64 = 0) ∧ lwInv (j + 1) E1 M1 z1 zd))) M1) o1 n) (fun o => wp_X5_reject (fun bx M1 => wp_X5_thrown (fun t => (t = kx ∧ ((kx = 0 → lg_cmp (z1 (0 : Int32).toNatClampNeg) (bx).toInt64 = 0) ∧ lwInv (j + 1) E1 M1 z1 zd))) M1) o rn) (fun w o => wp_X5_commit (fun bx M1 => wp_X5_thrown (fun t => (t = kx ∧ ((kx = 0 → lg_cmp (z1 (0 : Int32).toNatClampNeg) (bx).toInt64 = 0) ∧ lwInv (j + 1) E1 M1 z1 zd))) M1) o w) o1) M → W kx E1 z1)
    (hG : ∀ v o1, (o1 = E ∨ ∃ d, o1 = st E 12 0 d) → wp_X4_require (fun o4 => (∃ i6 : Nat, i6 < 8 ∧ o4 60 2 = nI i6 ∧ (∀ o5 : Off, o5 = keepH o4 o4 i6 → A (fun v9 o7 => (∀ o8 : Off, o8 = put o5 0 12 o7 → W 0 o8 (vp_updL z (0 : Int32).toNatClampNeg v9.toInt64))) o5))) px o1 v → G v o1) : C G E := by
  have hI2 := hI
  obtain ⟨len, T, hT, hO, hH, hS, hL, hIn, hX⟩ := hI2
  obtain ⟨T1, hT1, hT2, ho⟩ := ho T (by omega) hO
  rcases ho with ⟨code, n, hB, hC, hR⟩ | ⟨r, d, h1, h2, hC, hR⟩ | ⟨hC, v, M1, hR, hM, hA⟩
  · obtain ⟨hn, hp⟩ := hpx code n hB
    refine hC _ (hG _ _ (Or.inl rfl) ?_)
    have hw : W n E z := by
      refine hW n E z (s5_begin (hR _ _ _ ?_))
      intro o1 e
      subst e
      exact fin_x hn rfl (inv_same (sameE_rf E) (sameM_tr (same_beg M) (sameM_thr _ n)) hI)
    rcases hp with ⟨rfl, hp⟩ | ⟨rfl, hp⟩ | ⟨rfl, hp⟩
    · exact rq_m1 (hp E hw)
    · exact rq_m2 (hp E hw)
    · exact rq_m3 (hp E hw)
  · refine hC E (fun _ _ => rfl) _ (hG _ _ (Or.inr ⟨d, rfl⟩) (rq_r h1 (by omega) (hpr _ (hW _ _ _ (s5_begin (hR _ _ _ ?_))))))
    intro o1 e1 o2 e2 o3 e3 o4 e4
    subst e1; subst e2; subst e3; subst e4
    have b := beg_r M
    refine fin_x hrn rfl (inv_rej (r := r) (d := d) (cz := 0) hI (by omega) (fun k hk1 hk2 _ => ?_) ⟨?_, ?_, ?_, ?_, ?_⟩ (fun i a1 a2 a3 a4 a5 a6 => ?_) rfl rfl rfl rfl rfl rfl rfl)
    · rw [rjE_r _ _ _ _ hk2, st_r _ _ _ _ _ hk1]
    · exact b 1 (by decide) (by decide)
    · exact b 4 (by decide) (by decide)
    · exact b 5 (by decide) (by decide)
    · exact b 6 (by decide) (by decide)
    · exact b 7 (by decide) (by decide)
    · rw [st_at, if_neg (fun y => a1 y.2), st_at, if_neg (fun y => a4 y.2), st_at, if_neg (fun y => a3 y.2), st_at, if_neg (fun y => a2 y.2), st_at, if_neg (fun y => a6 y.2), st_at, if_neg (fun y => a5 y.2), beg_0, if_neg a1]
  · refine hC _ (hG _ _ (Or.inl rfl) (rq_0 ?_))
    obtain ⟨i, kept, k1, k2, k3, k4, k5, k6⟩ := id hH
    refine ⟨i, k1, k3, fun o5 e5 => ?_⟩
    subst e5
    obtain ⟨O, hA, hN⟩ := hA (keepH E E i) (fun k hk => keepH_o _ _ _ _ (by omega) (by omega))
    refine hA _ ?_
    intro o8 e8
    subst e8
    refine hW _ _ _ (s5_begin (hR _ _ _ ?_))
    have b0 : ∀ q, q ≠ 5 → M1 0 q = M 0 q := fun q hq => by rw [hM 0 (by decide), beg_0, if_neg hq]
    refine s5_commit (kept := kept) ((b0 6 (by decide)).trans k5) k2 (fun M3 hc => ?_)
    refine fin_i ?_ rfl (inv_keep hT hO hH hS hL hIn hX k1 k3 (M2 := M1) ⟨?_, ?_, ?_, ?_, fun q a1 _ _ => b0 q a1⟩ (fun x hx => ?_) ((b0 6 (by decide)).trans k5) k2 hc hT1 hT2 hN)
    · rw [hc.2.1 5 (by decide), hM 0 (by decide), beg_0, if_pos rfl]
    · rw [hM 4 (by decide), beg_r M 4 (by decide) (by decide)]
    · rw [hM 5 (by decide), beg_r M 5 (by decide) (by decide)]
    · rw [hM 6 (by decide), beg_r M 6 (by decide) (by decide)]
    · rw [hM 7 (by decide), beg_r M 7 (by decide) (by decide)]
    · rw [hM 2 (by decide), beg_2 M x hx]
theorem putG {E : Off} {P : Int32 → Off → Prop} : ∀ v o1, (o1 = E ∨ ∃ d, o1 = st E 12 0 d) → P v o1 → (∀ o2 : Off, o2 = put E 0 13 o1 → P v o2) := by
  intro v o1 h p o2 e
  have : o2 = o1 := by
    subst e
    rcases h with rfl | ⟨d, rfl⟩
    · exact put_self _ _
    · funext k q
      rw [put_at]
      split
      · rfl
      · rw [st_at, if_neg (by omega)]
  rw [this]
  exact p
