/-! ===== execute ===== -/
theorem parS_ok {T : Nat → Int32} {len : Nat} : ∀ (r a : Nat) (L : Cmds), 3 * L.length ≤ a → a ≤ len → (∀ q, q < L.length → cmdOK (L.getD q (0, []))) → (parS T len r a L).1 = false → 3 * (parS T len r a L).2.2.length ≤ len + 1 ∧ L.length < (parS T len r a L).2.2.length ∧ ∀ q, q < (parS T len r a L).2.2.length → cmdOK ((parS T len r a L).2.2.getD q (0, [])) := by
  intro r
  induction r with
  | zero => intro a L _ _ _ h; cases h
  | succ r ih =>
    intro a L h3 ha hok h
    rw [parS] at h ⊢
    cases hb : (com T len a).1
    case true => rw [if_pos hb] at h; cases h
    rw [hb] at h
    rw [if_neg (by decide)] at h ⊢
    obtain ⟨c1, c2, c3, c4, c5, c6⟩ := com_ok hb
    have hlen : (L ++ [(T a, (com T len a).2.2)]).length = L.length + 1 := by rw [List.length_append]; rfl
    have hok2 : ∀ q, q < (L ++ [(T a, (com T len a).2.2)]).length → cmdOK ((L ++ [(T a, (com T len a).2.2)]).getD q (0, [])) := by
      intro q hq
      rw [hlen] at hq
      by_cases e : q = L.length
      · subst e; rw [getD_la]; exact c6
      · rw [getD_lb (by omega)]; exact hok q (by omega)
    by_cases hl : (com T len a).2.1 < len
    · rw [if_pos hl] at h ⊢
      by_cases h59 : T (com T len a).2.1 = 59
      · rw [if_pos h59] at h ⊢
        obtain ⟨i1, i2, i3⟩ := ih _ _ (by rw [hlen]; omega) (by omega) hok2 h
        exact ⟨i1, by rw [hlen] at i2; omega, i3⟩
      · rw [if_neg h59] at h; cases h
    · rw [if_neg hl]
      exact ⟨by rw [hlen]; omega, by rw [hlen]; omega, hok2⟩
theorem parS_le {T : Nat → Int32} {len : Nat} : ∀ (r a : Nat) (L : Cmds), a ≤ len → (parS T len r a L).2.1 ≤ len := by
  intro r
  induction r with
  | zero => intro a L ha; exact ha
  | succ r ih =>
    intro a L ha
    rw [parS]
    have hc := com_le (T := T) ha
    split
    · exact hc
    · split
      · split
        · exact ih _ _ (by omega)
        · exact hc
      · exact hc
theorem exLoop {E5 MB : Off} {cnt : Nat} {L : Cmds} (hL : L.length = cnt) (hC : ∀ q, q < cnt → CQ E5 MB q cnt (L.getD q (0, []))) (hok : ∀ q, q < cnt → cmdOK (L.getD q (0, []))) (h20 : cnt ≤ 20) (h22 : MB 0 22 = nI cnt) (h44 : E5 40 4 = nI cnt) : ∀ (r q : Nat) (E M : Off) (T : Nat), q + r = cnt → (∀ k, 12 ≤ k → E k = E5 k) → (∀ r, r ≠ 1 → M r = MB r) → oK E (M 1) T → T + 20 * r ≤ 10240 →
    (∃ EF MF T1, T ≤ T1 ∧ T1 ≤ T + 20 * r ∧ (∀ k, 12 ≤ k → EF k = E5 k) ∧ (∀ r, r ≠ 1 → MF r = MB r) ∧ oK EF (MF 1) T1 ∧ (∀ post : Int32 → Off → Prop, post (nI cnt) EF → wl_X4_carryOutCommands_2 post (r + 1) E (nI q)) ∧ (∀ post : Int32 → Off → Prop, wp_X5_commit (fun v4 o3 => post v4 o3) MF (nI cnt) → wl_X5_execute_31 post (r + 1) M (nI q))) ∨
    (∃ (q2 : Nat) (EF MF : Off) (code : Int32), q2 < cnt ∧ (∀ k, 12 ≤ k → EF k = E5 k) ∧ (∀ r, r ≠ 1 → MF r = MB r) ∧ code ≤ 0 ∧ (∀ post : Int32 → Off → Prop, post code EF → wp_X4_faultOf post EF (nI q2)) ∧ (∀ post : Int32 → Off → Prop, post (nI q2) EF → wl_X4_carryOutCommands_2 post (r + 1) E (nI q)) ∧ (∀ post : Int32 → Off → Prop, post 0 (st (cpO MF 2 1 0 0) 0 5 2) → wl_X5_execute_31 post (r + 1) M (nI q))) ∨
    (∃ (q2 : Nat) (EF MF : Off) (rr : Nat) (d : Int32), q2 < cnt ∧ (∀ k, 12 < k → EF k = E5 k) ∧ (∀ r, r ≠ 1 → MF r = MB r) ∧ 1 ≤ rr ∧ rr ≤ 16 ∧ (∀ post : Int32 → Off → Prop, post (nI rr) EF → wp_X4_faultOf post EF (nI q2)) ∧ (∀ post : Int32 → Off → Prop, post (nI q2) EF → wl_X4_carryOutCommands_2 post (r + 1) E (nI q)) ∧ (∀ post : Int32 → Off → Prop, post 0 (st (st (st (st (cpO (st (st MF 0 11 (nI rr)) 0 12 d) 2 1 0 0) 0 8 17) 0 9 (nI q2)) 0 10 (nI rr)) 0 5 3) → wl_X5_execute_31 post (r + 1) M (nI q))) := by
  intro r
  induction r with
  | zero =>
    intro q E M T hq hE hM hO hT
    have e : q = cnt := by omega
    have h4 : E 40 4 = nI cnt := by
      rw [hE 40 (by omega)]
      exact h44
    subst e
    refine Or.inl ⟨E, M, T, Nat.le_refl _, by omega, hE, hM, hO, fun post h => ?_, fun post h => ?_⟩
    · rw [wl_X4_carryOutCommands_2, h4]
      exact iT (Int32.le_refl _) h
    · rw [wl_X5_execute_31, hM 0 (by decide), h22]
      exact iT (Int32.le_refl _) h
  | succ r ih =>
    intro q E M T hq hE hM hO hT
    have hqc : q < cnt := by omega
    have h4 : E 40 4 = nI cnt := by rw [hE 40 (by omega)]; exact (hC q hqc).1
    have m22 : M 0 22 = nI cnt := by rw [hM 0 (by decide)]; exact h22
    have hge : ¬ nI cnt ≤ nI q := nI_ge (by omega) (by omega)
    have hCq : CQ E M q cnt (L.getD q (0, [])) := by
      obtain ⟨a1, a2, a3, a4, a5, a6⟩ := hC q hqc
      refine ⟨h4, a2, a3, by rw [hE 42 (by omega)]; exact a4, by rw [hM 8 (by decide)]; exact a5, fun i hi => ?_⟩
      rw [hE 43 (by omega), hM 9 (by decide)]
      exact a6 i hi
    obtain ⟨c, hR, hV⟩ := hO
    obtain ⟨T1, t1, t2, hcar⟩ := car_all hR hV (by omega) hCq (hok q hqc)
    -- the two loops' heads
    have hcl : ∀ {post : Int32 → Off → Prop}, wp_X4_faultOf (fun v2 o1 => ((v2 = 0 → wp_X4_carryOut (fun o3 => (∀ v4 : Int32, v4 = nI q + 1 → wl_X4_carryOutCommands_2 post (r + 1) o3 v4)) o1 (nI q)) ∧ (¬ v2 = 0 → post (nI q) o1))) E (nI q) → wl_X4_carryOutCommands_2 post (r + 1 + 1) E (nI q) := by
      intro post h
      rw [wl_X4_carryOutCommands_2, h4]
      exact iF hge h
    have hrf : ∀ {post : Int32 → Off → Prop}, wp_X5_carries (fun v6 o5 => ((¬ v6 = 0 → wp_X5_copy (fun o7 => ((¬ v6 = (1 : Int32) → (∀ o8 : Off, o8 = st o7 0 8 (17 : Int32) → (∀ o9 : Off, o9 = st o8 0 9 (nI q) → (∀ o10 : Off, o10 = st o9 0 10 (o9 0 11) → wp_X5_fail (fun v12 o11 => post v12 o11) o10 (3 : Int32))))) ∧ (v6 = (1 : Int32) → wp_X5_fail (fun v14 o13 => post v14 o13) o7 (2 : Int32)))) o5 2 1 (0 : Int32) (0 : Int32)) ∧ (v6 = 0 → (∀ v15 : Int32, v15 = nI q + (1 : Int32) → wl_X5_execute_31 post (r + 1) o5 v15)))) M (nI q) → wl_X5_execute_31 post (r + 1 + 1) M (nI q) := by
      intro post h
      rw [wl_X5_execute_31, m22]
      exact iF hge h
    rcases hcar with ⟨code, c0', c1', hf, hr⟩ | ⟨rr, d, r1, r2, hf, hr⟩ | ⟨hf, M1, O, hr, hc, hM1, hN⟩
    · refine Or.inr (Or.inl ⟨q, E, M, code, hqc, hE, hM, c1', hf, fun post h => hcl (hf _ (iF c0' h)), fun post h => hrf (hr _ (l11 ?_))⟩)
      refine s5_copy 0 0 (by omega) (by decide) (by decide) (Or.inl (by decide)) (jT rfl (fun o1 e1 => ?_))
      subst e1
      exact h
    · have hE2 : ∀ k, k ≠ 12 → st E 12 0 d k = E k := fun k hk => st_r _ _ _ _ _ hk
      have hss : st (st E 12 0 d) 12 0 d = st E 12 0 d := by
        funext k x
        simp only [st_at]
        split <;> rfl
      refine Or.inr (Or.inr ⟨q, st E 12 0 d, M, rr, d, hqc, fun k hk => by rw [hE2 k (by omega)]; exact hE k (by omega), hM, r1, r2, fun post h => hf _ hE2 post (by rw [hss]; exact h), fun post h => hcl (hf E (fun _ _ => rfl) _ (iF (nI_0' rr r1 (by omega)) h)), fun post h => hrf (hr _ (jF (by decide) ?_))⟩)
      refine s5_copy 0 0 (by omega) (by decide) (by decide) (Or.inl (by decide)) (jF (by decide) (fun o8 e8 o9 e9 o10 e10 o11 e11 => ?_))
      have e911 : o9 0 11 = nI rr := by
        rw [e9, st_at, if_neg (by omega), e8, st_at, if_neg (by omega), cpO_0 _ _ _ _ _ (by decide), st_at, if_neg (by omega), st_at, if_pos ⟨rfl, rfl⟩]
      rw [e911] at e10
      subst e11; subst e10; subst e9; subst e8
      exact h
    · have hE1 : ∀ k, 12 ≤ k → put E 0 12 O k = E5 k := fun k hk => by rw [put_hi (by omega)]; exact hE k hk
      have hM1' : ∀ r, r ≠ 1 → M1 r = MB r := fun r hr => (hM1 r hr).trans (hM r hr)
      have hO1 : oK (put E 0 12 O) (M1 1) T1 := oK_rows (fun k hk => put_lo hk) hN
      have hcl2 : ∀ {post : Int32 → Off → Prop}, wl_X4_carryOutCommands_2 post (r + 1) (put E 0 12 O) (nI (q + 1)) → wl_X4_carryOutCommands_2 post (r + 1 + 1) E (nI q) := fun {post} h => hcl (hf _ (l00 (hc _ (fun v4 e4 => by
        rw [nI_add1] at e4
        subst e4
        exact h))))
      have hrf2 : ∀ {post : Int32 → Off → Prop}, wl_X5_execute_31 post (r + 1) M1 (nI (q + 1)) → wl_X5_execute_31 post (r + 1 + 1) M (nI q) := fun {post} h => hrf (hr _ (l01 (fun v15 e15 => by
        rw [nI_add1] at e15
        subst e15
        exact h)))
      rcases ih (q + 1) (put E 0 12 O) M1 T1 (by omega) hE1 hM1' hO1 (by omega) with ⟨EF, MF, T2, s1, s2, s3, s4, s5, s6, s7⟩ | ⟨q2, EF, MF, code, s1, s2, s3, s4, s5, s6, s7⟩ | ⟨q2, EF, MF, rr, d, s1, s2, s3, s4, s5, s6, s7, s8⟩
      · exact Or.inl ⟨EF, MF, T2, by omega, by omega, s3, s4, s5, fun post h => hcl2 (s6 post h), fun post h => hrf2 (s7 post h)⟩
      · exact Or.inr (Or.inl ⟨q2, EF, MF, code, s1, s2, s3, s4, s5, fun post h => hcl2 (s6 post h), fun post h => hrf2 (s7 post h)⟩)
      · exact Or.inr (Or.inr ⟨q2, EF, MF, rr, d, s1, s2, s3, s4, s5, s6, fun post h => hcl2 (s7 post h), fun post h => hrf2 (s8 post h)⟩)
theorem inv_mk {j len T : Nat} {E E1 M M1 : Off} (hT : 20 * len + T ≤ 20 * j) (hO : oK E (M 1) T) (hH : iH E M T) (hS : iS E M T) (hX : iX E M)
    (r0 : ∀ k, k < 12 → E1 k = E k) (r60 : E1 60 = E 60) (rH : ∀ k, 100 ≤ k → k < 272 → E1 k = E k) (r50 : E1 50 = E 50) (r51 : E1 51 = E 51) (e40 : E1 40 3 = 0)
    (m1 : ∀ x, x < 160 → M1 1 x = M 1 x) (m4 : M1 4 = M 4) (m5 : M1 5 = M 5) (m6 : M1 6 = M 6) (m06 : M1 0 6 = M 0 6) (m013 : M1 0 13 = M 0 13) (m015 : M1 0 15 = M 0 15) (m019 : M1 0 19 = 0) (hL : iL E1 M1) : inv (j + 1) E1 M1 := by
  refine ⟨0, T, by omega, oK_n m1 (oK_rows r0 hO), iH_rows r60 (fun k h1 h2 => rH k h1 (by omega)) m06 m5 hH, iS_rows r60 (fun k h1 h2 => rH k (by omega) h2) m013 m4 hS, hL, ⟨e40, m019, by omega, fun i hi => absurd hi (Nat.not_lt_zero i)⟩, ?_⟩
  unfold iX
  rw [r50, r51, m015, m6]
  exact hX
theorem inv_sE {j : Nat} {E E1 M : Off} (hE : sameE E E1) (h : inv j E M) : inv j E1 M := by
  obtain ⟨len, T, h0, h1, h2, h3, h4, h5, h6⟩ := h
  obtain ⟨rL, rI, rX⟩ := rest_keep (M1 := M) h4 h5 h6 (hE 13 (by omega) (by omega)) (hE 40 (by omega) (by omega)) (hE 41 (by omega) (by omega)) (hE 50 (by omega) (by omega)) (hE 51 (by omega) (by omega)) (fun _ _ => rfl) rfl rfl
  exact ⟨len, T, h0, oK_rows (fun k hk => hE k (by omega) (by omega)) h1, iH_rows (hE 60 (by omega) (by omega)) (fun k _ _ => hE k (by omega) (by omega)) rfl rfl h2, iS_rows (hE 60 (by omega) (by omega)) (fun k _ _ => hE k (by omega) (by omega)) rfl rfl h3, rL, rI, rX⟩
