/-! ===== writeSock ===== -/
theorem s4_zero {post : Off → Prop} {E : Off} {ol : Nat} (h1 : E 50 1 = 0) (h3 : E 50 3 = nI ol) (hl : ol ≤ 16) (h : ∀ E1, CA E E1 [] → post E1) : wp_J4_setLength_d00df (fun o2 => (∀ o3 : Off, o3 = put E 50 2 o2 → post o3)) (sh E 50) 0 := by
  refine iT (by decide) (jb_room (n := 0) h1 (by omega) ?_)
  have h30 : sh E 50 0 3 = nI ol := h3
  rw [h30]
  have fin : ∀ o1 : Off, (∀ q, q ≠ 2 → o1 0 q = E 50 q) → wj_J5_setLength_d00df_76 (fun o2 => (∀ o3 : Off, o3 = put E 50 2 o2 → post o3)) o1 0 := by
    intro o1 f1 o2 e2 o3 e3
    refine h o3 ⟨fun k k0 k1 => by rw [e3, put_hi (by omega)], ?_, ?_, fun i hi => absurd hi (Nat.not_lt_zero i)⟩
    · rw [e3, put_at, if_pos ⟨by omega, by omega⟩, e2, st_at, if_neg (by omega)]
      exact (f1 1 (by decide)).trans h1
    · rw [e3, put_at, if_pos ⟨by omega, by omega⟩, e2, st_at, if_pos ⟨rfl, rfl⟩]
      rfl
  refine iT (by rw [ile]; exact nI_pos (by omega)) ?_
  by_cases e : nI ol ≤ 0
  · exact iT e (fin _ (fun q _ => rfl))
  · refine iF e (fun o3 e3 => fin o3 (fun q hq => ?_))
    rw [e3, st_at, if_neg (fun y => hq y.2)]
    rfl
theorem dg_c {n : Nat} (h : n < 100000) : ∀ c ∈ dg n, c < 128 := by
  intro c hc
  unfold dg at hc
  split at hc
  · simp at hc; omega
  split at hc
  · simp at hc; omega
  split at hc
  · simp at hc; omega
  split at hc
  · simp at hc; omega
  · simp at hc; omega
theorem dg_1 {n : Nat} (h : n < 10) : (dg n).length = 1 := by unfold dg; rw [if_pos h]; rfl
theorem dg_2 {n : Nat} (h : n < 100) : (dg n).length ≤ 2 := by
  unfold dg
  by_cases h1 : n < 10
  · rw [if_pos h1]; simp
  · rw [if_neg h1, if_pos h]; simp
theorem dg_5 {n : Nat} : (dg n).length ≤ 5 := by
  unfold dg
  split
  · simp
  split
  · simp
  split
  · simp
  split
  · simp
  · simp
def all8 (L : List Nat) : Prop := ∀ c ∈ L, c < 128
theorem all8_app {L ds : List Nat} (h1 : all8 L) (h2 : all8 ds) : all8 (L ++ ds) := by
  intro c hc
  rcases List.mem_append.mp hc with h | h
  · exact h1 c h
  · exact h2 c h
theorem all8_1 {c : Nat} (h : c < 128) : all8 [c] := by
  intro d hd
  rw [List.mem_singleton] at hd
  omega
theorem col_n {p : Int32} (h : isCol p) : ∃ c, c < 128 ∧ p = nI c := by
  rcases h with rfl | rfl | rfl | rfl
  · exact ⟨114, by omega, rfl⟩
  · exact ⟨103, by omega, rfl⟩
  · exact ⟨98, by omega, rfl⟩
  · exact ⟨119, by omega, rfl⟩
theorem fin_w {j : Nat} {E E2 M M2 : Off} {L : List Nat} (hI : inv j E M) (hE : CA E E2 L) (hM : CM (st M 0 5 0) M2 L) (hl : L.length ≤ 16) (h8 : all8 L) : inv (j + 1) E2 M2 := by
  obtain ⟨len, T, hT, hO, hH, hS, hL, hIn, hX⟩ := hI
  obtain ⟨a1, a2, a3, a4⟩ := hE
  obtain ⟨b1, b2, b3, b4⟩ := hM
  have m1 : ∀ r, r ≠ 0 → r ≠ 6 → M2 r = M r := fun r h0 h6 => (b1 r h0 h6).trans (st_r _ _ _ _ _ h0)
  have m0 : ∀ q, q ≠ 5 → q ≠ 15 → M2 0 q = M 0 q := fun q h5 h15 => (b2 q h15).trans (by rw [st_at, if_neg (fun y => h5 y.2)])
  refine ⟨len, T, by omega, ?_, ?_, ?_, ?_, ?_, ⟨L.length, hl, a3, b3, a2, fun i hi => ?_⟩⟩
  · rw [m1 1 (by decide) (by decide)]
    exact oK_rows (fun k hk => a1 k (by omega) (by omega)) hO
  · exact iH_rows (a1 60 (by decide) (by decide)) (fun k _ _ => a1 k (by omega) (by omega)) (m0 6 (by decide) (by decide)) (m1 5 (by decide) (by decide)) hH
  · exact iS_rows (a1 60 (by decide) (by decide)) (fun k _ _ => a1 k (by omega) (by omega)) (m0 13 (by decide) (by decide)) (m1 4 (by decide) (by decide)) hS
  · unfold iL
    rw [a1 13 (by decide) (by decide), m0 7 (by decide) (by decide), m0 8 (by decide) (by decide), m0 9 (by decide) (by decide), m0 10 (by decide) (by decide)]
    exact hL
  · unfold iI
    rw [a1 40 (by decide) (by decide), a1 41 (by decide) (by decide), m0 19 (by decide) (by decide), m1 7 (by decide) (by decide)]
    exact hIn
  · refine ⟨(a4 i hi).trans (b4 i hi).symm, L.getD i 0, ?_, b4 i hi⟩
    have : L.getD i 0 = L[i] := by simp [List.getD, List.getElem?_eq_getElem hi]
    rw [this]
    exact h8 _ (List.getElem_mem hi)
theorem op_50 {j : Nat} {E M : Off} {z : Nat → Int64} {zd : Nat → UInt64} {a1 a2 a3 : Int32} (hj : j < 512) (hI : inv j E M) : wc_50 (lwInv (j + 1)) E M z zd a1 a2 a3 := by
  obtain ⟨len, T, hT, ⟨c, hR, hV⟩, hH, hS, hL, hIn, ⟨ol, x1, x2, x3, x4, x5⟩⟩ := id hI
  have hc := hR.1
  have hm := hR.2.1
  have h14 := hV.1
  cases hs : isS a1 c
  · exact s4_sock_f hc hs ⟨rfl, ckS_f hm h14 hs (fin_x i1ne (by simp [st_at]) (inv_t 1 hI))⟩
  obtain ⟨k, hk, rfl⟩ := isS_c hs h14
  obtain ⟨g0, g1, g2, g7, g3, g4, g5, g6⟩ := vE1_of hR hk
  obtain ⟨w1, ⟨s, s1, s9, es⟩, w3, w4, w5, w6⟩ := vV1_of hV hk
  obtain ⟨p, hp, ep⟩ := col_n w1
  have ecol : u16F (E 1 k) = nI p := by rw [show E 1 k = rV M k 0 from g0, (col_yes w1).2, ep]
  have esz : E 2 k = nI s := (show E 2 k = rV M k 1 from g1).trans es
  have est : E 3 k = rV M k 2 := g2
  have row : ∀ {Mc : Off} {L : List Nat}, CM (st M 0 5 0) Mc L → rV Mc = rV M := fun hC => by
    unfold rV
    rw [hC.1 1 (by decide) (by decide), st_r _ _ _ _ _ (by decide)]
  -- the two roads to the state
  let L1 : List Nat := ((([] ++ dg k) ++ [58]) ++ [p]) ++ dg s
  have hL1 : L1.length ≤ 5 := by
    show (((([] ++ dg k) ++ [58]) ++ [p]) ++ dg s).length ≤ 5
    have h2 := dg_2 (n := k) (by omega)
    have h1 := dg_1 (n := s) (by omega)
    simp only [List.length_append, List.length_cons, List.length_nil]
    omega
  have h8 : all8 L1 := all8_app (all8_app (all8_app (all8_app (fun c hc => by cases hc) (dg_c (by omega))) (all8_1 (by omega))) (all8_1 hp)) (dg_c (by omega))
  have hcl : ∀ {post : Int32 → Off → Prop} {px : Nat → Off → Prop}, (∀ E2 : Off, CA E E2 L1 → ((¬ E2 3 k = 0 → (vp_in (nI k) 14 ∧ ((¬ E2 3 k = 3 → wp_X4_writeApplication (fun o13 => wj_X4_writeSock_101 post px o13) E2 (nI k)) ∧ (E2 3 k = 3 → wp_X4_writeVisa (fun o15 => wj_X4_writeSock_101 post px o15) E2 (nI k))))) ∧ (E2 3 k = 0 → wp_J4_append_cf468 (fun o16 => (∀ o17 : Off, o17 = put E2 50 2 o16 → wj_X4_writeSock_101 post px o17)) (sh E2 50) 45))) → wp_X4_writeSock post px E (nI k) := by
    intro post px h
    refine s4_sock_t hc hs (s4_zero x4 x2 x1 (fun o3 c3 => s4_n c3 (by omega) ?_ (fun o5 c5 => s4_c (ch := 58) c5 ?_ (by omega) (fun o7 c7 => s3_colourAt (by omega) ?_))))
    · have h2 := dg_2 (n := k) (by omega)
      simp only [List.length_nil]; omega
    · have h2 := dg_2 (n := k) (by omega)
      simp only [List.length_append, List.length_nil]; omega
    · rw [c7.1 1 (by decide) (by decide), ecol]
      refine s4_c c7 ?_ hp (fun o10 c10 => ?_)
      · have h2 := dg_2 (n := k) (by omega)
        simp only [List.length_append, List.length_cons, List.length_nil]; omega
      · rw [kc (by omega), c10.1 2 (by decide) (by decide), esz]
        refine ⟨vpk (by omega) (by omega), s4_n c10 (by omega) ?_ (fun o12 c12 => ⟨vpk (by omega) (by omega), h o12 c12⟩)⟩
        have h2 := dg_2 (n := k) (by omega)
        have h1 := dg_1 (n := s) (by omega)
        simp only [List.length_append, List.length_cons, List.length_nil]; omega
  have hrf : ∀ {Q : Int32 → Off → Prop}, (∀ M2 : Off, CM (st M 0 5 0) M2 L1 → wp_X5_is (fun v11 => ((v11 = 0 → wp_X5_is (fun v12 => ((v12 = 0 → wp_X5_is (fun v13 => ((v13 = 0 → wj_X5_writeSock_95 Q M2 (nI k) 64) ∧ (¬ v13 = 0 → wj_X5_writeSock_95 Q M2 (nI k) 120))) M2 (nI k) 2) ∧ (¬ v12 = 0 → wj_X5_writeSock_95 Q M2 (nI k) 63))) M2 (nI k) 1) ∧ (¬ v11 = 0 → wj_X5_writeSock_95 Q M2 (nI k) 45))) M2 (nI k) 0) → wp_X5_writeSock Q M (nI k) := by
    intro Q h
    refine ckS_t hm h14 hs (fun o4 e4 => ?_)
    have c4 : CM (st M 0 5 0) o4 [] := ⟨fun r h0 _ => by rw [e4, st_r _ _ _ _ _ h0], fun q hq => by rw [e4, st_at, if_neg (fun y => hq y.2)], by rw [e4, st_at, if_pos ⟨rfl, rfl⟩]; rfl, fun i hi => absurd hi (Nat.not_lt_zero i)⟩
    have h2 := dg_2 (n := k) (by omega)
    have h1 := dg_1 (n := s) (by omega)
    refine s5_n c4 (by omega) (by simp only [List.length_nil]; omega) (fun o5 c5 => s5_c (ch := 58) c5 (by simp only [List.length_append, List.length_nil]; omega) (fun o6 c6 => s5_s (f := 0) (by omega) (by decide) ?_))
    rw [row c6, ep]
    refine s5_c c6 (by simp only [List.length_append, List.length_cons, List.length_nil]; omega) (fun o8 c8 => s5_s (f := 1) (by omega) (by decide) ?_)
    rw [row c8, es]
    exact s5_n c8 (by omega) (by simp only [List.length_append, List.length_cons, List.length_nil]; omega) (fun o10 c10 => h o10 c10)
  have fin : ∀ {E2 M2 : Off} {L : List Nat}, CA E E2 L → CM (st M 0 5 0) M2 L → L.length ≤ 16 → all8 L → (fun (bx : Int32) (M1 : Off) => wp_X5_thrown (fun t => (t = 0 ∧ (((0 : Int32) = 0 → lg_cmp (vp_updL z (0 : Int32).toNatClampNeg (E2 50 3).toInt64 (0 : Int32).toNatClampNeg) (bx).toInt64 = 0) ∧ lwInv (j + 1) E2 M1 (vp_updL z (0 : Int32).toNatClampNeg (E2 50 3).toInt64) zd))) M1) (M2 0 15) M2 := by
    intro E2 M2 L hE hM hl h8
    exact fin_i (by rw [hM.2.1 5 (by decide), st_at, if_pos ⟨rfl, rfl⟩]) (by rw [hE.2.2.1, hM.2.2.1]) (fin_w hI hE hM hl h8)
  refine hcl (fun E2 c2 => ?_)
  have e23 : E2 3 k = rV M k 2 := by rw [c2.1 3 (by decide) (by decide)]; exact est
  rw [e23]
  rcases w3 with q | q | q | q
  · -- no application
    rw [q]
    refine l01 (s4_c (ch := 45) c2 (by omega) (by omega) (fun E3 c3 => ?_))
    refine hrf (fun M2 d2 => ?_)
    refine s5_is_t (by omega) (by rw [row d2]; exact q) (b10 (s5_c (ch := 45) d2 (by omega) (fun M3 d3 => ?_)))
    refine s5_is_t (by omega) (by rw [row d3]; exact q) (b10 (fin c3 d3 ?_ ?_))
    · rw [List.length_append, List.length_singleton]; omega
    · exact all8_app h8 (all8_1 (by omega))
  · -- asked for
    obtain ⟨d, d5, ed⟩ := w4 (by rw [q]; decide)
    obtain ⟨x, x1', x3', ex⟩ := w5 (Or.inl q)
    have e4 : E 4 k = nI d := (g3 (by rw [q]; decide)).trans ed
    have e5 : E 5 k = nI x := (g4 (Or.inl q)).trans ex
    have h1 := dg_1 (n := d) (by omega)
    have h2 := dg_1 (n := x) (by omega)
    rw [q]
    refine jF (by decide) ⟨vpk (by omega) (by omega), jF (by decide) ?_⟩
    unfold wp_X4_writeApplication
    rw [kc (by omega), e23]
    refine ⟨vpk (by omega) (by omega), jT q ?_⟩
    refine s4_c (ch := 63) c2 (by omega) (by omega) (fun o2 c3 => ?_)
    rw [kc (by omega), c3.1 4 (by decide) (by decide), e4]
    refine ⟨vpk (by omega) (by omega), s4_n c3 (by omega) (by rw [List.length_append, List.length_singleton]; omega) (fun o4 c4 => s4_c (ch := 47) c4 (by simp only [List.length_append, List.length_singleton]; omega) (by omega) (fun o6 c6 => ?_))⟩
    rw [c6.1 5 (by decide) (by decide), e5]
    refine ⟨vpk (by omega) (by omega), s4_n c6 (by omega) (by simp only [List.length_append, List.length_singleton]; omega) (fun o8 c8 => hrf (fun M2 d2 => ?_))⟩
    have r2 : rV M2 k 2 = 1 := by rw [row d2]; exact q
    refine s5_is_f (by omega) (by rw [r2]; decide) (b00 (s5_is_t (by omega) r2 (b10 (s5_c (ch := 63) d2 (by omega) (fun M3 d3 => ?_)))))
    have r3 : rV M3 k 2 = 1 := by rw [row d3]; exact q
    refine s5_is_f (by omega) (by rw [r3]; decide) (b00 (s5_s (f := 3) (by omega) (by decide) ?_))
    rw [row d3, ed]
    refine s5_n d3 (by omega) (by rw [List.length_append, List.length_singleton]; omega) (fun M4 d4 => ?_)
    have r4 : rV M4 k 2 = 1 := by rw [row d4]; exact q
    refine s5_is_f (by omega) (by rw [r4]; decide) (b00 (s5_c (ch := 47) d4 (by simp only [List.length_append, List.length_singleton]; omega) (fun M5 d5' => ?_)))
    have r5 : rV M5 k 2 = 1 := by rw [row d5']; exact q
    refine s5_is_f (by omega) (by rw [r5]; decide) (b00 (s5_s (f := 4) (by omega) (by decide) ?_))
    rw [row d5', ex]
    refine s5_n d5' (by omega) (by simp only [List.length_append, List.length_singleton]; omega) (fun M6 d6 => s5_isPaired (by omega) ?_)
    have hal : rV M k 7 = -1 := alone hV hk (by rw [q]; decide)
    rw [row d6, hal]
    refine b01 (fin c8 d6 ?_ ?_)
    · simp only [List.length_append, List.length_singleton]; omega
    · exact all8_app (all8_app (all8_app (all8_app h8 (all8_1 (by omega))) (dg_c (by omega))) (all8_1 (by omega))) (dg_c (by omega))
  · -- turned down
    obtain ⟨d, d5, ed⟩ := w4 (by rw [q]; decide)
    obtain ⟨x, x1', x3', ex⟩ := w5 (Or.inr q)
    have e4 : E 4 k = nI d := (g3 (by rw [q]; decide)).trans ed
    have e5 : E 5 k = nI x := (g4 (Or.inr q)).trans ex
    have h1 := dg_1 (n := d) (by omega)
    have h2 := dg_1 (n := x) (by omega)
    rw [q]
    refine jF (by decide) ⟨vpk (by omega) (by omega), jF (by decide) ?_⟩
    unfold wp_X4_writeApplication
    rw [kc (by omega), e23, q]
    refine ⟨vpk (by omega) (by omega), jF (by decide) ?_⟩
    refine s4_c (ch := 120) c2 (by omega) (by omega) (fun o2 c3 => ?_)
    rw [kc (by omega), c3.1 4 (by decide) (by decide), e4]
    refine ⟨vpk (by omega) (by omega), s4_n c3 (by omega) (by rw [List.length_append, List.length_singleton]; omega) (fun o4 c4 => s4_c (ch := 47) c4 (by simp only [List.length_append, List.length_singleton]; omega) (by omega) (fun o6 c6 => ?_))⟩
    rw [c6.1 5 (by decide) (by decide), e5]
    refine ⟨vpk (by omega) (by omega), s4_n c6 (by omega) (by simp only [List.length_append, List.length_singleton]; omega) (fun o8 c8 => hrf (fun M2 d2 => ?_))⟩
    have r2 : rV M2 k 2 = 2 := by rw [row d2]; exact q
    refine s5_is_f (by omega) (by rw [r2]; decide) (b00 (s5_is_f (by omega) (by rw [r2]; decide) (b00 (s5_is_t (by omega) r2 (b10 (s5_c (ch := 120) d2 (by omega) (fun M3 d3 => ?_)))))))
    have r3 : rV M3 k 2 = 2 := by rw [row d3]; exact q
    refine s5_is_f (by omega) (by rw [r3]; decide) (b00 (s5_s (f := 3) (by omega) (by decide) ?_))
    rw [row d3, ed]
    refine s5_n d3 (by omega) (by rw [List.length_append, List.length_singleton]; omega) (fun M4 d4 => ?_)
    have r4 : rV M4 k 2 = 2 := by rw [row d4]; exact q
    refine s5_is_f (by omega) (by rw [r4]; decide) (b00 (s5_c (ch := 47) d4 (by simp only [List.length_append, List.length_singleton]; omega) (fun M5 d5' => ?_)))
    have r5 : rV M5 k 2 = 2 := by rw [row d5']; exact q
    refine s5_is_f (by omega) (by rw [r5]; decide) (b00 (s5_s (f := 4) (by omega) (by decide) ?_))
    rw [row d5', ex]
    refine s5_n d5' (by omega) (by simp only [List.length_append, List.length_singleton]; omega) (fun M6 d6 => s5_isPaired (by omega) ?_)
    have hal : rV M k 7 = -1 := alone hV hk (by rw [q]; decide)
    rw [row d6, hal]
    refine b01 (fin c8 d6 ?_ ?_)
    · simp only [List.length_append, List.length_singleton]; omega
    · exact all8_app (all8_app (all8_app (all8_app h8 (all8_1 (by omega))) (dg_c (by omega))) (all8_1 (by omega))) (dg_c (by omega))
  · -- living there
    obtain ⟨d, d5, ed⟩ := w4 (by rw [q]; decide)
    obtain ⟨x, hx, ex⟩ := w6 q
    have e4 : E 4 k = nI d := (g3 (by rw [q]; decide)).trans ed
    have e7 : E 7 k = nI x := (g6 q).trans ex
    have h1 := dg_1 (n := d) (by omega)
    have h2 := dg_5 (n := x)
    rw [q]
    refine jF (by decide) ⟨vpk (by omega) (by omega), jT rfl ?_⟩
    refine s4_c (ch := 64) c2 (by omega) (by omega) (fun o2 c3 => ?_)
    rw [kc (by omega), c3.1 4 (by decide) (by decide), e4]
    refine ⟨vpk (by omega) (by omega), s4_n c3 (by omega) (by rw [List.length_append, List.length_singleton]; omega) (fun o4 c4 => s4_c (ch := 60) c4 (by simp only [List.length_append, List.length_singleton]; omega) (by omega) (fun o6 c6 => ?_))⟩
    rw [c6.1 7 (by decide) (by decide), e7]
    refine ⟨vpk (by omega) (by omega), s4_n c6 (by omega) (by simp only [List.length_append, List.length_singleton]; omega) (fun o8 c8 => ?_)⟩
    rw [c8.1 8 (by decide) (by decide)]
    refine ⟨vpk (by omega) (by omega), ?_⟩
    -- the reference up to the partner
    have hq : ∀ {Q : Int32 → Off → Prop}, (∀ M6 : Off, CM (st M 0 5 0) M6 ((((L1 ++ [64]) ++ dg d) ++ [60]) ++ dg x) → wp_X5_isPaired (fun v23 => ((¬ v23 = 0 → wp_X5_write (fun o24 => wp_X5_s (fun v25 => wp_X5_writeNumber (fun o26 => Q (o26 0 15) o26) o24 v25) o24 (nI k) 7) M6 43) ∧ (v23 = 0 → Q (M6 0 15) M6))) M6 (nI k)) → wp_X5_writeSock Q M (nI k) := by
      intro Q h
      refine hrf (fun M2 d2 => ?_)
      have r2 : rV M2 k 2 = 3 := by rw [row d2]; exact q
      refine s5_is_f (by omega) (by rw [r2]; decide) (b00 (s5_is_f (by omega) (by rw [r2]; decide) (b00 (s5_is_f (by omega) (by rw [r2]; decide) (b00 (s5_c (ch := 64) d2 (by omega) (fun M3 d3 => ?_)))))))
      have r3 : rV M3 k 2 = 3 := by rw [row d3]; exact q
      refine s5_is_f (by omega) (by rw [r3]; decide) (b00 (s5_s (f := 3) (by omega) (by decide) ?_))
      rw [row d3, ed]
      refine s5_n d3 (by omega) (by rw [List.length_append, List.length_singleton]; omega) (fun M4 d4 => ?_)
      have r4 : rV M4 k 2 = 3 := by rw [row d4]; exact q
      refine s5_is_t (by omega) r4 (b10 (s5_c (ch := 60) d4 (by simp only [List.length_append, List.length_singleton]; omega) (fun M5 d5' => ?_)))
      have r5 : rV M5 k 2 = 3 := by rw [row d5']; exact q
      refine s5_is_t (by omega) r5 (b10 (s5_s (f := 6) (by omega) (by decide) ?_))
      rw [row d5', ex]
      exact s5_n d5' (by omega) (by simp only [List.length_append, List.length_singleton]; omega) (fun M6 d6 => h M6 d6)
    have h8b : all8 ((((L1 ++ [64]) ++ dg d) ++ [60]) ++ dg x) := all8_app (all8_app (all8_app (all8_app h8 (all8_1 (by omega))) (dg_c (by omega))) (all8_1 (by omega))) (dg_c (by omega))
    rcases (vN_v hV k hk).2.2.2.2.2.2 with hal | ⟨u, u1, u2, -⟩
    · have hal : rV M k 7 = -1 := hal
      refine iT ((show E 8 k = rV M k 7 from g7).trans hal) (hq (fun M6 d6 => s5_isPaired (by omega) ?_))
      rw [row d6, hal]
      refine b01 (fin c8 d6 ?_ h8b)
      simp only [List.length_append, List.length_singleton]; omega
    · have u2 : rV M k 7 = nI u := u2
      have e8 : E 8 k = nI u := (show E 8 k = rV M k 7 from g7).trans u2
      have hu := dg_2 (n := u) (by omega)
      refine iF (by rw [e8]; exact (nI_eqm (by omega)).mp) (s4_c (ch := 43) c8 (by simp only [List.length_append, List.length_singleton]; omega) (by omega) (fun o10 c10 => ?_))
      rw [c10.1 8 (by decide) (by decide), e8]
      refine ⟨vpk (by omega) (by omega), s4_n c10 (by omega) (by simp only [List.length_append, List.length_singleton]; omega) (fun o12 c12 => hq (fun M6 d6 => s5_isPaired (by omega) ?_))⟩
      rw [row d6, u2, decide_eq_false (show ¬ nI u < 0 from nI_pos (by omega))]
      refine b11 (s5_c (ch := 43) d6 (by simp only [List.length_append, List.length_singleton]; omega) (fun M7 d7 => s5_s (f := 7) (by omega) (by decide) ?_))
      rw [row d7, u2]
      refine s5_n d7 (by omega) (by simp only [List.length_append, List.length_singleton]; omega) (fun M8 d8 => fin c12 d8 ?_ ?_)
      · simp only [List.length_append, List.length_singleton]; omega
      · exact all8_app (all8_app h8b (all8_1 (by omega))) (dg_c (by omega))
