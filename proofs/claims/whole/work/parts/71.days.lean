/-! ===== days ===== -/
/-- a visa that is over on day p -/
def lap (w : vW) (p : Int32) (k : Nat) : Bool := decide (w k 2 = 3) && (decide (w k 7 = -1) && decide (w k 6 < p))
theorem lap_eq {v w : vW} {c k : Nat} {p : Int32} (h : vE v w c) (hk : k < c) : lap v p k = lap w p k := by
  obtain ⟨g0, g1, g2, g7, g3, g4, g5, g6⟩ := h k hk
  unfold lap
  rw [g2, g7]
  by_cases e : w k 2 = 3
  · rw [g6 e]
  · rw [decide_eq_false e]; simp only [Bool.false_and]
theorem s3_expires {post : Int32 → Prop} {o : Off} {k : Nat} {p : Int32} (hk : k < 14) (h : post (bI (lap (cV o) p k))) : wp_X3_expires post o (nI k) p := by
  unfold wp_X3_expires
  rw [kc (by omega)]
  unfold lap cV at h
  simp only [Nat.reduceAdd] at h
  refine ⟨vpk hk (by omega), ?_⟩
  by_cases e1 : o 3 k = 3
  · rw [decide_eq_true e1] at h
    refine jT e1 ⟨vpk hk (by omega), ?_⟩
    by_cases e2 : o 8 k = -1
    · rw [decide_eq_true e2] at h
      refine jT e2 ⟨vpk hk (by omega), ?_⟩
      rw [ile]
      by_cases e3 : o 7 k < p
      · rw [decide_eq_true e3] at h
        exact iF (fun y => y e3) h
      · rw [decide_eq_false e3] at h
        exact iT e3 h
    · rw [decide_eq_false e2] at h
      exact jF e2 h
  · rw [decide_eq_false e1] at h
    exact jF e1 h
def expE (t : Int32) : Nat → Nat → Off → Off
  | 0, _, o => o
  | r + 1, k, o => expE t r (k + 1) (if lap (cV o) t k = true then st (st o 3 k 0) 0 4 (o 0 4 + 1) else o)
def advE (c : Nat) : Nat → Off → Off
  | 0, o => o
  | r + 1, o => advE c r (expE (o 0 1 + 1) c 0 (st o 0 1 (o 0 1 + 1)))
theorem expE_rows {t : Int32} : ∀ (r k : Nat) {o o2 : Off}, (∀ i, i < 12 → o2 i = o i) → ∀ i, i < 12 → expE t r k o2 i = expE t r k o i := by
  intro r
  induction r with
  | zero => intro k o o2 h i hi; exact h i hi
  | succ r ih =>
    intro k o o2 h i hi
    have hl : lap (cV o2) t k = lap (cV o) t k := by
      unfold lap cV
      simp only [Nat.reduceAdd]
      rw [h 3 (by omega), h 8 (by omega), h 7 (by omega)]
    rw [expE, expE, hl]
    refine ih (k + 1) (fun q hq => ?_) i hi
    split
    · funext x
      simp only [st_at]
      rw [h q hq, h 0 (by omega)]
    · exact h q hq
theorem advE_rows {c : Nat} : ∀ (r : Nat) {o o2 : Off}, (∀ i, i < 12 → o2 i = o i) → ∀ i, i < 12 → advE c r o2 i = advE c r o i := by
  intro r
  induction r with
  | zero => intro o o2 h i hi; exact h i hi
  | succ r ih =>
    intro o o2 h i hi
    rw [advE, advE, h 0 (by omega)]
    refine ih (fun q hq => expE_rows c 0 (fun q hq => ?_) q hq) i hi
    funext x
    simp only [st_at]
    rw [h q hq]
theorem stepX {o M : Off} {c T k x : Nat} {t : Int32} (hR : rE o (adj 4 M (nI x) 1) c) (hV : vN (adj 4 M (nI x) 1) c T) (hk : k < c) (hl : lap (rV M) t k = true) : rE (st (st o 3 k 0) 0 4 (o 0 4 + 1)) (adj 4 (raway M k) (nI (x + 1)) 1) c ∧ vN (adj 4 (raway M k) (nI (x + 1)) 1) c T := by
  have h14 := hV.1
  have hvv := adj_v 4 (by decide) M (nI x)
  have hav : rV (adj 4 (raway M k) (nI x)) = rV (raway M k) := adj_v 4 (by decide) _ (nI x)
  unfold lap at hl
  rw [Bool.and_eq_true, Bool.and_eq_true] at hl
  have hal : rV M k 7 = -1 := of_decide_eq_true hl.2.1
  obtain ⟨g0, g1, g2, g7, g3, g4, g5, g6⟩ := vE1_of hR hk
  obtain ⟨w1, w2, -⟩ := vV1_of hV hk
  rw [hvv] at g0 g1 g7 w1 w2
  have hup := up1 (O := st o 3 k 0) (M := adj 4 M (nI x)) (M1 := adj 4 (raway M k) (nI x)) hR hV hk (Nat.le_refl T) (fun i _ => by simp [st_at]) (fun r i h1 h8 hi => by simp [st_at, hi]) (fun r h9 h11 => by rw [st_r _ _ _ _ _ (by omega)]) (fun q hq => by
    by_cases e : q = 4
    · subst e
      rw [adj_i, adj_i, raway_o _ _ _ (by omega)]
    · rw [adj_o _ _ _ _ e, adj_o _ _ _ _ e, raway_o _ _ _ hq]) (by
    rw [hav]
    unfold vE1
    simp (disch := decide) only [raway_v]
    simp [cV, st_at]
    exact ⟨g0, g1, g7.trans hal⟩) (by
    rw [hav]
    unfold vV1
    simp (disch := decide) only [raway_v]
    simp
    exact ⟨w1, w2⟩) (Or.inl ⟨by rw [hvv]; exact hal, by rw [hav]; simp (disch := decide) only [raway_v]; simp⟩)
  refine up_st hup.1 hup.2 (Nat.le_refl T) (fun r h0 h12 => st_r _ _ _ _ _ h0) (by rw [st_at, if_neg (by omega)]) (fun q hq => by rw [adj_o _ _ _ _ (by omega), adj_o _ _ _ _ (by omega)]) ?_ ?_ ?_ ?_ ?_
  · rw [st_at, if_neg (by omega), adj_o _ _ _ _ (by decide), hup.1.2.2.1, adj_o _ _ _ _ (by decide)]
  · rw [st_at, if_neg (by omega), adj_o _ _ _ _ (by decide), hup.1.2.2.2.1, adj_o _ _ _ _ (by decide)]
  · rw [st_at, if_neg (by omega), adj_o _ _ _ _ (by decide), hup.1.2.2.2.2.1, adj_o _ _ _ _ (by decide)]
  · rw [st_at, if_pos ⟨rfl, rfl⟩, hR.2.2.2.2.2.1, adj_i, adj_i, raway_o _ _ _ (by omega), Int32.add_assoc, nI_add1]
  · obtain ⟨t, ht, et⟩ := hup.2.2.2.1
    refine ⟨t, ht, ?_⟩
    rw [← et, adj_o _ _ _ _ (by decide), adj_o _ _ _ _ (by decide)]
theorem raway_lap {M : Off} {k i : Nat} {p : Int32} : lap (rV (raway M k)) p i = (if i = k then false else lap (rV M) p i) := by
  unfold lap
  rw [raway_v _ _ _ _ (by decide), raway_v _ _ _ _ (by decide), raway_v _ _ _ _ (by decide)]
  by_cases e : i = k
  · simp [e]
  · simp [e]
theorem expLoop {c T : Nat} {t : Int32} : ∀ (r k : Nat) (o M : Off) (x : Nat), k + r = c → rE o (adj 4 M (nI x) 1) c → vN (adj 4 M (nI x) 1) c T → M 1 1 = t → ∃ (M1 : Off) (x1 : Nat),
    (∀ post : Off → Prop, post (expE t r k o) → wl_X3_expelAll_2 post (r + 1) o (nI k)) ∧ (∀ post K4 a b, K4 M1 a (nI x1) (b + 1) → wl_X5_passes_22 post K4 (r + 1) M a (nI x) b (nI k)) ∧ (∀ i, i ≠ 1 → M1 i = M i) ∧ M1 1 4 = M 1 4 ∧ M1 1 1 = M 1 1 ∧ rE (expE t r k o) (adj 4 M1 (nI x1) 1) c ∧ vN (adj 4 M1 (nI x1) 1) c T ∧ x1 + cnt (lap (rV M) t) k = x + cnt (lap (rV M) t) c ∧ (∀ i p, i < c → lap (rV M1) p i = if k ≤ i ∧ lap (rV M) t i = true then false else lap (rV M) p i) := by
  intro r
  induction r with
  | zero =>
    intro k o M x hk hR hV ht
    have hm : M 1 0 = nI c := by rw [← hR.2.1, adj_o _ _ _ _ (by decide)]
    have e : k = c := by omega
    subst e
    refine ⟨M, x, fun post h => ?_, fun post K4 a b h => ?_, fun _ _ => rfl, rfl, rfl, hR, hV, rfl, fun i p hi => ?_⟩
    · rw [wl_X3_expelAll_2, hR.1]
      exact iT (Int32.le_refl _) h
    · rw [wl_X5_passes_22, c0, hm]
      exact ⟨i0_160, iT (Int32.le_refl _) (fun v3 e3 => by subst e3; exact h)⟩
    · rw [if_neg (by omega)]
  | succ r ih =>
    intro k o M x hk hR hV ht
    have h14 := hV.1
    have hm : M 1 0 = nI c := by rw [← hR.2.1, adj_o _ _ _ _ (by decide)]
    have hvv := adj_v 4 (by decide) M (nI x)
    have hEv : vE (cV o) (rV M) c := by rw [← hvv]; exact rE_v hR
    have hkc : k < c := by omega
    have e1 : o 0 1 = t := by rw [hR.2.2.1, adj_o _ _ _ _ (by decide), ht]
    have hge : ¬ nI c ≤ nI k := nI_ge (by omega) (by omega)
    have hle := lap_eq (p := t) hEv hkc
    have hp : rV M k 7 < 0 ↔ rV M k 7 = -1 := by
      have := par_lt hV hkc
      rw [adj_o _ _ _ _ (by omega)] at this
      exact this
    cases hl : lap (rV M) t k
    · obtain ⟨M1, x1, f1, f2, f3, f4, f5, f6, f7, f8, f9⟩ := ih (k + 1) o M x (by omega) hR hV ht
      have he : expE t (r + 1) k o = expE t r (k + 1) o := by
        rw [expE, hle, hl]; rfl
      rw [he]
      refine ⟨M1, x1, fun post h => ?_, fun post K4 a b h => ?_, f3, f4, f5, f6, f7, ?_, fun i p hi => ?_⟩
      · rw [wl_X3_expelAll_2, hR.1, e1]
        refine iF hge (s3_expires (by omega) ?_)
        rw [hle, hl]
        refine b00 (fun v2 e2 => ?_)
        rw [nI_add1] at e2
        subst e2
        exact f1 post h
      · rw [wl_X5_passes_22, c0, hm]
        refine ⟨i0_160, iF hge ?_⟩
        have hne : ∀ v : Int32, v = nI k + 1 → wl_X5_passes_22 post K4 (r + 1) M a (nI x) b v := by
          intro v e
          rw [nI_add1] at e
          subst e
          exact f2 post K4 a b h
        unfold lap at hl
        by_cases q1 : rV M k 2 = 3
        · rw [decide_eq_true q1] at hl
          refine s5_is_t (by omega) q1 (b10 (s5_isPaired (by omega) ?_))
          by_cases q2 : rV M k 7 = -1
          · rw [decide_eq_true q2] at hl
            rw [decide_eq_true (hp.mpr q2)]
            refine b01 (s5_s (f := 6) (by omega) (by decide) ⟨vp1, ?_⟩)
            rw [c1, ht]
            have q3 : ¬ rV M k 6 < t := by simpa using hl
            exact iF q3 hne
          · rw [decide_eq_false (fun y => q2 (hp.mp y))]
            exact b11 hne
        · exact s5_is_f (by omega) q1 (b00 hne)
      · rw [cnt_f (by rw [hl]; decide)] at f8
        exact f8
      · rw [f9 i p hi]
        by_cases e : i = k
        · subst e
          rw [if_neg (by omega), if_neg (by rw [hl]; simp)]
        · by_cases e2 : k ≤ i
          · by_cases e3 : lap (rV M) t i = true
            · rw [if_pos ⟨by omega, e3⟩, if_pos ⟨e2, e3⟩]
            · rw [if_neg (fun y => e3 y.2), if_neg (fun y => e3 y.2)]
          · rw [if_neg (by omega), if_neg (fun y => e2 y.1)]
    · obtain ⟨hR1, hV1⟩ := stepX hR hV hkc hl
      have ht1 : raway M k 1 1 = t := by rw [raway_o _ _ _ (by omega)]; exact ht
      obtain ⟨M1, x1, f1, f2, f3, f4, f5, f6, f7, f8, f9⟩ := ih (k + 1) _ (raway M k) (x + 1) (by omega) hR1 hV1 ht1
      have he : expE t (r + 1) k o = expE t r (k + 1) (st (st o 3 k 0) 0 4 (o 0 4 + 1)) := by
        rw [expE, hle, hl]; rfl
      rw [he]
      refine ⟨M1, x1, fun post h => ?_, fun post K4 a b h => ?_, fun i hi => (f3 i hi).trans (raway_r _ _ _ hi), f4.trans (raway_o _ _ _ (by omega)), f5.trans (raway_o _ _ _ (by omega)), f6, f7, ?_, fun i p hi => ?_⟩
      · rw [wl_X3_expelAll_2, hR.1, e1]
        refine iF hge (s3_expires (by omega) ?_)
        rw [hle, hl, kc (by omega)]
        refine b10 ⟨vpk (by omega) (by omega), fun o3 e3 o4 e4 v5 e5 => ?_⟩
        rw [nI_add1] at e5
        subst e3
        rw [st_r _ _ _ _ 0 (by omega)] at e4
        subst e4; subst e5
        exact f1 post h
      · rw [wl_X5_passes_22, c0, hm]
        refine ⟨i0_160, iF hge ?_⟩
        have hl2 := hl
        unfold lap at hl2
        rw [Bool.and_eq_true, Bool.and_eq_true] at hl2
        obtain ⟨q1, q2, q3⟩ := hl2
        refine s5_is_t (by omega) (of_decide_eq_true q1) (b10 (s5_isPaired (by omega) ?_))
        rw [decide_eq_true (hp.mpr (of_decide_eq_true q2))]
        refine b01 (s5_s (f := 6) (by omega) (by decide) ⟨vp1, ?_⟩)
        rw [c1, ht]
        refine iT (of_decide_eq_true q3) (s5_sendsAway (by omega) (fun v10 e10 v11 e11 => ?_))
        rw [nI_add1] at e10 e11
        subst e10; subst e11
        exact f2 post K4 a b h
      · have a1 : cnt (lap (rV (raway M k)) t) (k + 1) = cnt (lap (rV M) t) k := by
          rw [cnt_f (by rw [raway_lap, if_pos rfl]; decide)]
          exact cnt_congr (fun i hi => by rw [raway_lap, if_neg (by omega)])
        have a2 : cnt (lap (rV M) t) c = cnt (lap (rV (raway M k)) t) c + 1 := cnt_at hkc hl (by rw [raway_lap, if_pos rfl]; decide) (fun i hi => by rw [raway_lap, if_neg hi])
        omega
      · rw [f9 i p hi, raway_lap, raway_lap]
        by_cases e : i = k
        · subst e
          rw [if_neg (by omega), if_pos rfl, if_pos ⟨Nat.le_refl _, hl⟩]
        · rw [if_neg e, if_neg e]
          by_cases e2 : k ≤ i
          · by_cases e3 : lap (rV M) t i = true
            · rw [if_pos ⟨by omega, e3⟩, if_pos ⟨e2, e3⟩]
            · rw [if_neg (fun y => e3 y.2), if_neg (fun y => e3 y.2)]
          · rw [if_neg (by omega), if_neg (fun y => e2 y.1)]
theorem vp4 : vp_in (4 : Int32) 160 := vp_in_d (by decide)
theorem c4 : (4 : Int32).toNatClampNeg = 4 := by decide
theorem passLoop {c n : Nat} (hn : n ≤ 20) : ∀ (r i : Nat) (o M : Off) (x T t : Nat), i + r = n → T + r ≤ 20000 → rE o (adj 4 M (nI x) 1) c → vN (adj 4 M (nI x) 1) c T → M 1 1 = nI t → t ≤ T → ∃ (M1 : Off) (y : Nat),
    (∀ (post : Int32 → Off → Prop) (v1 : Int32), post (advE c r o 0 4 - v1) (advE c r o) → wl_X3_advance_7 post (r + 1) o (nI n) v1 (nI i)) ∧ (∀ post : Int32 → Off → Prop, post (nI y) (adj 4 M1 (nI y)) → wl_X5_passes_4 post (r + 1) M (nI n) (nI x) (nI i)) ∧ (∀ i, i ≠ 1 → M1 i = M i) ∧ M1 1 4 = M 1 4 ∧ rE (advE c r o) (adj 4 M1 (nI y) 1) c ∧ vN (adj 4 M1 (nI y) 1) c (T + r) ∧ y = x + (if r = 0 then 0 else cnt (lap (rV M) (nI (t + r))) c) := by
  intro r
  induction r with
  | zero =>
    intro i o M x T t hi hT0 hR hV ht htT
    refine ⟨M, x, fun post v1 h => ?_, fun post h => ?_, fun _ _ => rfl, rfl, hR, hV, rfl⟩
    · rw [wl_X3_advance_7, show n = i by omega]
      exact iT (Int32.le_refl _) h
    · rw [wl_X5_passes_4, show n = i by omega]
      refine iT (Int32.le_refl _) ⟨vp4, vp4, fun o1 e1 => ?_⟩
      subst e1
      exact h
  | succ r ih =>
    intro i o M x T t hi hT0 hR hV ht htT
    have h14 := hV.1
    have hge : ¬ nI n ≤ nI i := nI_ge (by omega) (by omega)
    have e1 : o 0 1 = nI t := by rw [hR.2.2.1, adj_o _ _ _ _ (by decide), ht]
    have hMv : rV (st M 1 1 (nI (t + 1))) = rV M := by
      funext k f
      show st M 1 1 (nI (t + 1)) 1 (8 + 8 * k + f) = M 1 (8 + 8 * k + f)
      rw [st_at, if_neg (by omega)]
    have hd := up_st (O := st o 0 1 (nI (t + 1))) (n1 := adj 4 (st M 1 1 (nI (t + 1))) (nI x) 1) hR hV (Nat.le_succ T) (fun r h0 h12 => st_r _ _ _ _ _ h0) (by rw [st_at, if_neg (by omega)]) (fun q hq => by
      rw [adj_o _ _ _ _ (by omega), adj_o _ _ _ _ (by omega), st_at, if_neg (by omega)]) (by
      rw [adj_o _ _ _ _ (by decide), st_at, if_pos ⟨rfl, rfl⟩, st_at, if_pos ⟨rfl, rfl⟩]) (by
      rw [st_at, if_neg (by omega), hR.2.2.2.1, adj_o _ _ _ _ (by decide), adj_o _ _ _ _ (by decide), st_at, if_neg (by omega)]) (by
      rw [st_at, if_neg (by omega), hR.2.2.2.2.1, adj_o _ _ _ _ (by decide), adj_o _ _ _ _ (by decide), st_at, if_neg (by omega)]) (by
      rw [st_at, if_neg (by omega), hR.2.2.2.2.2.1, adj_i, adj_i, st_at, if_neg (by omega)]) ⟨t + 1, by omega, by rw [adj_o _ _ _ _ (by decide), st_at, if_pos ⟨rfl, rfl⟩]⟩
    obtain ⟨M1, x1, f1, f2, f3, f4, f5, f6, f7, f8, f9⟩ := expLoop (t := nI (t + 1)) c 0 _ (st M 1 1 (nI (t + 1))) x (by omega) hd.1 hd.2 (by rw [st_at, if_pos ⟨rfl, rfl⟩])
    obtain ⟨M2, y, k1, k2, k3, k4, k5, k6, k7⟩ := ih (i + 1) _ M1 x1 (T + 1) (t + 1) (by omega) (by omega) f6 f7 (by rw [f5, st_at, if_pos ⟨rfl, rfl⟩]) (by omega)
    have ha : advE c (r + 1) o = advE c r (expE (nI (t + 1)) c 0 (st o 0 1 (nI (t + 1)))) := by
      rw [advE, e1, nI_add1]
    rw [ha]
    refine ⟨M2, y, fun post v1 h => ?_, fun post h => ?_, fun q hq => ((k3 q hq).trans (f3 q hq)).trans (st_r _ _ _ _ _ hq), ?_, k5, by rw [show T + (r + 1) = T + 1 + r by omega]; exact k6, ?_⟩
    · rw [wl_X3_advance_7]
      refine iF hge (fun o2 e2 => ⟨c + 1, ?_⟩)
      rw [e1, nI_add1] at e2
      subst e2
      refine f1 _ (fun v4 e4 => ?_)
      rw [nI_add1] at e4
      subst e4
      exact k1 post v1 h
    · rw [wl_X5_passes_4]
      refine iF hge ⟨vp1, vp1, fun o2 e2 => ⟨c + 1, ?_⟩⟩
      rw [c1, ht, nI_add1] at e2
      subst e2
      refine f2 _ _ _ _ ?_
      rw [nI_add1]
      exact k2 post h
    · rw [k4, f4, st_at, if_neg (by omega)]
    · rw [hMv] at f8
      rw [if_neg (by omega)]
      have f8 : x1 = x + cnt (lap (rV M) (nI (t + 1))) c := f8
      by_cases e0 : r = 0
      · subst e0
        rw [if_pos rfl] at k7
        show y = x + cnt (lap (rV M) (nI (t + 1))) c
        omega
      · rw [if_neg e0] at k7
        have hc : cnt (lap (rV M) (nI (t + (r + 1)))) c = cnt (lap (rV M) (nI (t + 1))) c + cnt (lap (rV M1) (nI (t + 1 + r))) c := cnt_add (fun i hi => by
          have hq := f9 i (nI (t + 1 + r)) hi
          rw [hMv] at hq
          by_cases e : lap (rV M) (nI (t + 1)) i = true
          · rw [if_pos ⟨Nat.zero_le _, e⟩] at hq
            have e2 : lap (rV M) (nI (t + (r + 1))) i = true := by
              unfold lap at e ⊢
              rw [Bool.and_eq_true, Bool.and_eq_true] at e ⊢
              refine ⟨e.1, e.2.1, decide_eq_true ?_⟩
              have e3 := of_decide_eq_true e.2.2
              rw [Int32.lt_iff_toInt_lt, nI_toInt (by omega)] at e3 ⊢
              omega
            rw [if_pos e2, if_pos e, hq]
            rfl
          · rw [if_neg (fun y => e y.2)] at hq
            rw [if_neg e, hq, Nat.zero_add, show t + (r + 1) = t + 1 + r by omega])
        omega
abbrev C_y (p0 : Int32) (post : Int32 → Off → Prop) (o : Off) : Prop := wp_X0_passing (fun v => post v o) o p0
abbrev A_y (p0 : Int32) (post : Int32 → Off → Prop) (o : Off) : Prop := wp_X3_advance post o p0
abbrev R_y (p0 : Int32) (F : Int32 → Prop) (J : Off → Prop) (A1 : Int32 → Off → Prop) (o : Off) : Prop := wp_X5_in (fun v2 => ((v2 = 0 → F 1) ∧ (¬ v2 = 0 → wp_X5_passes A1 o p0))) p0 1 20
abbrev R_y2 (p0 : Int32) (F : Int32 → Prop) (J : Off → Prop) (A1 : Int32 → Off → Prop) (o : Off) : Prop := wp_X5_in (fun v2 => ((¬ v2 = 0 → wp_X5_passes A1 o p0) ∧ (v2 = 0 → F 1))) p0 1 20
theorem out_y {E M : Off} {c T : Nat} (hR : rE E (M 1) c) (hV : vN (M 1) c T) (hT0 : T ≤ 10240) (p0 : Int32) : outcN ZT (C_y p0) (A_y p0) (R_y p0) Bm2 E M (T + 20) := by
  have hc := hR.1
  have hm := hR.2.1
  have h14 := hV.1
  by_cases hb : p0 < 1 ∨ 20 < p0
  · refine Or.inl ⟨-2, 1, ⟨rfl, rfl⟩, fun post h => ?_, fun F J A1 h => s5_in_f hb (by first | exact l00 h | exact l01 h)⟩
    show wp_X0_passing (fun v => post v E) E p0
    unfold wp_X0_passing
    rw [ile p0 20]
    by_cases y : p0 < 1
    · exact iT y h
    · exact iF y ⟨fun y2 => absurd (hb.resolve_left y) y2, fun _ => h⟩
  have hb1 : ¬ p0 < 1 := fun y => hb (Or.inl y)
  have hb9 : ¬ 20 < p0 := fun y => hb (Or.inr y)
  obtain ⟨n, hn1, hn20, rfl⟩ := i32_rng (a := 1) (b := 20) hb1 hb9 (by omega) (by omega)
  obtain ⟨t, ht, et⟩ := hV.2.2.1
  have e1 : adj 4 M (nI 0) 1 = M 1 := funext (adj_0 4 M)
  obtain ⟨M1, y, f1, f2, f3, f4, f5, f6, f7⟩ := passLoop (c := c) hn20 n 0 E M 0 T t (by omega) (by omega) (by rw [e1]; exact hR) (by rw [e1]; exact hV) et ht
  refine Or.inr ⟨fun post h => ?_, nI y, adj 4 M1 (nI y), trivial, fun F J A1 h => s5_in_t hb1 hb9 ?_, fun q hq => by unfold adj; rw [st_r _ _ _ _ _ hq]; exact f3 q hq, fun E2 hE2 => ?_⟩
  · show wp_X0_passing (fun v => post v E) E (nI n)
    unfold wp_X0_passing
    rw [ile (nI n) 20]
    exact iF hb1 (iT hb9 h)
  · have := f2 A1 h
    first
    | exact l10 ⟨_, this⟩
    | exact l11 ⟨_, this⟩
  · have hR2 : rE E2 (M 1) c := rE_rows hE2 hR
    have g5 : rE (advE c n E2) (adj 4 M1 (nI y) 1) c := rE_rows (fun k hk => advE_rows n hE2 k hk) f5
    obtain ⟨M1', y', g1, -⟩ := passLoop (c := c) hn20 n 0 E2 M 0 T t (by omega) (by omega) (by rw [e1]; exact hR2) (by rw [e1]; exact hV) et ht
    have f6' := f6
    refine ⟨advE c n E2, fun post h => ?_, ⟨c, g5, ?_⟩⟩
    · intro v1 ev1
      refine ⟨_, g1 post v1 ?_⟩
      have ev : advE c n E2 0 4 - v1 = nI y := by
        rw [ev1, g5.2.2.2.2.2.1, adj_i, f4, hR2.2.2.2.2.2.1, Int32.add_comm, Int32.add_sub_cancel]
      rw [ev]
      exact h
    · obtain ⟨a1, a2, ⟨t2, a3, a4⟩, a5⟩ := f6
      exact ⟨a1, vV_mono a2 (by omega), ⟨t2, by omega, a4⟩, a5⟩
theorem out_y2 {E M : Off} {c T : Nat} (hR : rE E (M 1) c) (hV : vN (M 1) c T) (hT0 : T ≤ 10240) (p0 : Int32) : outcN ZT (C_y p0) (A_y p0) (R_y2 p0) Bm2 E M (T + 20) := by
  have hc := hR.1
  have hm := hR.2.1
  have h14 := hV.1
  by_cases hb : p0 < 1 ∨ 20 < p0
  · refine Or.inl ⟨-2, 1, ⟨rfl, rfl⟩, fun post h => ?_, fun F J A1 h => s5_in_f hb (by first | exact l00 h | exact l01 h)⟩
    show wp_X0_passing (fun v => post v E) E p0
    unfold wp_X0_passing
    rw [ile p0 20]
    by_cases y : p0 < 1
    · exact iT y h
    · exact iF y ⟨fun y2 => absurd (hb.resolve_left y) y2, fun _ => h⟩
  have hb1 : ¬ p0 < 1 := fun y => hb (Or.inl y)
  have hb9 : ¬ 20 < p0 := fun y => hb (Or.inr y)
  obtain ⟨n, hn1, hn20, rfl⟩ := i32_rng (a := 1) (b := 20) hb1 hb9 (by omega) (by omega)
  obtain ⟨t, ht, et⟩ := hV.2.2.1
  have e1 : adj 4 M (nI 0) 1 = M 1 := funext (adj_0 4 M)
  obtain ⟨M1, y, f1, f2, f3, f4, f5, f6, f7⟩ := passLoop (c := c) hn20 n 0 E M 0 T t (by omega) (by omega) (by rw [e1]; exact hR) (by rw [e1]; exact hV) et ht
  refine Or.inr ⟨fun post h => ?_, nI y, adj 4 M1 (nI y), trivial, fun F J A1 h => s5_in_t hb1 hb9 ?_, fun q hq => by unfold adj; rw [st_r _ _ _ _ _ hq]; exact f3 q hq, fun E2 hE2 => ?_⟩
  · show wp_X0_passing (fun v => post v E) E (nI n)
    unfold wp_X0_passing
    rw [ile (nI n) 20]
    exact iF hb1 (iT hb9 h)
  · have := f2 A1 h
    first
    | exact l10 ⟨_, this⟩
    | exact l11 ⟨_, this⟩
  · have hR2 : rE E2 (M 1) c := rE_rows hE2 hR
    have g5 : rE (advE c n E2) (adj 4 M1 (nI y) 1) c := rE_rows (fun k hk => advE_rows n hE2 k hk) f5
    obtain ⟨M1', y', g1, -⟩ := passLoop (c := c) hn20 n 0 E2 M 0 T t (by omega) (by omega) (by rw [e1]; exact hR2) (by rw [e1]; exact hV) et ht
    have f6' := f6
    refine ⟨advE c n E2, fun post h => ?_, ⟨c, g5, ?_⟩⟩
    · intro v1 ev1
      refine ⟨_, g1 post v1 ?_⟩
      have ev : advE c n E2 0 4 - v1 = nI y := by
        rw [ev1, g5.2.2.2.2.2.1, adj_i, f4, hR2.2.2.2.2.2.1, Int32.add_comm, Int32.add_sub_cancel]
      rw [ev]
      exact h
    · obtain ⟨a1, a2, ⟨t2, a3, a4⟩, a5⟩ := f6
      exact ⟨a1, vV_mono a2 (by omega), ⟨t2, by omega, a4⟩, a5⟩
theorem hoN20 {Z : Int32 → Prop} {C A : wT} {R : wR} {B : Int32 → Int32 → Prop} {E M : Off} (h : ∀ {c T : Nat}, rE E ((beg M) 1) c → vN ((beg M) 1) c T → T ≤ 10240 → outcN Z C A R B E (beg M) (T + 20)) : ∀ T, T ≤ 10240 → oK E (M 1) T → ∃ T1, T ≤ T1 ∧ T1 ≤ T + 20 ∧ outcN Z C A R B E (beg M) T1 := by
  rintro T hT0 ⟨c, hR, hV⟩
  have e := beg_r M 1 (by decide) (by decide)
  exact ⟨T + 20, Nat.le_add_right _ _, Nat.le_refl _, h (by rw [e]; exact hR) (by rw [e]; exact hV) hT0⟩
theorem op_39 {j : Nat} {E M : Off} {z : Nat → Int64} {zd : Nat → UInt64} {a1 a2 a3 : Int32} (hj : j < 512) (hI : inv j E M) : wc_39 (lwInv (j + 1)) E M z zd a1 a2 a3 := by
  unfold wc_39 ww_passDays wp_X4_passDays
  exact directN (C := C_y a1) (A := A_y a1) (R := R_y a1) (B := Bm2) (W := fun kx E1 z1 => wp_X5_passDays (fun bx M1 => wp_X5_thrown (fun t => (t = kx ∧ ((kx = 0 → lg_cmp (z1 (0 : Int32).toNatClampNeg) (bx).toInt64 = 0) ∧ lwInv (j + 1) E1 M1 z1 zd))) M1) M a1) hj hI (hoN20 fun hR hV hT0 => out_y hR hV hT0 a1) (fun code n hB => by obtain ⟨rfl, rfl⟩ := hB; exact ⟨i1ne, Or.inr (Or.inl ⟨rfl, fun E1 h => ⟨rfl, h⟩⟩)⟩) (fun _ _ _ h => h) (fun _ _ _ h => h)
/-! ===== forecasts ===== -/
theorem inv_n {j : Nat} {E M M2 : Off} (h : inv j E M) (h1 : ∀ x, x < 160 → M2 1 x = M 1 x) (h4 : M2 4 = M 4) (h5 : M2 5 = M 5) (h6 : M2 6 = M 6) (h7 : M2 7 = M 7) (h0 : ∀ i, i ≠ 5 → i ≠ 11 → i ≠ 12 → M2 0 i = M 0 i) : inv (j + 1) E M2 := by
  have hs : inv (j + 1) E (fun r => if r = 1 then M 1 else M2 r) := inv_same (sameE_rf E) ⟨rfl, h4, h5, h6, h7, h0⟩ h
  obtain ⟨len, T, a1, a2, a3, a4, a5, a6, a7⟩ := hs
  exact ⟨len, T, a1, oK_n h1 a2, a3, a4, a5, a6, a7⟩
theorem cpo_R (o : Off) (a b q : Nat) (h : q ≠ b) : cpO o a b 0 0 q = o q := if_neg h
theorem cpo_T (o : Off) (a b : Nat) {x : Nat} (hx : x < 160) : cpO o a b 0 0 b x = o a x := by
  unfold cpO
  rw [if_pos rfl, if_pos (by omega), Nat.sub_zero, Nat.zero_add]
theorem fore {j : Nat} {E M M1 : Off} {i : Nat} {y v : Int32} (hI : inv j E M) (h : ∀ q, q ≠ 1 → M1 q = cpO (st M 0 5 v) 1 3 0 0 q) : inv (j + 1) E (cpO (adj i M1 y) 3 1 0 0) := by
  have ha : ∀ q, q ≠ 1 → adj i M1 y q = M1 q := fun q hq => st_r _ _ _ _ _ hq
  refine inv_n hI (fun x hx => ?_) ?_ ?_ ?_ ?_ (fun q q1 q2 q3 => ?_)
  · rw [cpo_T _ _ _ hx, ha 3 (by decide), h 3 (by decide), cpo_T _ _ _ hx, st_at, if_neg (by omega)]
  · rw [cpo_R _ _ _ _ (by decide), ha 4 (by decide), h 4 (by decide), cpo_R _ _ _ _ (by decide), st_r _ _ _ _ _ (by decide)]
  · rw [cpo_R _ _ _ _ (by decide), ha 5 (by decide), h 5 (by decide), cpo_R _ _ _ _ (by decide), st_r _ _ _ _ _ (by decide)]
  · rw [cpo_R _ _ _ _ (by decide), ha 6 (by decide), h 6 (by decide), cpo_R _ _ _ _ (by decide), st_r _ _ _ _ _ (by decide)]
  · rw [cpo_R _ _ _ _ (by decide), ha 7 (by decide), h 7 (by decide), cpo_R _ _ _ _ (by decide), st_r _ _ _ _ _ (by decide)]
  · rw [cpo_R _ _ _ _ (by decide), ha 0 (by decide), h 0 (by decide), cpo_R _ _ _ _ (by decide), st_at, if_neg (fun y => q1 y.2)]
theorem s3_expiring {post : Int32 → Prop} {o : Off} {c : Nat} {p : Int32} (hc : o 0 0 = nI c) (h14 : c ≤ 14) (h : post (nI (cnt (lap (cV o) p) c))) : wp_X3_expiring post o p := by
  suffices hl : ∀ r k : Nat, k + r = c → wl_X3_expiring_4 post o (r + 1) p (nI (cnt (lap (cV o) p) k)) (nI k) from ⟨c + 1, hl c 0 (by omega)⟩
  intro r
  induction r with
  | zero =>
    intro k hk
    rw [wl_X3_expiring_4, hc, show k = c by omega]
    exact iT (Int32.le_refl _) h
  | succ r ih =>
    intro k hk
    have ih := ih (k + 1) (by omega)
    rw [wl_X3_expiring_4, hc]
    refine iF (nI_ge (by omega) (by omega)) (s3_expires (by omega) ?_)
    simp (disch := omega) only [nI_add1, forall_eq]
    cases hb : lap (cV o) p k
    · rw [cnt_f (by rw [hb]; decide)] at ih
      exact b00 ih
    · rw [cnt_t hb] at ih
      exact b10 ih
theorem op_41 {j : Nat} {E M : Off} {z : Nat → Int64} {zd : Nat → UInt64} {a1 a2 a3 : Int32} (hj : j < 512) (hI : inv j E M) : wc_41 (lwInv (j + 1)) E M z zd a1 a2 a3 := by
  obtain ⟨len, T, hT, ⟨c, hR, hV⟩, -⟩ := id hI
  have hc := hR.1
  have hm := hR.2.1
  have h14 := hV.1
  unfold wc_41 ww_wouldExpel wp_X4_wouldExpel wp_X0_passing
  rw [ile a1 20]
  by_cases hb : a1 < 1 ∨ 20 < a1
  · have hx : wp_X4_require (fun o2 => wp_X3_expiring (fun v3 => (fun (v1 : Int32) E1 => (fun kx E1 z1 => wp_X5_wouldExpel (fun bx M1 => wp_X5_thrown (fun t => (t = kx ∧ ((kx = 0 → lg_cmp (z1 (0 : Int32).toNatClampNeg) (bx).toInt64 = 0) ∧ lwInv (j + 1) E1 M1 z1 zd))) M1) M a1) 0 E1 (vp_updL z (0 : Int32).toNatClampNeg v1.toInt64)) v3 o2) o2 ((o2 0 1) + a1)) (fun i E1 => (i = 1 ∧ (fun kx E1 z1 => wp_X5_wouldExpel (fun bx M1 => wp_X5_thrown (fun t => (t = kx ∧ ((kx = 0 → lg_cmp (z1 (0 : Int32).toNatClampNeg) (bx).toInt64 = 0) ∧ lwInv (j + 1) E1 M1 z1 zd))) M1) M a1) 1 E1 z)) E (-2) := by
      refine rq_m2 ⟨rfl, s5_in_f hb (s5_checked (b := false) (iF (by decide) (fin_x i1ne rfl (inv_t 1 hI))))⟩
    by_cases y : a1 < 1
    · exact iT y hx
    · exact iF y ⟨fun y2 => absurd (hb.resolve_left y) y2, fun _ => hx⟩
  have hb1 : ¬ a1 < 1 := fun y => hb (Or.inl y)
  have hb9 : ¬ 20 < a1 := fun y => hb (Or.inr y)
  obtain ⟨n, hn1, hn20, rfl⟩ := i32_rng (a := 1) (b := 20) hb1 hb9 (by omega) (by omega)
  obtain ⟨t, ht, et⟩ := hV.2.2.1
  refine iF hb1 (iT hb9 (rq_0 (s3_expiring hc h14 (s5_in_t hb1 hb9 (s5_checked (b := true) (iT (by decide) (s5_copy 0 0 (by omega) (by decide) (by decide) (Or.inl (by decide)) ?_)))))))
  have e1 : adj 4 (cpO (st M 0 5 (bI (!true))) 1 3 0 0) (nI 0) 1 = M 1 := by
    funext q
    rw [adj_0]
    exact congrFun (cpo_R _ 1 3 1 (by decide)) q
  have hcp : (cpO (st M 0 5 (bI (!true))) 1 3 0 0) 1 = M 1 := cpo_R _ 1 3 1 (by decide)
  obtain ⟨M1, y, f1, f2, f3, f4, f5, f6, f7⟩ := passLoop (c := c) hn20 n 0 E (cpO (st M 0 5 (bI (!true))) 1 3 0 0) 0 T t (by omega) (by omega) (by rw [e1]; exact hR) (by rw [e1]; exact hV) (by rw [hcp]; exact et) ht
  refine ⟨_, f2 _ (s5_copy 0 0 (by omega) (by decide) (by decide) (Or.inl (by decide)) (fin_i ?_ ?_ (fore hI f3)))⟩
  · rw [cpO_0 _ _ _ _ _ (by decide)]
    show adj 4 M1 (nI y) 0 5 = 0
    unfold adj
    rw [st_r _ _ _ _ _ (by decide), f3 0 (by decide), cpO_0 _ _ _ _ _ (by decide), st_at, if_pos ⟨rfl, rfl⟩]
    rfl
  · rw [f7, if_neg (by omega), Nat.zero_add, show E 0 1 = nI t by rw [hR.2.2.1, et], nI_add]
    congr 1
    refine cnt_congr (fun i hi => ?_)
    rw [lap_eq (rE_v hR) hi]
    show lap (rV M) _ i = lap (rV (cpO (st M 0 5 (bI (!true))) 1 3 0 0)) _ i
    unfold rV
    rw [hcp]
theorem s3_admissible {post : Int32 → Prop} {o : Off} {c d q : Nat} (hc : o 0 0 = nI c) (h14 : c ≤ 14) (hd : d < 5) (hq : o 9 d = nI q) (hq9 : q ≤ 9) (h : post (nI (min (cnt (fun k => inS (cV o) 1 (nI d) k && !banF (o 10 d) (u16F (o 1 k))) c) (q - cnt (inS (cV o) 3 (nI d)) c)))) : wp_X3_admissible post o (nI d) := by
  suffices hl : ∀ r k : Nat, k + r = c → wl_X3_admissible_4 post o (r + 1) (nI d) (nI (cnt (fun k => inS (cV o) 1 (nI d) k && !banF (o 10 d) (u16F (o 1 k))) k)) (nI k) from ⟨c + 1, hl c 0 (by omega)⟩
  intro r
  induction r with
  | zero =>
    intro k hk
    rw [wl_X3_admissible_4, hc, show k = c by omega, kc (by omega)]
    refine iT (Int32.le_refl _) ⟨vpk hd (by omega), s3_countOf hc h14 (fun v2 e2 => ?_)⟩
    have hl := cnt_le (inS (cV o) 3 (nI d)) c
    have ha := cnt_le (fun k => inS (cV o) 1 (nI d) k && !banF (o 10 d) (u16F (o 1 k))) c
    generalize cnt (inS (cV o) 3 (nI d)) c = l at *
    generalize cnt (fun k => inS (cV o) 1 (nI d) k && !banF (o 10 d) (u16F (o 1 k))) c = a at *
    have e3 : v2 = nI (q - l) := by
      rw [e2, hq]
      by_cases hlq : l ≤ q
      · rw [nI_sub hlq]
        by_cases e0 : q - l = 0
        · rw [e0]; rfl
        · rw [if_pos]
          rw [show (0 : Int32) = nI 0 from rfl, nI_lti (by omega) (by omega)]
          omega
      · rw [if_neg, show q - l = 0 by omega]
        · rfl
        · rw [Int32.lt_iff_toInt_lt, Int32.toInt_sub, nI_toInt (by omega), nI_toInt (by omega), Int32.toInt_zero, Int.bmod_eq_of_le (by omega) (by omega)]
          omega
    rw [e3]
    have e4 : (if nI (q - l) < nI a then nI (q - l) else nI a) = nI (min a (q - l)) := by
      by_cases hh : q - l < a
      · rw [if_pos ((nI_lti (by omega) (by omega)).mpr hh), Nat.min_eq_right (by omega)]
      · rw [if_neg (fun y => hh ((nI_lti (by omega) (by omega)).mp y)), Nat.min_eq_left (by omega)]
    rw [e4]
    exact h
  | succ r ih =>
    intro k hk
    have ih := ih (k + 1) (by omega)
    rw [wl_X3_admissible_4, hc]
    refine iF (nI_ge (by omega) (by omega)) (s3_is (by omega) ?_)
    simp (disch := omega) only [nI_add1, forall_eq]
    cases hb : inS (cV o) 1 (nI d) k
    · rw [cnt_f (by simp [hb])] at ih
      exact b00 ih
    · refine b10 (s3_colourAt (by omega) (s3_bans hd ?_))
      cases hs : banF (o 10 d) (u16F (o 1 k))
      · rw [cnt_t (by simp [hb, hs])] at ih
        exact b01 ih
      · rw [cnt_f (by simp [hb, hs])] at ih
        exact b11 ih
theorem op_17 {j : Nat} {E M : Off} {z : Nat → Int64} {zd : Nat → UInt64} {a1 a2 a3 : Int32} (hj : j < 512) (hI : inv j E M) : wc_17 (lwInv (j + 1)) E M z zd a1 a2 a3 := by
  obtain ⟨c, T, hc, hm, h14, hR, hV⟩ := inv_c hI
  cases hd : isD a1
  · exact s4_drawer_f hd ⟨rfl, ckD_f hd (fin_x i1ne (by simp [st_at]) (inv_t 1 hI))⟩
  obtain ⟨d, hd5, rfl⟩ := isD_c hd
  obtain ⟨q, hq9, eq⟩ := hV.2.2.2.1 d hd5
  obtain ⟨b, hb, eb⟩ := hV.2.2.2.2.1 d hd5
  have h9 : E 9 d = nI q := by rw [(hR.2.2.2.2.2.2.2.1 d hd5).1, eq]
  have h10 : E 10 d = nI b := by rw [(hR.2.2.2.2.2.2.2.1 d hd5).2, eb]
  refine s4_drawer_t hd (s3_admissible hc h14 hd5 h9 hq9 (ckD_t hd (s5_copy 0 0 (by omega) (by decide) (by decide) (Or.inl (by decide)) ?_)))
  have e1 : adj 2 (cpO (st M 0 5 0) 1 3 0 0) (nI 0) 1 = M 1 := by
    funext q
    rw [adj_0]
    exact congrFun (cpo_R _ 1 3 1 (by decide)) q
  have hcp : (cpO (st M 0 5 0) 1 3 0 0) 1 = M 1 := cpo_R _ 1 3 1 (by decide)
  obtain ⟨M1, y, f1, f2, f3, f4, f5, f6⟩ := decLoop (T := T) hd5 _ E (cpO (st M 0 5 0) 1 3 0 0) 0 (by rw [e1]; exact hR) (by rw [e1]; exact hV) rfl (by rw [hcp]; exact eq) hq9
  refine ⟨_, f1 _ (s5_copy 0 0 (by omega) (by decide) (by decide) (Or.inl (by decide)) (fin_i ?_ ?_ (fore hI f2)))⟩
  · rw [cpO_0 _ _ _ _ _ (by decide)]
    show adj 2 M1 (nI y) 0 5 = 0
    unfold adj
    rw [st_r _ _ _ _ _ (by decide), f2 0 (by decide), cpO_0 _ _ _ _ _ (by decide), st_at, if_pos ⟨rfl, rfl⟩]
  · rw [f6, Nat.zero_add]
    have hrv : rV (cpO (st M 0 5 0) 1 3 0 0) = rV M := by
      unfold rV
      rw [hcp]
    rw [hrv, hcp, cntS_eq (rE_v hR) (by decide) (Nat.le_refl c)]
    congr 2
    refine cnt_congr (fun k hk => ?_)
    have w1 := (vV1_of hV hk).1
    unfold okA
    rw [h10, show E 1 k = rV M k 0 from (vE1_of hR hk).1, (col_yes w1).2, banP hb w1, eb]
    by_cases e : inS (rV M) 1 (nI d) k = true
    · rw [inS_eq (rE_v hR) (by decide) hk]
      rfl
    · rw [inS_eq (rE_v hR) (by decide) hk]
      rfl
