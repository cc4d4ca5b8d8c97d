/-! ===== how many pairs: by trying ===== -/
theorem FF_14 {c : Nat} {v : vW} {P : Nat → Bool} (hv : okV v c) (h14 : c ≤ 14) : FF c v P ≤ 7 := by
  have h1 := FF_half (P := P) hv
  have h2 := cnt_le P c
  omega
theorem clr_rem {x : Int32} {c j : Nat} {v : vW} (h14 : c ≤ 14) (hj : j < c) : FF c v (gb (clr x j)) = FF c v (rem (gb x) j) :=
  FF_congr (fun i hi => by unfold rem; exact clr_b (by omega) (by omega))
theorem clr_rem2 {x : Int32} {c k j : Nat} {v : vW} (h14 : c ≤ 14) (hk : k < c) (hj : j < c) : FF c v (gb (clr (clr x k) j)) = FF c v (rem (rem (gb x) k) j) :=
  FF_congr (fun i hi => by unfold rem; rw [clr_b (by omega) (by omega), clr_b (by omega) (by omega)])
theorem s3_mostPairs {o : Off} {c : Nat} (hc : o 0 0 = nI c) (h14 : c ≤ 14) (hv : okV (cV o) c) : ∀ (d k : Nat) (x : Int32) (post : Int32 → Prop), k ≤ c → c < d + k → small x → (∀ i, i < k → gb x i = false) → post (nI (FF c (cV o) (gb x))) → wp_X3_mostPairs d post o x (nI k) := by
  intro d
  induction d with
  | zero => intro k x post h1 h2; omega
  | succ d ih =>
    intro k x post hkc hd hs hlow hp
    rw [wp_X3_mostPairs, hc]
    by_cases hk : k < c
    case neg =>
      refine iF (fun y => hk ((nI_lti (by omega) (by omega)).mp y)) ?_
      have e : FF c (cV o) (gb x) = 0 := by
        have h1 := FF_half (P := gb x) hv
        have h2 : cnt (gb x) c = 0 := cnt_zero (fun i hi => by rw [hlow i (by omega)]; decide)
        omega
      rw [e] at hp
      exact hp
    refine iT ((nI_lti (by omega) (by omega)).mpr hk) (s3_hasBit (by omega) ?_)
    cases hb : gb x k
    · refine b01 ?_
      show wp_X3_mostPairs d (fun v14 => post v14) o x (nI k + 1)
      rw [nI_add1]
      refine ih (k + 1) x _ (by omega) (by omega) hs (fun i hi => ?_) hp
      by_cases e : i = k
      · rw [e]; exact hb
      · exact hlow i (by omega)
    · refine b11 (fun v2 e2 => s_bitCount hs (fun v4 e4 => ?_))
      have e2 : v2 = clr x k := e2
      subst e2
      have hs2 := small_clr (j := k) (by omega) hs
      have hlow2 : ∀ i, i < k + 1 → gb (clr x k) i = false := fun i hi => by
        rw [clr_b (by omega) (by omega)]
        by_cases e : i = k
        · rw [e]; simp
        · rw [hlow i (by omega)]; rfl
      have hcnt := cnt_le (gb x) 14
      rw [half_n _ (by omega)] at e4
      subst e4
      have hlim : FF c (cV o) (gb x) ≤ cnt (gb x) 14 / 2 := by
        have h1 := FF_half (P := gb x) hv
        have h2 := cnt_mono (P := gb x) h14
        omega
      show wp_X3_mostPairs d _ o (clr x k) (nI k + 1)
      rw [nI_add1]
      refine ih (k + 1) (clr x k) _ (by omega) (by omega) hs2 hlow2 (fun v6 e6 => ⟨c - k, ?_⟩)
      subst e6
      have hF7 : FF c (cV o) (gb x) ≤ 7 := FF_14 hv h14
      have hbe : FF c (cV o) (gb (clr x k)) ≤ FF c (cV o) (gb x) := by
        rw [clr_rem h14 hk]; exact FF_le hv hk hb
      have hwit : FF c (cV o) (gb (clr x k)) = FF c (cV o) (gb x) ∨ ∃ j, k + 1 ≤ j ∧ j < c ∧ gb x j = true ∧ fit (cV o) k j = true ∧ 1 + FF c (cV o) (gb (clr (clr x k) j)) = FF c (cV o) (gb x) := by
        rcases FF_wit (P := gb x) hv hk hb with h | ⟨j, hj, hne, hPj, hf, h⟩
        · left; rw [clr_rem h14 hk]; exact h
        · right
          refine ⟨j, ?_, hj, hPj, hf, ?_⟩
          · by_cases hl : j < k
            · rw [hlow j hl] at hPj; cases hPj
            · omega
          · rw [clr_rem2 h14 hk hj]; exact h
      suffices hl : ∀ (r i b : Nat), i + r = c → k + 1 ≤ i → b ≤ FF c (cV o) (gb x) → (b = FF c (cV o) (gb x) ∨ ∃ j, i ≤ j ∧ j < c ∧ gb x j = true ∧ fit (cV o) k j = true ∧ 1 + FF c (cV o) (gb (clr (clr x k) j)) = FF c (cV o) (gb x)) → wl_X3_mostPairs_58 post o (fun q f k => wp_X3_mostPairs d q o f k) (r + 1) (nI k) (clr x k) (nI (cnt (gb x) 14 / 2)) (nI b) (nI i) by
        have := hl (c - (k + 1)) (k + 1) (FF c (cV o) (gb (clr x k))) (by omega) (Nat.le_refl _) hbe hwit
        rw [show c - (k + 1) + 1 = c - k by omega] at this
        exact this
      intro r
      induction r with
      | zero =>
        intro i b hi hki hb1 hw
        rw [wl_X3_mostPairs_58, hc, show i = c by omega]
        refine iT (Int32.le_refl _) ?_
        rcases hw with e | ⟨j, h1, h2, -⟩
        · rw [e]; exact hp
        · omega
      | succ r ihr =>
        intro i b hi hki hb1 hw
        rw [wl_X3_mostPairs_58, hc]
        refine iF (nI_ge (by omega) (by omega)) ?_
        rw [nI_lei (by omega) (by omega)]
        by_cases hpr : cnt (gb x) 14 / 2 ≤ b
        · refine iT hpr ?_
          rw [show b = FF c (cV o) (gb x) by omega]
          exact hp
        refine iF hpr (s3_hasBit (by omega) ?_)
        have hgi : gb (clr x k) i = gb x i := by
          rw [clr_b (by omega) (by omega), decide_eq_false (show ¬ i = k by omega)]; simp
        have hskip : (gb x i = false ∨ fit (cV o) k i = false) → (b = FF c (cV o) (gb x) ∨ ∃ j, i + 1 ≤ j ∧ j < c ∧ gb x j = true ∧ fit (cV o) k j = true ∧ 1 + FF c (cV o) (gb (clr (clr x k) j)) = FF c (cV o) (gb x)) := by
          intro hn
          rcases hw with e | ⟨j, h1, h2, h3, h4, h5⟩
          · exact Or.inl e
          · refine Or.inr ⟨j, ?_, h2, h3, h4, h5⟩
            by_cases e : j = i
            · subst e
              rcases hn with hn | hn
              · rw [hn] at h3; cases h3
              · rw [hn] at h4; cases h4
            · omega
        rw [hgi]
        cases hbi : gb x i
        · refine b00 (fun v8 e8 => ?_)
          rw [nI_add1] at e8
          subst e8
          exact ihr (i + 1) b (by omega) (by omega) hb1 (hskip (Or.inl hbi))
        · refine b10 (s3_match (by omega) (by omega) ?_)
          cases hf : fit (cV o) k i
          · refine b00 (fun v10 e10 => ?_)
            rw [nI_add1] at e10
            subst e10
            exact ihr (i + 1) b (by omega) (by omega) hb1 (hskip (Or.inr hf))
          · refine b10 ?_
            show wp_X3_mostPairs d _ o (clr (clr x k) i) (nI k + 1)
            rw [nI_add1 k]
            refine ih (k + 1) (clr (clr x k) i) _ (by omega) (by omega) (small_clr (by omega) hs2) (fun q hq => ?_) ?_
            · rw [clr_b (by omega) (by omega), hlow2 q hq]; rfl
            · intro v12 e12 v13 e13
              have hpair : 1 + FF c (cV o) (gb (clr (clr x k) i)) ≤ FF c (cV o) (gb x) := by
                rw [clr_rem2 h14 hk (by omega)]
                exact FF_pair hv hk (by omega) hb hbi hf
              rw [nI_add1] at e13
              rw [show (1 : Int32) = nI 1 from rfl, nI_add] at e12
              have e12 : v12 = nI (max b (1 + FF c (cV o) (gb (clr (clr x k) i)))) := by
                rw [e12]
                by_cases hlt : b < 1 + FF c (cV o) (gb (clr (clr x k) i))
                · rw [if_pos ((nI_lti (by omega) (by omega)).mpr hlt), Nat.max_eq_right (by omega)]
                · rw [if_neg (fun y => hlt ((nI_lti (by omega) (by omega)).mp y)), Nat.max_eq_left (by omega)]
              subst e12; subst e13
              refine ihr (i + 1) _ (by omega) (by omega) (by omega) ?_
              rcases hw with e | ⟨j, h1, h2, h3, h4, h5⟩
              · left; omega
              · by_cases e : j = i
                · subst e
                  left; omega
                · exact Or.inr ⟨j, by omega, h2, h3, h4, h5⟩
theorem s3_trying {post : Int32 → Prop} {o : Off} {c : Nat} {d : Int32} (hc : o 0 0 = nI c) (h14 : c ≤ 14) (hv : okV (cV o) c) (h : post (nI (FF c (cV o) (sgl (cV o) d)))) : wp_X3_pairsByTrying post o d := by
  suffices hl : ∀ (r k : Nat) (x : Int32), k + r = c → small x → (∀ i, i < c → gb x i = (sgl (cV o) d i && decide (i < k))) → wl_X3_pairsByTrying_4 post o (r + 1) d x (nI k) from ⟨c + 1, hl c 0 0 (by omega) (fun i _ _ => by unfold gb; simp) (fun i hi => by unfold gb; simp)⟩
  intro r
  induction r with
  | zero =>
    intro k x hk hs hx
    rw [wl_X3_pairsByTrying_4, hc, show k = c by omega]
    refine iT (Int32.le_refl _) (s3_mostPairs hc h14 hv 16 0 x _ (by omega) (by omega) hs (fun i hi => by omega) ?_)
    rw [FF_congr (P := gb x) (Q := sgl (cV o) d) (fun i hi => by rw [hx i hi, decide_eq_true (show i < k by omega), Bool.and_true])]
    exact h
  | succ r ih =>
    intro k x hk hs hx
    rw [wl_X3_pairsByTrying_4, hc]
    refine iF (nI_ge (by omega) (by omega)) (s3_isSingle (by omega) ?_)
    cases hb : sgl (cV o) d k
    · refine b00 (fun v3 e3 => ?_)
      rw [nI_add1] at e3
      subst e3
      refine ih (k + 1) x (by omega) hs (fun i hi => ?_)
      rw [hx i hi]
      by_cases e : i = k
      · subst e; rw [hb]; rfl
      · have : decide (i < k) = decide (i < k + 1) := decide_eq_decide.mpr (by omega)
        rw [this]
    · refine b10 (fun v4 e4 v5 e5 => ?_)
      rw [nI_add1] at e5
      have e4 : v4 = put1 x k := e4
      subst e4; subst e5
      refine ih (k + 1) (put1 x k) (by omega) (fun i h1 h2 => ?_) (fun i hi => ?_)
      · rw [put1_b (by omega) h2, hs i h1 h2, decide_eq_false (show ¬ i = k by omega)]; rfl
      · rw [put1_b (by omega) (by omega), hx i hi]
        by_cases e : i = k
        · subst e; rw [hb]; simp
        · have : decide (i < k) = decide (i < k + 1) := decide_eq_decide.mpr (by omega)
          rw [this, decide_eq_false e, Bool.or_false]
/-! ===== how many pairs: the two countings ===== -/
theorem s3_singles {post : Int32 → Prop} {o : Off} {c s : Nat} {d p : Int32} (hc : o 0 0 = nI c) (h14 : c ≤ 14) (h : post (nI (cc c (cV o) (sgl (cV o) d) s p))) : wp_X3_singles post o d (nI s) p := by
  unfold cc at h
  suffices hl : ∀ r k : Nat, k + r = c → wl_X3_singles_6 post o (r + 1) d (nI s) p (nI (cnt (fun i => sgl (cV o) d i && (decide (cV o i 1 = nI s) && decide (cV o i 0 = p))) k)) (nI k) from ⟨c + 1, hl c 0 (by omega)⟩
  intro r
  induction r with
  | zero =>
    intro k hk
    rw [wl_X3_singles_6, hc, show k = c by omega]
    exact iT (Int32.le_refl _) h
  | succ r ih =>
    intro k hk
    have ih := ih (k + 1) (by omega)
    rw [wl_X3_singles_6, hc]
    refine iF (nI_ge (by omega) (by omega)) (s3_isSingle (by omega) ?_)
    rw [kc (by omega)]
    simp (disch := omega) only [nI_add1, forall_eq]
    cases hb : sgl (cV o) d k
    · rw [cnt_f (by simp [hb])] at ih
      exact b00 ih
    · by_cases e1 : o 2 k = nI s
      · by_cases e2 : o 1 k = p
        · rw [cnt_t (by simp [hb, cV, e1, e2])] at ih
          exact b10 ⟨vpk (by omega) (by omega), jT e1 ⟨vpk (by omega) (by omega), jT e2 ih⟩⟩
        · rw [cnt_f (by simp [hb, cV, e1, e2])] at ih
          exact b10 ⟨vpk (by omega) (by omega), jT e1 ⟨vpk (by omega) (by omega), jF e2 ih⟩⟩
      · rw [cnt_f (by simp [hb, cV, e1])] at ih
        exact b10 ⟨vpk (by omega) (by omega), jF e1 ih⟩
theorem s5_single {post : Int32 → Prop} {M : Off} {c s : Nat} {d p : Int32} (hm : M 1 0 = nI c) (h14 : c ≤ 14) (hp : ∀ k, k < c → (rV M k 7 < 0 ↔ rV M k 7 = -1)) (h : post (nI (cc c (rV M) (sgl (rV M) d) s p))) : wp_X5_single post M d (nI s) p := by
  unfold cc at h
  suffices hl : ∀ r k : Nat, k + r = c → wl_X5_single_6 post M (r + 1) d (nI s) p (nI (cnt (fun i => sgl (rV M) d i && (decide (rV M i 1 = nI s) && decide (rV M i 0 = p))) k)) (nI k) from ⟨c + 1, hl c 0 (by omega)⟩
  intro r
  induction r with
  | zero =>
    intro k hk
    rw [wl_X5_single_6, c0, hm, show k = c by omega]
    exact ⟨i0_160, iT (Int32.le_refl _) h⟩
  | succ r ih =>
    intro k hk
    have ih := ih (k + 1) (by omega)
    rw [wl_X5_single_6, c0, hm]
    refine ⟨i0_160, iF (nI_ge (by omega) (by omega)) (s5_livesIn (by omega) ?_)⟩
    simp (disch := omega) only [nI_add1, nI_add0, forall_eq]
    have hpk := hp k (by omega)
    cases hb : inS (rV M) 3 d k
    · rw [cnt_f (by simp [sgl, hb])] at ih
      exact b00 ih
    · refine b10 (s5_isPaired (by omega) ?_)
      by_cases e0 : rV M k 7 = -1
      · rw [decide_eq_true (hpk.mpr e0)]
        refine b01 (s5_s (f := 1) (by omega) (by decide) ?_)
        by_cases e1 : rV M k 1 = nI s
        · refine jT e1 (s5_s (f := 0) (by omega) (by decide) ?_)
          by_cases e2 : rV M k 0 = p
          · rw [cnt_t (by simp [sgl, hb, e0, e1, e2])] at ih
            exact jT e2 ih
          · rw [cnt_f (by simp [sgl, hb, e0, e1, e2])] at ih
            exact jF e2 ih
        · rw [cnt_f (by simp [sgl, hb, e0, e1])] at ih
          exact jF e1 ih
      · rw [decide_eq_false (fun y => e0 (hpk.mp y))]
        rw [cnt_f (by simp [sgl, hb, e0])] at ih
        exact b11 ih
theorem mod_n : ∀ x, x < 15 → nI x - nI x / 2 * 2 = nI (x % 2) := by decide +kernel
theorem s_len {post : Int32 → Prop} (h : post 4) : wp_J0_length_8abf5 post [114, 103, 98, 119] := by
  unfold wp_J0_length_8abf5 wp_J0_coder_7d493
  exact ⟨fun y => absurd y (by decide), fun _ => h⟩
theorem s_char {post : Int32 → Prop} {i : Nat} {p : Int32} (hi : i < 4) (hp : ((((([114, 103, 98, 119] : List Int32).getD i 0) &&& (255 : Int32))).toUInt32 % 65536).toInt32 = p) (h : post p) : wp_J0_charAt_5068e post [114, 103, 98, 119] (nI i) := by
  refine ⟨fun y => absurd y (by decide), fun _ => jT rfl ⟨fun y => absurd y (by decide), fun _ => ?_⟩⟩
  refine ⟨nI_pos (by omega), (nI_lti (by omega) (by decide)).mpr hi, vpk hi (by decide), u16 _, ?_⟩
  rw [kc (by omega), hp]
  refine ⟨?_, h⟩
  rw [← hp]
  exact u16 _
theorem s3_ofSize {post : Int32 → Prop} {o : Off} {c s : Nat} {d : Int32} (hc : o 0 0 = nI c) (h14 : c ≤ 14) (h : post (nI (ff c (cV o) (sgl (cV o) d) s))) : wp_X3_pairsOfSize post o d (nI s) := by
  have hcc : ∀ p, cc c (cV o) (sgl (cV o) d) s p ≤ 14 := fun p => Nat.le_trans (cnt_le _ _) h14
  have step : ∀ (m i x y : Nat) (p : Int32), i < 3 → ((((([114, 103, 98, 119] : List Int32).getD i 0) &&& (255 : Int32))).toUInt32 % 65536).toInt32 = p → ¬ p = 119 → wl_X3_pairsOfSize_8 post o m d (nI s) (nI (x + cc c (cV o) (sgl (cV o) d) s p / 2)) (nI (y + cc c (cV o) (sgl (cV o) d) s p % 2)) (nI (i + 1)) → wl_X3_pairsOfSize_8 post o (m + 1) d (nI s) (nI x) (nI y) (nI i) := by
    intro m i x y p hi hp hne h
    rw [wl_X3_pairsOfSize_8]
    refine s_len (iF (by rw [show (4 : Int32) = nI 4 from rfl, nI_lei (by omega) (by omega)]; omega) (s_char (by omega) hp (iF hne (s_char (by omega) hp (s3_singles hc h14 (fun v8 e8 v9 e9 v10 e10 => ?_))))))
    rw [half_n _ (by have := hcc p; omega), nI_add] at e8
    rw [mod_n _ (by have := hcc p; omega), nI_add] at e9
    rw [nI_add1] at e10
    subst e8; subst e9; subst e10
    exact h
  refine ⟨5, step 4 0 0 0 114 (by omega) (by decide) (by decide) (step 3 1 _ _ 103 (by omega) (by decide) (by decide) (step 2 2 _ _ 98 (by omega) (by decide) (by decide) ?_))⟩
  rw [wl_X3_pairsOfSize_8]
  refine s_len (iF (by decide) (s_char (i := 3) (p := 119) (by omega) (by decide) (iT rfl (fun v5 e5 => ?_))))
  rw [nI_add1] at e5
  subst e5
  rw [wl_X3_pairsOfSize_8]
  refine s_len (iT (by decide) (s3_singles hc h14 (fun v3 e3 => ?_)))
  unfold ff at h
  have h1 := hcc 114
  have h2 := hcc 103
  have h3 := hcc 98
  have h4 := hcc 119
  generalize cc c (cV o) (sgl (cV o) d) s 114 = r at *
  generalize cc c (cV o) (sgl (cV o) d) s 103 = g at *
  generalize cc c (cV o) (sgl (cV o) d) s 98 = b at *
  generalize cc c (cV o) (sgl (cV o) d) s 119 = w at *
  have e3 : v3 = nI (min w (r % 2 + g % 2 + b % 2)) := by
    rw [e3]
    by_cases hlt : w < 0 + r % 2 + g % 2 + b % 2
    · rw [if_pos ((nI_lti (by omega) (by omega)).mpr hlt), Nat.min_eq_left (by omega)]
    · rw [if_neg (fun y => hlt ((nI_lti (by omega) (by omega)).mp y)), Nat.min_eq_right (by omega), Nat.zero_add]
  subst e3
  rw [nI_sub (by omega), half_n _ (by omega), nI_add, nI_add, Nat.zero_add]
  exact h
theorem FF_ff {c : Nat} {v : vW} {P : Nat → Bool} {s : Nat} (h14 : c ≤ 14) : ff c v P s ≤ 28 := by
  have h1 : cc c v P s 114 ≤ 14 := Nat.le_trans (cnt_le _ _) h14
  have h2 : cc c v P s 103 ≤ 14 := Nat.le_trans (cnt_le _ _) h14
  have h3 : cc c v P s 98 ≤ 14 := Nat.le_trans (cnt_le _ _) h14
  have h4 : cc c v P s 119 ≤ 14 := Nat.le_trans (cnt_le _ _) h14
  have := fpr_half (cc c v P s 114) (cc c v P s 103) (cc c v P s 98) (cc c v P s 119)
  unfold ff
  omega
theorem s3_counting {post : Int32 → Prop} {o : Off} {c : Nat} {d : Int32} (hc : o 0 0 = nI c) (h14 : c ≤ 14) (h : post (nI (FF c (cV o) (sgl (cV o) d)))) : wp_X3_pairsByCounting post o d := by
  suffices hl : ∀ r k : Nat, k + r = 9 → wl_X3_pairsByCounting_4 post o (r + 1) d (nI (sumN (ff c (cV o) (sgl (cV o) d)) k)) (nI (k + 1)) from ⟨10, hl 9 0 rfl⟩
  intro r
  induction r with
  | zero =>
    intro k hk
    rw [wl_X3_pairsByCounting_4, show k = 9 by omega]
    exact iT (by decide) h
  | succ r ih =>
    intro k hk
    have ih := ih (k + 1) (by omega)
    rw [wl_X3_pairsByCounting_4]
    refine iF (by rw [show (9 : Int32) = nI 9 from rfl, nI_lti (by omega) (by omega)]; omega) (s3_ofSize hc h14 (fun v2 e2 v3 e3 => ?_))
    rw [nI_add] at e2
    rw [nI_add1] at e3
    subst e2; subst e3
    exact ih
theorem s5_possible_l {post : Int32 → Off → Prop} {M : Off} {c : Nat} {d : Int32} (hm : M 1 0 = nI c) (h14 : c ≤ 14) (hp : ∀ k, k < c → (rV M k 7 < 0 ↔ rV M k 7 = -1)) (h : post (nI (FF c (rV M) (sgl (rV M) d))) M) : ∃ m : Nat, wl_X5_possible_17 post m M d 0 1 := by
  suffices hl : ∀ r k : Nat, k + r = 9 → wl_X5_possible_17 post (r + 1) M d (nI (sumN (ff c (rV M) (sgl (rV M) d)) k)) (nI (k + 1)) from ⟨10, hl 9 0 rfl⟩
  intro r
  induction r with
  | zero =>
    intro k hk
    rw [wl_X5_possible_17, show k = 9 by omega]
    exact iT (by decide) h
  | succ r ih =>
    intro k hk
    have ih := ih (k + 1) (by omega)
    rw [wl_X5_possible_17]
    refine iF (by rw [show (10 : Int32) = nI 10 from rfl, nI_lei (by omega) (by omega)]; omega) (s5_single hm h14 hp (s5_single hm h14 hp (s5_single hm h14 hp (s5_single hm h14 hp (fun v8 e8 => ?_)))))
    have hcc : ∀ p, cc c (rV M) (sgl (rV M) d) (k + 1) p ≤ 14 := fun p => Nat.le_trans (cnt_le _ _) h14
    have hx : sumN (ff c (rV M) (sgl (rV M) d)) (k + 1) = sumN (ff c (rV M) (sgl (rV M) d)) k + fpr (cc c (rV M) (sgl (rV M) d) (k + 1) 114) (cc c (rV M) (sgl (rV M) d) (k + 1) 103) (cc c (rV M) (sgl (rV M) d) (k + 1) 98) (cc c (rV M) (sgl (rV M) d) (k + 1) 119) := rfl
    rw [hx] at ih
    have h1 := hcc 114
    have h2 := hcc 103
    have h3 := hcc 98
    have h4 := hcc 119
    generalize cc c (rV M) (sgl (rV M) d) (k + 1) 114 = r1 at *
    generalize cc c (rV M) (sgl (rV M) d) (k + 1) 103 = g at *
    generalize cc c (rV M) (sgl (rV M) d) (k + 1) 98 = b at *
    generalize cc c (rV M) (sgl (rV M) d) (k + 1) 119 = w at *
    rw [mod_n _ (by omega), mod_n _ (by omega), mod_n _ (by omega), nI_add, nI_add] at e8
    subst e8
    have key : ∀ q : Nat, q = min w (r1 % 2 + g % 2 + b % 2) → wj_X5_possible_93 post (fun o x1 x2 x3 => wl_X5_possible_17 post (r + 1) o x1 x2 x3) M d (nI (sumN (ff c (rV M) (sgl (rV M) d)) k)) (nI (k + 1)) (nI r1) (nI g) (nI b) (nI w) (nI q) := by
      intro q hq v9 e9 v10 e10
      rw [half_n _ (by omega), half_n _ (by omega), half_n _ (by omega), nI_sub (by omega), half_n _ (by omega), nI_add, nI_add, nI_add, nI_add, nI_add] at e9
      rw [nI_add1] at e10
      subst e9; subst e10
      rw [hq]
      exact ih
    rw [nI_lei (by omega) (by omega)]
    by_cases hle : w ≤ r1 % 2 + g % 2 + b % 2
    · exact iT hle (key w (by omega))
    · exact iF hle (key _ (by omega))
theorem okV_E {E : Off} {n : Nat → Int32} {c T : Nat} (hR : rE E n c) (hV : vN n c T) : okV (cV E) c := fun i hi => by
  obtain ⟨g0, g1, -⟩ := rE_v hR i hi
  obtain ⟨w1, w2, -⟩ := vN_v hV i hi
  rw [g0, g1]
  exact ⟨w1, w2⟩
theorem FF_eq {E : Off} {n : Nat → Int32} {c T : Nat} {d : Int32} (hR : rE E n c) (hV : vN n c T) : FF c (cV E) (sgl (cV E) d) = FF c (nV n) (sgl (nV n) d) := by
  refine sumN_congr 9 (fun s _ => ?_)
  have hc : ∀ p, cc c (cV E) (sgl (cV E) d) s p = cc c (nV n) (sgl (nV n) d) s p := fun p => cnt_congr (fun i hi => by
    obtain ⟨g0, g1, g2, g7, -⟩ := rE_v hR i hi
    unfold sgl
    rw [inS_eq (rE_v hR) (by decide) hi, g0, g1, g7])
  unfold ff
  rw [hc, hc, hc, hc]
theorem s5_possible {post : Int32 → Off → Prop} {M : Off} {c T : Nat} {p : Int32} (hm : M 1 0 = nI c) (hV : vN (M 1) c T) (h : (isD p = true → post (nI (FF c (rV M) (sgl (rV M) p))) (st M 0 5 0)) ∧ (isD p = false → post 0 (st M 0 5 1))) : wp_X5_possible post M p := by
  cases hd : isD p
  · exact ckD_f hd (h.2 hd)
  · refine ckD_t hd (s5_possible_l (M := st M 0 5 0) hm hV.1 (fun k hk => par_lt hV hk) (h.1 hd))
theorem op_26 {j : Nat} {E M : Off} {z : Nat → Int64} {zd : Nat → UInt64} {a1 a2 a3 : Int32} (hj : j < 512) (hI : inv j E M) : wc_26 (lwInv (j + 1)) E M z zd a1 a2 a3 := by
  obtain ⟨c, T, hc, hm, h14, hR, hV⟩ := inv_c hI
  cases hd : isD a1
  · exact s4_drawer_f hd ⟨rfl, s5_possible hm hV ⟨fun y => absurd (hd.symm.trans y) (by decide), fun _ => fin_x i1ne (by simp [st_at]) (inv_t 1 hI)⟩⟩
  · refine s4_drawer_t hd (s3_trying hc h14 (okV_E hR hV) (s5_possible hm hV ⟨fun _ => fin_i (by simp [st_at]) ?_ (inv_t 0 hI), fun y => absurd (hd.symm.trans y) (by decide)⟩))
    rw [FF_eq hR hV]
    rfl
theorem op_27 {j : Nat} {E M : Off} {z : Nat → Int64} {zd : Nat → UInt64} {a1 a2 a3 : Int32} (hj : j < 512) (hI : inv j E M) : wc_27 (lwInv (j + 1)) E M z zd a1 a2 a3 := by
  obtain ⟨c, T, hc, hm, h14, hR, hV⟩ := inv_c hI
  cases hd : isD a1
  · exact s4_drawer_f hd ⟨rfl, s5_possible hm hV ⟨fun y => absurd (hd.symm.trans y) (by decide), fun _ => fin_x i1ne (by simp [st_at]) (inv_t 1 hI)⟩⟩
  · refine s4_drawer_t hd (s3_counting hc h14 (s5_possible hm hV ⟨fun _ => fin_i (by simp [st_at]) ?_ (inv_t 0 hI), fun y => absurd (hd.symm.trans y) (by decide)⟩))
    rw [FF_eq hR hV]
    rfl
theorem op_49 {j : Nat} {E M : Off} {z : Nat → Int64} {zd : Nat → UInt64} {a1 a2 a3 : Int32} (hj : j < 512) (hI : inv j E M) : wc_49 (lwInv (j + 1)) E M z zd a1 a2 a3 := by
  obtain ⟨c, T, hc, hm, h14, hR, hV⟩ := inv_c hI
  have hr : ∀ Q : Int32 → Off → Prop, Q 1 (st M 0 5 0) → wp_X5_isConsistent Q M := fun Q h o1 e1 => by
    subst e1
    exact jT rfl h
  have ha : ∀ post : Int32 → Prop, post 1 → wp_X3_countsAgree post E := by
    intro post h
    suffices hl : ∀ r k : Nat, k + r = 5 → wl_X3_countsAgree_2 post E (r + 1) (nI k) from ⟨6, hl 5 0 rfl⟩
    intro r
    induction r with
    | zero =>
      intro k hk
      rw [wl_X3_countsAgree_2, i5le (by omega)]
      exact iT (by omega) h
    | succ r ih =>
      intro k hk
      rw [wl_X3_countsAgree_2, i5le (by omega)]
      refine iF (by omega) (s3_trying hc h14 (okV_E hR hV) (s3_counting hc h14 (iT rfl (fun v3 e3 => ?_))))
      rw [nI_add1] at e3
      subst e3
      exact ih (k + 1) (by omega)
  have hs : ∀ post : Int32 → Prop, post 1 → wp_X3_pairsAreSound post E := by
    intro post h
    suffices hl : ∀ r k : Nat, k + r = c → wl_X3_pairsAreSound_2 post E (r + 1) (nI k) from ⟨c + 1, hl c 0 (by omega)⟩
    intro r
    induction r with
    | zero =>
      intro k hk
      rw [wl_X3_pairsAreSound_2, hc, show k = c by omega]
      exact iT (Int32.le_refl _) h
    | succ r ih =>
      intro k hk
      have ih := ih (k + 1) (by omega)
      have hkc : k < c := by omega
      rw [wl_X3_pairsAreSound_2, hc, kc (by omega)]
      refine iF (nI_ge (by omega) (by omega)) ⟨vpk (by omega) (by omega), ?_⟩
      simp (disch := omega) only [nI_add1, forall_eq]
      have e7 := vE_7 hR hkc
      by_cases e : E 8 k = -1
      · exact iT e ih
      · refine iF e ⟨vpk (by omega) (by omega), ?_⟩
        rcases (vN_v hV k hkc).2.2.2.2.2.2 with hal | ⟨p, p1, p2, p3, p4, p5, p6, p7⟩
        · exact absurd (e7.trans hal) e
        · have ep : E 8 k = nI p := e7.trans p2
          have e72 : E 8 p = nI k := (vE_7 hR p1).trans p3
          have e3 : E 3 k = 3 := (vE_2 hR hkc).trans p4
          rw [ep]
          refine s3_isS hc (isS_k p1 h14) (b10 ⟨vpk (by omega) (by omega), ?_⟩)
          rw [kc (by omega), kc (by omega), e72, e3]
          refine jT rfl (s3_match (by omega) (by omega) ?_)
          rw [fit_eq (rE_v hR) hkc p1, p7]
          refine b10 ⟨vpk (by omega) (by omega), jT rfl ⟨vpk (by omega) (by omega), s3_is (by omega) ?_⟩⟩
          have hin : inS (cV E) 3 (E 4 k) p = true := by
            refine decide_eq_true ⟨(vE_2 hR p1).trans p5, ?_⟩
            have g1 := (rE_v hR k hkc).2.2.2.2.1 (by rw [show nV (M 1) k 2 = 3 from p4]; decide)
            have g2 := (rE_v hR p p1).2.2.2.2.1 (by rw [show nV (M 1) p 2 = 3 from p5]; decide)
            exact g2.trans (p6.symm.trans g1.symm)
          rw [hin]
          exact b10 (l11 ih)
  exact ha _ (l10 (hs _ (l10 (hr _ ⟨rfl, inv_t 0 hI⟩))))
