/-! ===== a change: what both sides keep, how it is rejected, how it is noted ===== -/
theorem s5_copy {post : Off → Prop} {o : Off} {i j : Nat} (f t : Nat) (h1 : 1 ≤ i ∧ i ≤ 5 ∧ 1 ≤ j ∧ j ≤ 5) (hf : f + 160 ≤ lenM i) (ht : t + 160 ≤ lenM j) (hn : i ≠ j ∨ t + 160 ≤ f) (h : post (cpO o i j f t)) : wp_X5_copy post o i j (nI f) (nI t) :=
  ⟨f, t, rfl, rfl, h1.1, h1.2.1, h1.2.2.1, h1.2.2.2, hf, ht, hn, h⟩
def beg (M : Off) : Off := cpO (st M 0 5 0) 1 2 0 0
theorem s5_begin {post : Off → Prop} {M : Off} (h : post (beg M)) : wp_X5_begin post M := by
  intro o1 e
  subst e
  exact s5_copy 0 0 (by decide) (by decide) (by decide) (by decide) h
theorem beg_r (M : Off) (k : Nat) (h0 : k ≠ 0) (h2 : k ≠ 2) : beg M k = M k := by
  funext q
  unfold beg cpO
  rw [if_neg h2]
  rw [st_at, if_neg (fun y => h0 y.1)]
theorem beg_0 (M : Off) (i : Nat) : beg M 0 i = if i = 5 then 0 else M 0 i := by
  unfold beg cpO
  rw [if_neg (by decide), st_at]
  simp only [true_and]
theorem beg_2 (M : Off) (x : Nat) (hx : x < 160) : beg M 2 x = M 1 x := by
  unfold beg cpO
  rw [if_pos rfl, if_pos ⟨by omega, by omega⟩, st_at, if_neg (by omega)]
  congr 1
  omega
theorem same_beg (M : Off) : sameM M (beg M) := by
  refine ⟨beg_r M 1 (by decide) (by decide), beg_r M 4 (by decide) (by decide), beg_r M 5 (by decide) (by decide), beg_r M 6 (by decide) (by decide), beg_r M 7 (by decide) (by decide), fun i h1 _ _ => ?_⟩
  rw [beg_0, if_neg h1]
def newK (kept : Nat) : Nat := if kept = 8 then 8 else kept + 1
def comR (M M1 : Off) (kept : Nat) : Prop := (∀ r, r ≠ 0 → r ≠ 5 → M1 r = M r) ∧ (∀ i, i ≠ 6 → M1 0 i = M 0 i) ∧ M1 0 6 = nI (newK kept) ∧ (∀ q x, q + 1 < newK kept → x < 160 → M1 5 (160 * q + x) = M 5 (160 * (q + (if kept = 8 then 1 else 0)) + x)) ∧ (∀ x, x < 160 → M1 5 (160 * (newK kept - 1) + x) = M 2 x)
theorem n160 (k : Nat) : (160 : Int32) * nI k = nI (160 * k) := by rw [show (160 : Int32) = nI 160 from rfl, nI_mul]
theorem lenM5 : lenM 5 = 1280 := rfl
theorem lenM2 : lenM 2 = 160 := rfl
theorem cpO_0 (o : Off) (i j f t : Nat) (hj : j ≠ 0) (q : Nat) : cpO o i j f t 0 q = o 0 q := by
  unfold cpO
  rw [if_neg (fun y => hj y.symm)]
theorem s5_commit {post : Int32 → Off → Prop} {M : Off} {v : Int32} {kept : Nat} (hk : M 0 6 = nI kept) (h8 : kept ≤ 8) (h : ∀ M1, comR M M1 kept → post v M1) : wp_X5_commit post M v := by
  unfold wp_X5_commit
  rw [hk, show (8 : Int32) = nI 8 from rfl, nI_eqi (by omega) (by omega)]
  refine ⟨fun hn => ?_, fun he => ?_⟩
  · unfold wj_X5_commit_56
    rw [hk, n160]
    refine s5_copy 0 (160 * kept) (by decide) (by decide) (by rw [lenM5]; omega) (Or.inl (by decide)) ?_
    intro o2 e
    subst e
    refine h _ ⟨fun r h0 h5 => ?_, fun i hi => ?_, ?_, fun q x hq hx => ?_, fun x hx => ?_⟩
    · funext q
      rw [st_at, if_neg (fun y => h0 y.1)]
      unfold cpO
      rw [if_neg h5]
    · rw [st_at, if_neg (fun y => hi y.2), cpO_0 _ _ _ _ _ (by decide)]
    · rw [st_at, if_pos ⟨rfl, rfl⟩, cpO_0 _ _ _ _ _ (by decide), hk, nI_add1]
      unfold newK
      rw [if_neg hn]
    · unfold newK at hq
      rw [if_neg hn] at hq
      rw [st_at, if_neg (by omega)]
      unfold cpO
      rw [if_pos rfl, if_neg (by omega), if_neg hn]
      rfl
    · unfold newK
      rw [if_neg hn, st_at, if_neg (by omega)]
      unfold cpO
      rw [if_pos rfl, if_pos ⟨by omega, by omega⟩]
      congr 1
      omega
  · subst he
    suffices hl : ∀ (r k : Nat) (o : Off), k + r = 8 → 1 ≤ k → (∀ q, q ≠ 5 → o q = M q) → (∀ q x, q < 8 → x < 160 → o 5 (160 * q + x) = M 5 (160 * (if q + 1 < k then q + 1 else q) + x)) → wl_X5_commit_11 post (r + 1) o v (nI k) from ⟨8, hl 7 1 M (by omega) (by omega) (fun _ _ => rfl) (fun q x hq hx => by rw [if_neg (by omega)])⟩
    intro r
    induction r with
    | zero =>
      intro k o hkr hk1 hr h5
      have ek : k = 8 := by omega
      subst ek
      rw [wl_X5_commit_11]
      refine ⟨fun _ => ?_, fun y => absurd (Int32.le_refl _) y⟩
      intro o3 e3
      subst e3
      have e6 : st o 0 6 (o 0 6 - 1) 0 6 = nI 7 := by rw [st_at, if_pos ⟨rfl, rfl⟩, hr 0 (by decide), hk]; rfl
      unfold wj_X5_commit_56
      rw [e6, n160]
      refine s5_copy 0 (160 * 7) (by decide) (by decide) (by decide) (Or.inl (by decide)) ?_
      intro o2 e
      subst e
      refine h _ ⟨fun r h0 h5' => ?_, fun i hi => ?_, ?_, fun q x hq hx => ?_, fun x hx => ?_⟩
      · funext q
        rw [st_at, if_neg (fun y => h0 y.1)]
        unfold cpO
        rw [if_neg h5', st_at, if_neg (fun y => h0 y.1), hr r h5']
      · rw [st_at, if_neg (fun y => hi y.2), cpO_0 _ _ _ _ _ (by decide), st_at, if_neg (fun y => hi y.2), hr 0 (by decide)]
      · rw [st_at, if_pos ⟨rfl, rfl⟩, cpO_0 _ _ _ _ _ (by decide), e6]
        rfl
      · have hq : q + 1 < 8 := hq
        rw [st_at, if_neg (by omega)]
        unfold cpO
        rw [if_pos rfl, if_neg (by omega), st_at, if_neg (by omega), h5 q x (by omega) hx, if_pos hq, if_pos rfl]
      · rw [show newK 8 = 8 from rfl, st_at, if_neg (by omega)]
        unfold cpO
        rw [if_pos rfl, if_pos ⟨by omega, by omega⟩, st_at, if_neg (by omega), hr 2 (by decide), show 0 + (160 * (8 - 1) + x - 160 * 7) = x by omega]
    | succ r ih =>
      intro k o hkr hk1 hr h5
      rw [wl_X5_commit_11]
      refine ⟨fun y => absurd ((nI_lei (a := 8) (by omega) (by omega)).mp y) (by omega), fun _ => ?_⟩
      rw [n160, show (1 : Int32) = nI 1 from rfl, nI_sub hk1, n160]
      refine s5_copy (160 * k) (160 * (k - 1)) (by decide) (by rw [lenM5]; omega) (by rw [lenM5]; omega) (Or.inr (by omega)) ?_
      intro v5 e5
      subst e5
      rw [nI_add]
      refine ih (k + 1) _ (by omega) (by omega) (fun q hq => ?_) (fun q x hq hx => ?_)
      · unfold cpO
        rw [if_neg hq, hr q hq]
      · unfold cpO
        rw [if_pos rfl]
        by_cases hc : q + 1 = k
        · rw [if_pos ⟨by omega, by omega⟩, show 160 * k + (160 * q + x - 160 * (k - 1)) = 160 * k + x by omega, h5 k x (by omega) hx, if_neg (by omega), if_pos (by omega), hc]
        · rw [if_neg (by omega), h5 q x hq hx]
          by_cases h2 : q + 1 < k
          · rw [if_pos h2, if_pos (by omega)]
          · rw [if_neg h2, if_neg (by omega)]
