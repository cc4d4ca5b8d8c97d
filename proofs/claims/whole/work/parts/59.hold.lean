/-! ===== what a change does to what holds ===== -/
theorem nV_n {n n1 : Nat → Int32} (h : ∀ x, x < 160 → n1 x = n x) {k f : Nat} (hk : k < 14) (hf : f < 8) : nV n1 k f = nV n k f := h _ (by omega)
theorem oK_n {o : Off} {n n1 : Nat → Int32} {T : Nat} (h : ∀ x, x < 160 → n1 x = n x) (hk : oK o n T) : oK o n1 T := by
  obtain ⟨c, ⟨r1, r2, r3, r4, r5, r6, r7, r8, r9, r10⟩, ⟨v1, v2, v3, v4, v5, v6, v7⟩⟩ := hk
  have e : ∀ k f, k < c → f < 8 → nV n1 k f = nV n k f := fun k f hk hf => nV_n h (by omega) hf
  refine ⟨c, ⟨r1, by rw [h 0 (by omega)]; exact r2, by rw [h 1 (by omega)]; exact r3, by rw [h 2 (by omega)]; exact r4, by rw [h 3 (by omega)]; exact r5, by rw [h 4 (by omega)]; exact r6, fun k hk => ?_, fun d hd => ?_, fun a b hab hb => ?_, r10⟩, ⟨v1, fun k hk => ?_, by rw [h 1 (by omega)]; exact v3, fun d hd => ?_, fun d hd => ?_, fun a b hab hb => ?_, fun a b hab hb => ?_⟩⟩
  · rw [e k 0 hk (by omega), e k 1 hk (by omega), e k 2 hk (by omega), e k 3 hk (by omega), e k 4 hk (by omega), e k 5 hk (by omega), e k 6 hk (by omega), e k 7 hk (by omega)]
    exact r7 k hk
  · rw [h (120 + d) (by omega), h (125 + d) (by omega)]; exact r8 d hd
  · rw [h _ (by omega)]; exact r9 a b hab hb
  · obtain ⟨w1, w2, w3, w4, w5, w6, w7⟩ := v2 k hk
    rw [e k 0 hk (by omega), e k 1 hk (by omega), e k 2 hk (by omega), e k 3 hk (by omega), e k 4 hk (by omega), e k 6 hk (by omega), e k 7 hk (by omega)]
    refine ⟨w1, w2, w3, w4, w5, w6, ?_⟩
    rcases w7 with w | ⟨p, p1, p2, p3, p4, p5, p6, p7⟩
    · exact Or.inl w
    · refine Or.inr ⟨p, p1, p2, by rw [e p 7 p1 (by omega)]; exact p3, p4, by rw [e p 2 p1 (by omega)]; exact p5, by rw [e p 3 p1 (by omega)]; exact p6, ?_⟩
      unfold fit
      rw [e k 0 hk (by omega), e k 1 hk (by omega), e p 0 p1 (by omega), e p 1 p1 (by omega)]
      exact p7
  · rw [h _ (by omega)]; exact v4 d hd
  · rw [h _ (by omega)]; exact v5 d hd
  · rw [h _ (by omega)]; exact v6 a b hab hb
  · rw [h _ (by omega)]; exact v7 a b hab hb
/-- the class's ring after a change: row i taken -/
def keptE (E E1 : Off) (i : Nat) (B : Off) : Prop := E1 60 2 = nI ((i + 1) % 8) ∧ E1 60 3 = (if (8 : Int32) < E 60 3 + 1 then 8 else E 60 3 + 1) ∧ (∀ k, k < 12 → E1 (100 + 20 * i + k) = B k) ∧ (∀ k, 100 ≤ k → k < 260 → (k < 100 + 20 * i ∨ 100 + 20 * i + 12 ≤ k) → E1 k = E k)
theorem newK_i {kept : Nat} (h : kept ≤ 8) : (if (8 : Int32) < nI kept + 1 then 8 else nI kept + 1) = nI (newK kept) := by
  rw [nI_add1, show (8 : Int32) = nI 8 from rfl]
  unfold newK
  by_cases h8 : kept = 8
  · subst h8; rfl
  · rw [if_neg h8, if_neg]
    rw [nI_lti (by omega) (by omega)]
    omega
theorem iH_keep {E M E1 M1 M2 B : Off} {T i : Nat} (hi : i < 8) (e2 : E 60 2 = nI i) (hH : iH E M T) (hE : keptE E E1 i B) (h6 : M2 0 6 = M 0 6) (h5 : M2 5 = M 5) (hB : oK B (M2 2) T) {kept : Nat} (hk : M2 0 6 = nI kept) (h8 : kept ≤ 8) (hM : comR M2 M1 kept) : iH E1 M1 T := by
  obtain ⟨i', kept', a1, a2, a3, a4, a5, a6⟩ := hH
  obtain ⟨b1, b2, b3, b4⟩ := hE
  obtain ⟨c1, c2, c3, c4, c5⟩ := hM
  have ei : i' = i := (nI_eqi (by omega) (by omega)).mp (a3.symm.trans e2)
  subst ei
  have ek : kept' = kept := (nI_eqi (by omega) (by omega)).mp (a5.symm.trans (h6.symm.trans hk))
  subst ek
  have hn : newK kept' ≤ 8 ∧ 1 ≤ newK kept' := by unfold newK; split <;> omega
  refine ⟨(i' + 1) % 8, newK kept', by omega, hn.1, b1, by rw [b2, a4, newK_i a2], c3, fun q hq => ?_⟩
  by_cases hl : q + 1 = newK kept'
  · have ex : ((i' + 1) % 8 + 8 - newK kept' + q) % 8 = i' := by omega
    rw [ex]
    refine oK_rows (fun k hk => b3 k hk) (oK_n (fun x hx => ?_) hB)
    have := c5 x hx
    rw [← hl, Nat.add_sub_cancel] at this
    exact this
  · by_cases hk8 : kept' = 8
    · have en : newK kept' = 8 := by unfold newK; rw [if_pos hk8]
      have ex : ((i' + 1) % 8 + 8 - newK kept' + q) % 8 = (i' + 8 - kept' + (q + 1)) % 8 := by omega
      rw [ex]
      refine oK_rows (sh_eq fun k hk1 hk2 => b4 k (by omega) (by omega) (by omega)) (oK_n (fun x hx => ?_) (a6 (q + 1) (by omega)))
      have := c4 q x (by omega) hx
      rw [if_pos hk8, h5] at this
      exact this
    · have en : newK kept' = kept' + 1 := by unfold newK; rw [if_neg hk8]
      have ex : ((i' + 1) % 8 + 8 - newK kept' + q) % 8 = (i' + 8 - kept' + q) % 8 := by omega
      rw [ex]
      refine oK_rows (sh_eq fun k hk1 hk2 => b4 k (by omega) (by omega) (by omega)) (oK_n (fun x hx => ?_) (a6 q (by omega)))
      have := c4 q x (by omega) hx
      rw [if_neg hk8, h5] at this
      exact this
theorem keepH_r (H o : Off) (i k : Nat) (h : k ≠ 60) : keepH H o i k = put H (100 + 20 * i) 12 o k := by
  funext q
  unfold keepH
  rw [st_at, if_neg (fun y => h y.1), st_at, if_neg (fun y => h y.1)]
theorem keepH_o (H o : Off) (i k : Nat) (h : k ≠ 60) (h2 : k < 100 + 20 * i ∨ 100 + 20 * i + 12 ≤ k) : keepH H o i k = H k := by
  rw [keepH_r _ _ _ _ h, put_at, if_neg (by omega)]
theorem keepH_E {E O B : Off} {i : Nat} : keptE E (put (keepH E B i) 0 12 O) i B := by
  have hp : ∀ k, 12 ≤ k → put (keepH E B i) 0 12 O k = keepH E B i k := fun k hk => by rw [put_at, if_neg (by omega)]
  refine ⟨?_, ?_, fun k hk => ?_, fun k h1 h2 h3 => ?_⟩
  · rw [hp 60 (by omega)]
    unfold keepH
    rw [st_at, if_neg (by omega), st_at, if_pos ⟨rfl, rfl⟩]
  · rw [hp 60 (by omega)]
    unfold keepH
    rw [st_at, if_pos ⟨rfl, rfl⟩]
  · rw [hp _ (by omega), keepH_r _ _ _ _ (by omega), put_at, if_pos (by omega), show 100 + 20 * i + k - (100 + 20 * i) = k by omega]
  · rw [hp _ (by omega), keepH_o _ _ _ _ (by omega) h3]
/-- the reference's state that a change may differ in: row 1, and what was thrown, why, about, before, aside -/
def actM (M M2 : Off) : Prop := M2 4 = M 4 ∧ M2 5 = M 5 ∧ M2 6 = M 6 ∧ M2 7 = M 7 ∧ ∀ i, i ≠ 5 → i ≠ 11 → i ≠ 12 → M2 0 i = M 0 i
theorem inv_keep {j : Nat} {E M M2 M1 O : Off} {i kept T1 len T : Nat} (hT : 20 * len + T ≤ 20 * j) (hO : oK E (M 1) T) (hH : iH E M T) (hS : iS E M T) (hL : iL E M) (hI : iI E M len) (hX : iX E M)
    (hi : i < 8) (e2 : E 60 2 = nI i) (hM2 : actM M M2) (hb : ∀ x, x < 160 → M2 2 x = M 1 x) (hk : M2 0 6 = nI kept) (h8 : kept ≤ 8) (hc : comR M2 M1 kept) (hTT : T ≤ T1) (hT1 : T1 ≤ T + 20) (hN : oK O (M2 1) T1) : inv (j + 1) (put (keepH E E i) 0 12 O) M1 := by
  obtain ⟨m4, m5, m6, m7, m0⟩ := hM2
  have hcc := hc
  obtain ⟨c1, c2, c3, c4, c5⟩ := hcc
  have hp : ∀ k, 12 ≤ k → put (keepH E E i) 0 12 O k = keepH E E i k := fun k hk => by rw [put_at, if_neg (by omega)]
  have hE : ∀ k, 12 ≤ k → k ≠ 60 → (k < 100 ∨ 260 ≤ k) → put (keepH E E i) 0 12 O k = E k := fun k h1 h2 h3 => by
    rw [hp k h1, keepH_o _ _ _ _ h2 (by omega)]
  have hM0 : ∀ q, q ≠ 5 → q ≠ 6 → q ≠ 11 → q ≠ 12 → M1 0 q = M 0 q := fun q h1 h2 h3 h4 => by rw [c2 q h2, m0 q h1 h3 h4]
  obtain ⟨l1, l2, l3, l4, l5, l6⟩ := hL
  obtain ⟨n1, n2, n3, n4⟩ := hI
  obtain ⟨ol, x1, x2, x3, x4, x5⟩ := hX
  refine ⟨len, T1, by omega, ?_, ?_, ?_, ?_, ?_, ?_⟩
  · rw [c1 1 (by decide) (by decide)]
    refine oK_rows (fun k hk => ?_) hN
    rw [put_at, if_pos (by omega)]
    rfl
  · exact iH_mono (iH_keep hi e2 hH keepH_E (m0 6 (by decide) (by decide) (by decide)) m5 (oK_n hb hO) hk h8 hc) hTT
  · refine iS_mono ?_ hTT
    have e13 := hM0 13 (by decide) (by decide) (by decide) (by decide)
    have e60 : put (keepH E E i) 0 12 O 60 4 = E 60 4 := by
      rw [hp 60 (by omega)]
      unfold keepH
      rw [st_at, if_neg (by omega), st_at, if_neg (by omega), put_at, if_neg (by omega)]
    rcases hS with ⟨h1, h2⟩ | ⟨h1, h2, h3⟩
    · exact Or.inl ⟨by rw [e60]; exact h1, by rw [e13]; exact h2⟩
    · refine Or.inr ⟨by rw [e60]; exact h1, by rw [e13]; exact h2, ?_⟩
      rw [c1 4 (by decide) (by decide), m4]
      exact oK_rows (sh_eq fun k hk1 hk2 => hE k (by omega) (by omega) (by omega)) h3
  · unfold iL
    rw [hE 13 (by omega) (by omega) (by omega), hM0 7 (by decide) (by decide) (by decide) (by decide), hM0 8 (by decide) (by decide) (by decide) (by decide), hM0 9 (by decide) (by decide) (by decide) (by decide), hM0 10 (by decide) (by decide) (by decide) (by decide)]
    exact ⟨l1, l2, l3, l4, l5, l6⟩
  · unfold iI
    rw [hE 40 (by omega) (by omega) (by omega), hE 41 (by omega) (by omega) (by omega), hM0 19 (by decide) (by decide) (by decide) (by decide), c1 7 (by decide) (by decide), m7]
    exact ⟨n1, n2, n3, n4⟩
  · refine ⟨ol, x1, ?_, ?_, ?_, ?_⟩
    · rw [hE 50 (by omega) (by omega) (by omega)]; exact x2
    · rw [hM0 15 (by decide) (by decide) (by decide) (by decide)]; exact x3
    · rw [hE 50 (by omega) (by omega) (by omega)]; exact x4
    · rw [hE 51 (by omega) (by omega) (by omega), c1 6 (by decide) (by decide), m6]; exact x5
/-- a rejection -/
theorem inv_rej {j : Nat} {E M E1 M1 : Off} {r : Nat} {d cz : Int32} (h : inv j E M) (hr : r ≤ 17) (hE : ∀ k, k ≠ 12 → k ≠ 13 → (k < 20 ∨ 32 ≤ k) → E1 k = E k) (hM : M1 1 = M 1 ∧ M1 4 = M 4 ∧ M1 5 = M 5 ∧ M1 6 = M 6 ∧ M1 7 = M 7) (h0 : ∀ i, i ≠ 5 → i ≠ 8 → i ≠ 9 → i ≠ 10 → i ≠ 11 → i ≠ 12 → M1 0 i = M 0 i)
    (e6 : E1 13 6 = nI r) (e7 : E1 13 7 = d) (e8 : E1 13 8 = cz) (e9 : E1 13 9 = E 13 9) (m8 : M1 0 8 = nI r) (m9 : M1 0 9 = d) (m10 : M1 0 10 = cz) : inv (j + 1) E1 M1 := by
  obtain ⟨len, T, hT, h1, h2, h3, ⟨l1, l2, l3, l4, l5, l6⟩, ⟨n1, n2, n3, n4⟩, ⟨ol, x1, x2, x3, x4, x5⟩⟩ := h
  obtain ⟨m1, m4, m5, m6, m7⟩ := hM
  have hM0 : ∀ q, q ≠ 5 → q ≠ 8 → q ≠ 9 → q ≠ 10 → q ≠ 11 → q ≠ 12 → M1 0 q = M 0 q := h0
  refine ⟨len, T, by omega, ?_, ?_, ?_, ?_, ?_, ?_⟩
  · rw [m1]; exact oK_rows (fun k hk => hE k (by omega) (by omega) (by omega)) h1
  · exact iH_rows (hE 60 (by omega) (by omega) (by omega)) (fun k _ _ => hE k (by omega) (by omega) (by omega)) (hM0 6 (by decide) (by decide) (by decide) (by decide) (by decide) (by decide)) m5 h2
  · exact iS_rows (hE 60 (by omega) (by omega) (by omega)) (fun k _ _ => hE k (by omega) (by omega) (by omega)) (hM0 13 (by decide) (by decide) (by decide) (by decide) (by decide) (by decide)) m4 h3
  · refine ⟨e6.trans m8.symm, e7.trans m9.symm, e8.trans m10.symm, ?_, ⟨r, hr, m8⟩, ?_⟩
    · rw [e9, hM0 7 (by decide) (by decide) (by decide) (by decide) (by decide) (by decide)]; exact l4
    · rw [hM0 7 (by decide) (by decide) (by decide) (by decide) (by decide) (by decide)]; exact l6
  · unfold iI
    rw [hE 40 (by omega) (by omega) (by omega), hE 41 (by omega) (by omega) (by omega), hM0 19 (by decide) (by decide) (by decide) (by decide) (by decide) (by decide), m7]
    exact ⟨n1, n2, n3, n4⟩
  · refine ⟨ol, x1, ?_, ?_, ?_, ?_⟩
    · rw [hE 50 (by omega) (by omega) (by omega)]; exact x2
    · rw [hM0 15 (by decide) (by decide) (by decide) (by decide) (by decide) (by decide)]; exact x3
    · rw [hE 50 (by omega) (by omega) (by omega)]; exact x4
    · rw [hE 51 (by omega) (by omega) (by omega), m6]; exact x5
