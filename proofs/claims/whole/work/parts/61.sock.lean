/-! ===== a change of one sock's fields ===== -/
theorem b00 {P Q : Prop} (h : P) : (bI false = 0 → P) ∧ (¬ bI false = 0 → Q) := ⟨fun _ => h, fun y => absurd rfl y⟩
theorem b01 {P Q : Prop} (h : P) : (¬ bI false = 0 → Q) ∧ (bI false = 0 → P) := ⟨fun y => absurd rfl y, fun _ => h⟩
theorem b10 {P Q : Prop} (h : Q) : (bI true = 0 → P) ∧ (¬ bI true = 0 → Q) := ⟨fun y => absurd y (by decide), fun _ => h⟩
theorem b11 {P Q : Prop} (h : Q) : (¬ bI true = 0 → Q) ∧ (bI true = 0 → P) := ⟨fun _ => h, fun y => absurd y (by decide)⟩
theorem l00 {P Q : Prop} (h : P) : ((0 : Int32) = 0 → P) ∧ (¬ (0 : Int32) = 0 → Q) := ⟨fun _ => h, fun y => absurd rfl y⟩
theorem l01 {P Q : Prop} (h : P) : (¬ (0 : Int32) = 0 → Q) ∧ ((0 : Int32) = 0 → P) := ⟨fun y => absurd rfl y, fun _ => h⟩
theorem l10 {P Q : Prop} (h : Q) : ((1 : Int32) = 0 → P) ∧ (¬ (1 : Int32) = 0 → Q) := ⟨fun y => absurd y (by decide), fun _ => h⟩
theorem l11 {P Q : Prop} (h : Q) : (¬ (1 : Int32) = 0 → Q) ∧ ((1 : Int32) = 0 → P) := ⟨fun _ => h, fun y => absurd y (by decide)⟩
theorem iT {p P Q : Prop} (hp : p) (h : P) : (p → P) ∧ (¬ p → Q) := ⟨fun _ => h, fun y => absurd hp y⟩
theorem iF {p P Q : Prop} (hp : ¬ p) (h : Q) : (p → P) ∧ (¬ p → Q) := ⟨fun y => absurd y hp, fun _ => h⟩
theorem jT {p P Q : Prop} (hp : p) (h : P) : (¬ p → Q) ∧ (p → P) := ⟨fun y => absurd hp y, fun _ => h⟩
theorem jF {p P Q : Prop} (hp : ¬ p) (h : Q) : (¬ p → Q) ∧ (p → P) := ⟨fun _ => h, fun y => absurd y hp⟩
theorem s3_isS {post : Int32 → Prop} {o : Off} {p : Int32} {c : Nat} {b : Bool} (hc : o 0 0 = nI c) (hs : isS p c = b) (h : post (bI b)) : wp_X3_isSock post o p := s3_isSock hc (by subst hs; exact h)
theorem s3_isD {post : Int32 → Prop} {p : Int32} {b : Bool} (hs : isD p = b) (h : post (bI b)) : wp_X3_isDrawer post p := s3_isDrawer (by subst hs; exact h)
theorem s5_isS {post : Int32 → Prop} {M : Off} {p : Int32} {c : Nat} {b : Bool} (hm : M 1 0 = nI c) (h14 : c ≤ 14) (hs : isS p c = b) (h : post (bI b)) : wp_X5_isSock post M p := s5_isSock hm h14 (by rw [hs]; exact h)
theorem s5_isD {post : Int32 → Prop} {p : Int32} {b : Bool} (hs : isD p = b) (h : post (bI b)) : wp_X5_isDrawer post p := s5_isDrawer (by rw [hs]; exact h)
theorem s5_is_t {post : Int32 → Prop} {M : Off} {k : Nat} {w : Int32} (hk : k < 14) (e : rV M k 2 = w) (h : post (bI true)) : wp_X5_is post M (nI k) w := s5_is hk (by rw [decide_eq_true e]; exact h)
theorem s5_is_f {post : Int32 → Prop} {M : Off} {k : Nat} {w : Int32} (hk : k < 14) (e : ¬ rV M k 2 = w) (h : post (bI false)) : wp_X5_is post M (nI k) w := s5_is hk (by rw [decide_eq_false e]; exact h)
def ntd (M : Off) (r d : Int32) : Off := st (st M 0 11 r) 0 12 d
theorem s5_notes_t {post : Int32 → Off → Prop} {M : Off} {r d : Int32} (h : post 1 (ntd M r d)) : wp_X5_notes post M 1 r d :=
  ⟨fun _ o1 e1 o2 e2 => by subst e1; subst e2; exact h, fun y => absurd y (by decide)⟩
theorem s5_notes_f {post : Int32 → Off → Prop} {M : Off} {r d : Int32} (h : post 0 M) : wp_X5_notes post M 0 r d :=
  ⟨fun y => absurd rfl y, fun _ => h⟩
theorem isB1 : isB 1 := Or.inr rfl
theorem isB0 : isB 0 := Or.inl rfl
theorem rset_v (M : Off) (k f : Nat) (v : Int32) (i g : Nat) (hf : f < 8) (hg : g < 8) : rV (rset M k f v) i g = if i = k ∧ g = f then v else rV M i g := by
  unfold rV rset
  rw [st_at]
  by_cases h : i = k ∧ g = f
  · rw [if_pos h, if_pos ⟨rfl, by omega⟩]
  · rw [if_neg h, if_neg (by omega)]
theorem rset_o (M : Off) (k f : Nat) (v : Int32) (x : Nat) (hf : f < 8) (hx : x < 8 + 8 * k ∨ 16 + 8 * k ≤ x) : rset M k f v 1 x = M 1 x := by
  unfold rset
  rw [st_at, if_neg (by omega)]
theorem rset_r (M : Off) (k f : Nat) (v : Int32) (q : Nat) (hq : q ≠ 1) : rset M k f v q = M q := st_r _ _ _ _ _ hq
theorem raway_o (M : Off) (k x : Nat) (hx : x < 8 + 8 * k ∨ 16 + 8 * k ≤ x) : raway M k 1 x = M 1 x := by
  unfold raway
  rw [rset_o _ _ _ _ _ (by decide) hx, rset_o _ _ _ _ _ (by decide) hx, rset_o _ _ _ _ _ (by decide) hx, rset_o _ _ _ _ _ (by decide) hx, rset_o _ _ _ _ _ (by decide) hx, rset_o _ _ _ _ _ (by decide) hx]
theorem raway_r (M : Off) (k q : Nat) (hq : q ≠ 1) : raway M k q = M q := by
  unfold raway
  rw [rset_r _ _ _ _ _ hq, rset_r _ _ _ _ _ hq, rset_r _ _ _ _ _ hq, rset_r _ _ _ _ _ hq, rset_r _ _ _ _ _ hq, rset_r _ _ _ _ _ hq]
theorem raway_v (M : Off) (k i g : Nat) (hg : g < 8) : rV (raway M k) i g = if i = k then (if g < 2 then rV M i g else if g = 7 then -1 else 0) else rV M i g := by
  unfold raway
  rw [rset_v _ _ _ _ _ _ (by decide) hg, rset_v _ _ _ _ _ _ (by decide) hg, rset_v _ _ _ _ _ _ (by decide) hg, rset_v _ _ _ _ _ _ (by decide) hg, rset_v _ _ _ _ _ _ (by decide) hg, rset_v _ _ _ _ _ _ (by decide) hg]
  by_cases h : i = k
  · subst h
    have : g = 0 ∨ g = 1 ∨ g = 2 ∨ g = 3 ∨ g = 4 ∨ g = 5 ∨ g = 6 ∨ g = 7 := by omega
    rcases this with rfl | rfl | rfl | rfl | rfl | rfl | rfl | rfl <;> simp
  · simp only [h, false_and, if_false]
def vE1 (v w : vW) (k : Nat) : Prop := v k 0 = w k 0 ∧ v k 1 = w k 1 ∧ v k 2 = w k 2 ∧ v k 7 = w k 7 ∧ (w k 2 ≠ 0 → v k 3 = w k 3) ∧ (w k 2 = 1 ∨ w k 2 = 2 → v k 4 = w k 4) ∧ (w k 2 = 1 → v k 5 = w k 5) ∧ (w k 2 = 3 → v k 6 = w k 6)
def vV1 (w : vW) (T k : Nat) : Prop := isCol (w k 0) ∧ (∃ s, 1 ≤ s ∧ s ≤ 9 ∧ w k 1 = nI s) ∧ (w k 2 = 0 ∨ w k 2 = 1 ∨ w k 2 = 2 ∨ w k 2 = 3) ∧ (w k 2 ≠ 0 → ∃ d, d < 5 ∧ w k 3 = nI d) ∧ (w k 2 = 1 ∨ w k 2 = 2 → ∃ x, 1 ≤ x ∧ x ≤ 3 ∧ w k 4 = nI x) ∧ (w k 2 = 3 → ∃ x, x ≤ T + 20 ∧ w k 6 = nI x)
theorem up1 {o O M M1 : Off} {c T T1 k : Nat} (hR : rE o (M 1) c) (hV : vN (M 1) c T) (hk : k < c) (hT : T ≤ T1)
    (hs : ∀ i, i < 5 → O 0 i = o 0 i) (hO : ∀ r i, 1 ≤ r → r ≤ 8 → i ≠ k → O r i = o r i) (h9 : ∀ r, 9 ≤ r → r ≤ 11 → O r = o r)
    (hn : ∀ x, (x < 8 + 8 * k ∨ 16 + 8 * k ≤ x) → M1 1 x = M 1 x) (h1 : vE1 (cV O) (rV M1) k) (h2 : vV1 (rV M1) T1 k)
    (h3 : (rV M k 7 = -1 ∧ rV M1 k 7 = -1) ∨ (∀ g, g < 4 ∨ g = 7 → rV M1 k g = rV M k g)) : rE O (M1 1) c ∧ vN (M1 1) c T1 := by
  obtain ⟨r1, r2, r3, r4, r5, r6, r7, r8, r9, r10⟩ := hR
  obtain ⟨v1, v2, ⟨t, v3, v3e⟩, v4, v5, v6, v7⟩ := hV
  have hw : ∀ i g, i < c → i ≠ k → g < 8 → rV M1 i g = rV M i g := fun i g hi hik hg => hn _ (by omega)
  have hv : ∀ i g, i ≠ k → g < 8 → cV O i g = cV o i g := fun i g hik hg => hO _ _ (by omega) (by omega) hik
  refine ⟨⟨by rw [hs 0 (by omega)]; exact r1, by rw [hn 0 (by omega)]; exact r2, by rw [hs 1 (by omega), hn 1 (by omega)]; exact r3, by rw [hs 2 (by omega), hn 2 (by omega)]; exact r4, by rw [hs 3 (by omega), hn 3 (by omega)]; exact r5, by rw [hs 4 (by omega), hn 4 (by omega)]; exact r6, fun i hi => ?_, fun d hd => ?_, fun a b hab hb => ?_, fun a ha => ?_⟩, ⟨v1, fun i hi => ?_, ⟨t, by omega, by rw [hn 1 (by omega)]; exact v3e⟩, fun d hd => ?_, fun d hd => ?_, fun a b hab hb => ?_, fun a b hab hb => ?_⟩⟩
  · by_cases e : i = k
    · subst e; exact h1
    · show vE1 (cV O) (rV M1) i
      unfold vE1
      rw [hv i 0 e (by omega), hv i 1 e (by omega), hv i 2 e (by omega), hv i 3 e (by omega), hv i 4 e (by omega), hv i 5 e (by omega), hv i 6 e (by omega), hv i 7 e (by omega), hw i 0 hi e (by omega), hw i 1 hi e (by omega), hw i 2 hi e (by omega), hw i 3 hi e (by omega), hw i 4 hi e (by omega), hw i 5 hi e (by omega), hw i 6 hi e (by omega), hw i 7 hi e (by omega)]
      exact r7 i hi
  · rw [h9 9 (by omega) (by omega), h9 10 (by omega) (by omega), hn _ (by omega), hn _ (by omega)]; exact r8 d hd
  · rw [h9 11 (by omega) (by omega), hn _ (by omega)]; exact r9 a b hab hb
  · rw [h9 11 (by omega) (by omega)]; exact r10 a ha
  · by_cases e : i = k
    · subst e
      obtain ⟨w1, w2, w3, w4, w5, w6⟩ := h2
      refine ⟨w1, w2, w3, w4, w5, w6, ?_⟩
      rcases h3 with ⟨-, h3⟩ | h3
      · exact Or.inl h3
      · rcases (v2 i hi).2.2.2.2.2.2 with w | ⟨p, p1, p2, p3, p4, p5, p6, p7⟩
        · exact Or.inl ((h3 7 (Or.inr rfl)).trans w)
        · have hpi : p ≠ i := fun y => by
            rw [y] at p7
            unfold fit at p7
            simp at p7
          refine Or.inr ⟨p, p1, (h3 7 (Or.inr rfl)).trans p2, (hw p 7 p1 hpi (by omega)).trans p3, (h3 2 (Or.inl (by omega))).trans p4, (hw p 2 p1 hpi (by omega)).trans p5, ?_, ?_⟩
          · show rV M1 i 3 = rV M1 p 3
            rw [h3 3 (Or.inl (by omega)), hw p 3 p1 hpi (by omega)]; exact p6
          · show fit (rV M1) i p = true
            unfold fit
            rw [h3 0 (Or.inl (by omega)), h3 1 (Or.inl (by omega)), hw p 0 p1 hpi (by omega), hw p 1 p1 hpi (by omega)]
            exact p7
    · obtain ⟨w1, w2, w3, w4, w5, w6, w7⟩ := vV_mono (T2 := T1) v2 hT i hi
      have q : ∀ g, g < 8 → nV (M1 1) i g = nV (M 1) i g := fun g hg => hw i g hi e hg
      rw [q 0 (by omega), q 1 (by omega), q 2 (by omega), q 3 (by omega), q 4 (by omega), q 6 (by omega), q 7 (by omega)]
      refine ⟨w1, w2, w3, w4, w5, w6, ?_⟩
      rcases w7 with w | ⟨p, p1, p2, p3, p4, p5, p6, p7⟩
      · exact Or.inl w
      · by_cases hpk : p = k
        · subst hpk
          rcases h3 with ⟨h3, -⟩ | h3
          · have hz : rV M p 7 = nI i := p3
            rw [h3] at hz
            exact ((nI_meq (by omega)).mp hz).elim
          · refine Or.inr ⟨p, p1, p2, (h3 7 (Or.inr rfl)).trans p3, p4, (h3 2 (Or.inl (by omega))).trans p5, ?_, ?_⟩
            · show nV (M 1) i 3 = rV M1 p 3
              rw [h3 3 (Or.inl (by omega))]; exact p6
            · show fit (rV M1) i p = true
              unfold fit
              rw [h3 0 (Or.inl (by omega)), h3 1 (Or.inl (by omega)), hw i 0 hi e (by omega), hw i 1 hi e (by omega)]
              exact p7
        · refine Or.inr ⟨p, p1, p2, (hw p 7 p1 hpk (by omega)).trans p3, p4, (hw p 2 p1 hpk (by omega)).trans p5, ?_, ?_⟩
          · show nV (M 1) i 3 = rV M1 p 3
            rw [hw p 3 p1 hpk (by omega)]; exact p6
          · show fit (rV M1) i p = true
            unfold fit
            rw [hw i 0 hi e (by omega), hw i 1 hi e (by omega), hw p 0 p1 hpk (by omega), hw p 1 p1 hpk (by omega)]
            exact p7
  · rw [hn _ (by omega)]; exact v4 d hd
  · rw [hn _ (by omega)]; exact v5 d hd
  · rw [hn _ (by omega)]; exact v6 a b hab hb
  · rw [hn _ (by omega)]; exact v7 a b hab hb
/-- a sock that is no resident has no partner -/
theorem alone {M : Off} {c T k : Nat} (hV : vN (M 1) c T) (hk : k < c) (h : ¬ rV M k 2 = 3) : rV M k 7 = -1 := by
  rcases (vN_v hV k hk).2.2.2.2.2.2 with w | ⟨p, p1, p2, p3, p4, -⟩
  · exact w
  · exact absurd p4 h
