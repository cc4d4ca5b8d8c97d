/-! ===== a drawer's decisions ===== -/
theorem soon_iff {v : vW} {a b : Nat} : soon v a b = true ↔ (((v a 4).toInt = (v b 4).toInt ∧ (((v a 5).toInt = (v b 5).toInt ∧ a < b) ∨ (v a 5).toInt < (v b 5).toInt)) ∨ (v b 4).toInt < (v a 4).toInt) := by
  unfold soon
  by_cases e1 : v a 4 = v b 4
  · rw [if_pos e1]
    by_cases e2 : v a 5 = v b 5
    · rw [if_pos e2, decide_eq_true_eq, e1, e2]
      omega
    · rw [if_neg e2, decide_eq_true_eq, e1, Int32.lt_iff_toInt_lt]
      have : ¬ (v a 5).toInt = (v b 5).toInt := fun y => e2 (Int32.toInt_inj.mp y)
      omega
  · rw [if_neg e1, decide_eq_true_eq, Int32.lt_iff_toInt_lt]
    have : ¬ (v a 4).toInt = (v b 4).toInt := fun y => e1 (Int32.toInt_inj.mp y)
    omega
theorem soon_ir (v : vW) (a : Nat) : ¬ soon v a a = true := by
  rw [soon_iff]; omega
theorem soon_tr {v : vW} {a b d : Nat} (h1 : soon v a b = true) (h2 : soon v b d = true) : soon v a d = true := by
  rw [soon_iff] at h1 h2 ⊢
  omega
theorem cnt_mono {P : Nat → Bool} {a b : Nat} (h : a ≤ b) : cnt P a ≤ cnt P b := by
  induction b with
  | zero => rw [Nat.le_zero.mp h]; exact Nat.le_refl _
  | succ b ih =>
    by_cases e : a = b + 1
    · rw [e]; exact Nat.le_refl _
    · rw [cnt]
      exact Nat.le_trans (ih (by omega)) (Nat.le_add_right _ _)
theorem cnt_pos {P : Nat → Bool} {c : Nat} (h : cnt P c ≠ 0) : ∃ k, k < c ∧ P k = true := by
  induction c with
  | zero => exact absurd rfl h
  | succ c ih =>
    by_cases hp : P c = true
    · exact ⟨c, by omega, hp⟩
    · rw [cnt_f hp] at h
      obtain ⟨k, hk, e⟩ := ih h
      exact ⟨k, by omega, e⟩
theorem cnt_zero {P : Nat → Bool} {c : Nat} (h : ∀ k, k < c → ¬ P k = true) : cnt P c = 0 := by
  induction c with
  | zero => rfl
  | succ c ih =>
    rw [cnt_f (h c (by omega))]
    exact ih (fun k hk => h k (by omega))
theorem cnt_add {P Q R : Nat → Bool} {c : Nat} (h : ∀ k, k < c → (if P k = true then 1 else 0) = (if Q k = true then 1 else 0) + (if R k = true then 1 else 0)) : cnt P c = cnt Q c + cnt R c := by
  induction c with
  | zero => rfl
  | succ c ih =>
    rw [cnt, cnt, cnt, ih (fun k hk => h k (by omega)), h c (by omega)]
    omega
theorem cnt_one {k c : Nat} (h : k < c) : cnt (fun i => decide (i = k)) c = 1 := by
  induction c with
  | zero => omega
  | succ c ih =>
    by_cases e : k = c
    · subst e
      rw [cnt_t (by simp), cnt_zero (fun i hi => by simp; omega)]
    · rw [cnt_f (by simp; omega)]
      exact ih (by omega)
/-- one more at k -/
theorem cnt_at {P Q : Nat → Bool} {k c : Nat} (hk : k < c) (h1 : P k = true) (h2 : ¬ Q k = true) (h : ∀ i, i ≠ k → P i = Q i) : cnt P c = cnt Q c + 1 := by
  rw [← cnt_one hk]
  refine cnt_add (fun i hi => ?_)
  by_cases e : i = k
  · subst e; simp [h1, h2]
  · simp [h i e, e]
theorem least {P : Nat → Bool} {v : vW} : ∀ m, (∃ k, k < m ∧ P k = true) → ∃ k, k < m ∧ P k = true ∧ ∀ i, i < m → P i = true → ¬ soon v i k = true := by
  intro m
  induction m with
  | zero => rintro ⟨k, hk, -⟩; omega
  | succ m ih =>
    intro h
    by_cases hm : ∃ k, k < m ∧ P k = true
    · obtain ⟨k, hk, hp, hl⟩ := ih hm
      by_cases hs : P m = true ∧ soon v m k = true
      · refine ⟨m, by omega, hs.1, fun i hi hpi => ?_⟩
        by_cases e : i = m
        · subst e; exact soon_ir v i
        · exact fun y => hl i (by omega) hpi (soon_tr y hs.2)
      · refine ⟨k, by omega, hp, fun i hi hpi => ?_⟩
        by_cases e : i = m
        · subst e; exact fun y => hs ⟨hpi, y⟩
        · exact hl i (by omega) hpi
    · obtain ⟨k, hk, hp⟩ := h
      have e : k = m := by
        by_cases e : k = m
        · exact e
        · exact absurd ⟨k, by omega, hp⟩ hm
      subst e
      refine ⟨k, by omega, hp, fun i hi hpi => ?_⟩
      by_cases e : i = k
      · subst e; exact soon_ir v i
      · exact absurd ⟨i, by omega, hpi⟩ hm
theorem que0 {v : vW} {c : Nat} {d : Int32} (h : cnt (inS v 1 d) c ≠ 0) : ∃ k, k < c ∧ que v c d 0 = nI k ∧ inS v 1 d k = true := by
  obtain ⟨k, hk, hp, hl⟩ := least (v := v) c (cnt_pos h)
  have ha : ahd v c d k = 0 := cnt_zero (fun i hi => by
    intro y
    rw [Bool.and_eq_true] at y
    exact hl i hi y.1 y.2)
  rcases fstF_cases (P := fun k => inS v 1 d k && decide (nI (ahd v c d k) = 0)) c 0 with ⟨-, h2⟩ | ⟨i, -, h2, h3, h4, -⟩
  · refine absurd ?_ (h2 k (Nat.zero_le _) (by omega))
    rw [hp, ha]; rfl
  · refine ⟨i, by omega, h4, ?_⟩
    rw [Bool.and_eq_true] at h3
    exact h3.1
/-- only what is counted changes -/
theorem up_st {o O : Off} {n n1 : Nat → Int32} {c T T1 : Nat} (hR : rE o n c) (hV : vN n c T) (hT : T ≤ T1) (hO : ∀ r, r ≠ 0 → r < 12 → O r = o r) (h0 : O 0 0 = o 0 0) (hn : ∀ x, x = 0 ∨ 5 ≤ x → n1 x = n x) (h1 : O 0 1 = n1 1) (h2 : O 0 2 = n1 2) (h3 : O 0 3 = n1 3) (h4 : O 0 4 = n1 4) (ht : ∃ t, t ≤ T1 ∧ n1 1 = nI t) : rE O n1 c ∧ vN n1 c T1 := by
  obtain ⟨r1, r2, r3, r4, r5, r6, r7, r8, r9, r10⟩ := hR
  obtain ⟨v1, v2, -, v4, v5, v6, v7⟩ := hV
  have q : nV n1 = nV n := by
    funext i g
    exact hn _ (by omega)
  have hv : ∀ i g, g < 8 → cV O i g = cV o i g := fun i g hg => by
    show O (g + 1) i = o (g + 1) i
    rw [hO _ (by omega) (by omega)]
  refine ⟨⟨h0.trans r1, (hn 0 (Or.inl rfl)).trans r2, h1, h2, h3, h4, fun i hi => ?_, fun d hd => ?_, fun a b hab hb => ?_, fun a ha => ?_⟩, ⟨v1, ?_, ht, fun d hd => ?_, fun d hd => ?_, fun a b hab hb => ?_, fun a b hab hb => ?_⟩⟩
  · show vE1 (cV O) (nV n1) i
    rw [q]
    unfold vE1
    rw [hv i 0 (by omega), hv i 1 (by omega), hv i 2 (by omega), hv i 3 (by omega), hv i 4 (by omega), hv i 5 (by omega), hv i 6 (by omega), hv i 7 (by omega)]
    exact r7 i hi
  · rw [hO 9 (by omega) (by omega), hO 10 (by omega) (by omega), hn _ (by omega), hn _ (by omega)]; exact r8 d hd
  · rw [hO 11 (by omega) (by omega), hn _ (by omega)]; exact r9 a b hab hb
  · rw [hO 11 (by omega) (by omega)]; exact r10 a ha
  · rw [q]; exact vV_mono v2 hT
  · rw [hn _ (by omega)]; exact v4 d hd
  · rw [hn _ (by omega)]; exact v5 d hd
  · rw [hn _ (by omega)]; exact v6 a b hab hb
  · rw [hn _ (by omega)]; exact v7 a b hab hb
def adj (i : Nat) (M : Off) (x : Int32) : Off := st M 1 i (M 1 i + x)
theorem adj_v (i : Nat) (hi : i < 8) (M : Off) (x : Int32) : rV (adj i M x) = rV M := by
  funext k f
  show st M 1 i (M 1 i + x) 1 (8 + 8 * k + f) = M 1 (8 + 8 * k + f)
  rw [st_at, if_neg (by omega)]
theorem adj_o (i : Nat) (M : Off) (x : Int32) (q : Nat) (h : q ≠ i) : adj i M x 1 q = M 1 q := by
  unfold adj
  rw [st_at, if_neg (by omega)]
theorem adj_i (i : Nat) (M : Off) (x : Int32) : adj i M x 1 i = M 1 i + x := by
  unfold adj
  rw [st_at, if_pos ⟨rfl, rfl⟩]
/-- a sock let in -/
def admM (M : Off) (k : Nat) (d : Int32) : Off := rset (rset (rset (raway M k) k 2 3) k 3 d) k 6 (M 1 1 + 10)
/-- a sock turned down -/
def rejM (M : Off) (k : Nat) : Off := st (rset M k 2 2) 1 3 (M 1 3 + 1)
theorem admM_v (M : Off) (k : Nat) (d : Int32) (i g : Nat) (hg : g < 8) : rV (admM M k d) i g = if i = k then (if g < 2 then rV M i g else if g = 2 then 3 else if g = 3 then d else if g = 6 then M 1 1 + 10 else if g = 7 then -1 else 0) else rV M i g := by
  unfold admM
  rw [rset_v _ _ _ _ _ _ (by decide) hg, rset_v _ _ _ _ _ _ (by decide) hg, rset_v _ _ _ _ _ _ (by decide) hg, raway_v _ _ _ _ hg]
  by_cases h : i = k
  · subst h
    have : g = 0 ∨ g = 1 ∨ g = 2 ∨ g = 3 ∨ g = 4 ∨ g = 5 ∨ g = 6 ∨ g = 7 := by omega
    rcases this with rfl | rfl | rfl | rfl | rfl | rfl | rfl | rfl <;> simp
  · simp only [h, false_and, if_false]
theorem admM_o (M : Off) (k x : Nat) (d : Int32) (hx : x < 8 + 8 * k ∨ 16 + 8 * k ≤ x) : admM M k d 1 x = M 1 x := by
  unfold admM
  rw [rset_o _ _ _ _ _ (by decide) hx, rset_o _ _ _ _ _ (by decide) hx, rset_o _ _ _ _ _ (by decide) hx, raway_o _ _ _ hx]
theorem admM_r (M : Off) (k q : Nat) (d : Int32) (hq : q ≠ 1) : admM M k d q = M q := by
  unfold admM
  rw [rset_r _ _ _ _ _ hq, rset_r _ _ _ _ _ hq, rset_r _ _ _ _ _ hq, raway_r _ _ _ hq]
theorem rejM_v (M : Off) (k i g : Nat) (hg : g < 8) : rV (rejM M k) i g = if i = k ∧ g = 2 then 2 else rV M i g := by
  rw [← rset_v M k 2 2 i g (by decide) hg]
  show st (rset M k 2 2) 1 3 (M 1 3 + 1) 1 (8 + 8 * i + g) = rset M k 2 2 1 (8 + 8 * i + g)
  rw [st_at, if_neg (by omega)]
theorem rejM_o (M : Off) (k x : Nat) (h3 : x ≠ 3) (hx : x < 8 + 8 * k ∨ 16 + 8 * k ≤ x) : rejM M k 1 x = M 1 x := by
  unfold rejM
  rw [st_at, if_neg (by omega), rset_o _ _ _ _ _ (by decide) hx]
theorem rejM_r (M : Off) (k q : Nat) (hq : q ≠ 1) : rejM M k q = M q := by
  unfold rejM
  rw [st_r _ _ _ _ _ hq, rset_r _ _ _ _ _ hq]
/-- one decision keeps what holds -/
theorem stepA {o M : Off} {c T k d x : Nat} (hR : rE o (adj 2 M (nI x) 1) c) (hV : vN (adj 2 M (nI x) 1) c T) (hk : k < c) (hd : d < 5) (hp : inS (rV M) 1 (nI d) k = true) : rE (st (st (st o 3 k 3) 7 k (o 0 1 + 10)) 0 2 (o 0 2 + 1)) (adj 2 (admM M k (nI d)) (nI (x + 1)) 1) c ∧ vN (adj 2 (admM M k (nI d)) (nI (x + 1)) 1) c T := by
  obtain ⟨p2, p3⟩ := inS_c hp
  have hvv := adj_v 2 (by decide) M (nI x)
  have h14 := hV.1
  have hal : rV (adj 2 M (nI x)) k 7 = -1 := alone hV hk (by rw [hvv, p2]; decide)
  obtain ⟨g0, g1, g2, g7, g3, g4, g5, g6⟩ := vE1_of hR hk
  obtain ⟨w1, w2, w3, w4, w5, w6⟩ := vV1_of hV hk
  rw [hvv] at g0 g1 g2 g7 g3 g4 g5 g6 w1 w2 w3 w4 w5 w6 hal
  have e1 : o 0 1 = M 1 1 := by rw [hR.2.2.1, adj_o _ _ _ _ (by decide)]
  obtain ⟨t, ht, et⟩ := hV.2.2.1
  have et1 : M 1 1 = nI t := by rw [← et, adj_o _ _ _ _ (by decide)]
  have hav := adj_v 2 (by decide) (admM M k (nI d)) (nI x)
  have hup := up1 (O := st (st o 3 k 3) 7 k (o 0 1 + 10)) (M := adj 2 M (nI x)) (M1 := adj 2 (admM M k (nI d)) (nI x)) hR hV hk (Nat.le_refl T) (fun i _ => by simp [st_at]) (fun r i h1 h8 hi => by simp [st_at, hi]) (fun r h9 h11 => by rw [st_r _ _ _ _ _ (by omega), st_r _ _ _ _ _ (by omega)]) (fun q hq => by
    by_cases e : q = 2
    · subst e
      rw [adj_i, adj_i, admM_o _ _ _ _ (by omega)]
    · rw [adj_o _ _ _ _ e, adj_o _ _ _ _ e, admM_o _ _ _ _ hq]) (by
    rw [hav]
    unfold vE1
    simp (disch := decide) only [admM_v]
    simp [cV, st_at]
    exact ⟨g0, g1, g7.trans hal, (g3 (by rw [p2]; decide)).trans p3, e1⟩) (by
    rw [hav]
    unfold vV1
    simp (disch := decide) only [admM_v]
    simp
    refine ⟨w1, w2, ⟨d, hd, rfl⟩, t + 10, by omega, ?_⟩
    rw [et1, show (10 : Int32) = nI 10 from rfl, nI_add]) (Or.inl ⟨by rw [hvv]; exact hal, by rw [hav]; simp (disch := decide) only [admM_v]; simp⟩)
  refine up_st hup.1 hup.2 (Nat.le_refl T) (fun r h0 h12 => st_r _ _ _ _ _ h0) (by rw [st_at, if_neg (by omega)]) (fun q hq => by rw [adj_o _ _ _ _ (by omega), adj_o _ _ _ _ (by omega)]) ?_ ?_ ?_ ?_ ?_
  · rw [st_at, if_neg (by omega), adj_o _ _ _ _ (by decide), hup.1.2.2.1, adj_o _ _ _ _ (by decide)]
  · rw [st_at, if_pos ⟨rfl, rfl⟩, hR.2.2.2.1, adj_i, adj_i, admM_o _ _ _ _ (by omega), Int32.add_assoc, nI_add1]
  · rw [st_at, if_neg (by omega), adj_o _ _ _ _ (by decide), hup.1.2.2.2.2.1, adj_o _ _ _ _ (by decide)]
  · rw [st_at, if_neg (by omega), adj_o _ _ _ _ (by decide), hup.1.2.2.2.2.2.1, adj_o _ _ _ _ (by decide)]
  · obtain ⟨t, ht, et⟩ := hup.2.2.2.1
    refine ⟨t, ht, ?_⟩
    rw [← et, adj_o _ _ _ _ (by decide), adj_o _ _ _ _ (by decide)]
theorem stepR {o M : Off} {c T k d x : Nat} (hR : rE o (adj 2 M (nI x) 1) c) (hV : vN (adj 2 M (nI x) 1) c T) (hk : k < c) (hd : d < 5) (hp : inS (rV M) 1 (nI d) k = true) : rE (st (st o 3 k 2) 0 3 (o 0 3 + 1)) (adj 2 (rejM M k) (nI x) 1) c ∧ vN (adj 2 (rejM M k) (nI x) 1) c T := by
  obtain ⟨p2, p3⟩ := inS_c hp
  have hvv := adj_v 2 (by decide) M (nI x)
  have h14 := hV.1
  have hal : rV (adj 2 M (nI x)) k 7 = -1 := alone hV hk (by rw [hvv, p2]; decide)
  obtain ⟨g0, g1, g2, g7, g3, g4, g5, g6⟩ := vE1_of hR hk
  obtain ⟨w1, w2, w3, w4, w5, w6⟩ := vV1_of hV hk
  rw [hvv] at g0 g1 g2 g7 g3 g4 g5 g6 w1 w2 w3 w4 w5 w6 hal
  have hav : rV (adj 2 (rset M k 2 2) (nI x)) = rV (rset M k 2 2) := adj_v 2 (by decide) _ (nI x)
  have hup := up1 (O := st o 3 k 2) (M := adj 2 M (nI x)) (M1 := adj 2 (rset M k 2 2) (nI x)) hR hV hk (Nat.le_refl T) (fun i _ => by simp [st_at]) (fun r i h1 h8 hi => by simp [st_at, hi]) (fun r h9 h11 => by rw [st_r _ _ _ _ _ (by omega)]) (fun q hq => by
    by_cases e : q = 2
    · subst e
      rw [adj_i, adj_i, rset_o _ _ _ _ _ (by decide) hq]
    · rw [adj_o _ _ _ _ e, adj_o _ _ _ _ e, rset_o _ _ _ _ _ (by decide) hq]) (by
    rw [hav]
    unfold vE1
    simp (disch := decide) only [rset_v]
    simp [cV, st_at]
    exact ⟨g0, g1, g7, g3 (by rw [p2]; decide), g4 (Or.inl p2)⟩) (by
    rw [hav]
    unfold vV1
    simp (disch := decide) only [rset_v]
    simp
    exact ⟨w1, w2, w4 (by rw [p2]; decide), w5 (Or.inl p2)⟩) (Or.inl ⟨by rw [hvv]; exact hal, by rw [hav]; simp (disch := decide) only [rset_v]; simpa using hal⟩)
  refine up_st hup.1 hup.2 (Nat.le_refl T) (fun r h0 h12 => st_r _ _ _ _ _ h0) (by rw [st_at, if_neg (by omega)]) (fun q hq => ?_) ?_ ?_ ?_ ?_ ?_
  · rw [adj_o _ _ _ _ (by omega), adj_o _ _ _ _ (by omega)]
    unfold rejM
    rw [st_at, if_neg (by omega)]
  · rw [st_at, if_neg (by omega), hup.1.2.2.1, adj_o _ _ _ _ (by decide), adj_o _ _ _ _ (by decide), rejM_o _ _ _ (by decide) (by omega), rset_o _ _ _ _ _ (by decide) (by omega)]
  · rw [st_at, if_neg (by omega), hup.1.2.2.2.1, adj_i, adj_i, rejM_o _ _ _ (by decide) (by omega), rset_o _ _ _ _ _ (by decide) (by omega)]
  · rw [st_at, if_pos ⟨rfl, rfl⟩, hR.2.2.2.2.1, adj_o _ _ _ _ (by decide), adj_o _ _ _ _ (by decide)]
    unfold rejM
    rw [st_at, if_pos ⟨rfl, rfl⟩]
  · rw [st_at, if_neg (by omega), hup.1.2.2.2.2.2.1, adj_o _ _ _ _ (by decide), adj_o _ _ _ _ (by decide), rejM_o _ _ _ (by decide) (by omega), rset_o _ _ _ _ _ (by decide) (by omega)]
  · obtain ⟨t, ht, et⟩ := hV.2.2.1
    refine ⟨t, ht, ?_⟩
    rw [← et, adj_o _ _ _ _ (by decide), adj_o _ _ _ _ (by decide), rejM_o _ _ _ (by decide) (by omega)]
/-- asked for and not shut out -/
def okA (v : vW) (bits d : Int32) (k : Nat) : Bool := inS v 1 d k && !shutF bits (v k 0)
theorem decLoop {c T d q : Nat} (hd : d < 5) : ∀ (r : Nat) (o M : Off) (x : Nat), rE o (adj 2 M (nI x) 1) c → vN (adj 2 M (nI x) 1) c T → cnt (inS (rV M) 1 (nI d)) c = r → M 1 (120 + d) = nI q → q ≤ 9 → ∃ (M1 : Off) (y : Nat),
    (∀ post : Int32 → Off → Prop, post (nI y) (adj 2 M1 (nI y)) → wl_X5_decides_2 post (r + 1) M (nI d) (nI x)) ∧ (∀ i, i ≠ 1 → M1 i = M i) ∧ M1 1 2 = M 1 2 ∧ rE (decL c d r o) (adj 2 M1 (nI y) 1) c ∧ vN (adj 2 M1 (nI y) 1) c T ∧ y = x + min (cnt (okA (rV M) (M 1 (125 + d)) (nI d)) c) (q - cnt (inS (rV M) 3 (nI d)) c) := by
  intro r
  induction r with
  | zero =>
    intro o M x hR hV hr hq hq9
    have hm : M 1 0 = nI c := by rw [← hR.2.1, adj_o _ _ _ _ (by decide)]
    refine ⟨M, x, fun post h => ?_, fun _ _ => rfl, rfl, hR, hV, ?_⟩
    · rw [wl_X5_decides_2]
      refine s5_askingFor hm hV.1 ?_
      rw [hr]
      refine iT (by decide) ⟨vp2, vp2, fun o2 e2 => ?_⟩
      subst e2
      exact h
    · have : cnt (okA (rV M) (M 1 (125 + d)) (nI d)) c = 0 := by
        refine cnt_zero (fun k hk y => ?_)
        unfold okA at y
        rw [Bool.and_eq_true] at y
        have := cnt_t (c := k) y.1
        have hle : cnt (inS (rV M) 1 (nI d)) (k + 1) ≤ cnt (inS (rV M) 1 (nI d)) c := cnt_mono (by omega)
        omega
      omega
  | succ r ih =>
    intro o M x hR hV hr hq hq9
    have hvv := adj_v 2 (by decide) M (nI x)
    have h14 := hV.1
    have hm : M 1 0 = nI c := by rw [← hR.2.1, adj_o _ _ _ _ (by decide)]
    have hE := rE_v hR
    have hEv : vE (cV o) (rV M) c := by rw [← hvv]; exact hE
    have hr14 : r + 1 ≤ 14 := by rw [← hr]; exact Nat.le_trans (cnt_le _ _) h14
    obtain ⟨k, hk, hqk, hin⟩ := que0 (v := rV M) (c := c) (d := nI d) (by omega)
    obtain ⟨p2, p3⟩ := inS_c hin
    have hqo : que (cV o) c (nI d) 0 = nI k := by rw [que_eq hEv]; exact hqk
    have hdl : decL c d (r + 1) o = decL c d r (dec1 o c k d) := by
      rw [decL, hqo, if_neg (fun y => (nI_eqm (by omega)).mp y), kc (by omega)]
    have hli : cnt (inS (cV o) 3 (nI d)) c = cnt (inS (rV M) 3 (nI d)) c := cntS_eq hEv (by decide) (Nat.le_refl c)
    have h9 : o 9 d = nI q := by rw [(hR.2.2.2.2.2.2.2.1 d hd).1, adj_o _ _ _ _ (by omega), hq]
    obtain ⟨b, hb, eb'⟩ := hV.2.2.2.2.1 d hd
    have eb : M 1 (125 + d) = nI b := by rw [← eb', adj_o _ _ _ _ (by omega)]
    have h10 : o 10 d = nI b := by rw [(hR.2.2.2.2.2.2.2.1 d hd).2, eb']
    have hcol : isCol (rV M k 0) := by
      have := (vV1_of hV hk).1
      rw [hvv] at this
      exact this
    have e0 : o 1 k = rV M k 0 := (hEv k hk).1
    have hban : banF (o 10 d) (u16F (o 1 k)) = shutF (nI b) (rV M k 0) := by
      rw [h10, e0, (col_yes hcol).2, banP hb hcol]
    have hroom : decide (nI (cnt (inS (cV o) 3 (nI d)) c) < o 9 d) = decide (cnt (inS (rV M) 3 (nI d)) c < q) := by
      rw [hli, h9]
      have := cnt_le (inS (rV M) 3 (nI d)) c
      exact decide_eq_decide.mpr (nI_lti (by omega) (by omega))
    have hce := cnt_le (inS (rV M) 3 (nI d)) c
    -- what the reference does first
    have hrf : ∀ post : Int32 → Off → Prop, ((nI q ≤ nI (cnt (inS (rV M) 3 (nI d)) c) → wj_X5_decides_89 post (fun o x1 x2 => wl_X5_decides_2 post (r + 1) o x1 x2) M (nI d) (nI x) (nI k)) ∧ (¬ nI q ≤ nI (cnt (inS (rV M) 3 (nI d)) c) → wp_X5_s (fun v7 => wp_X5_isShut (fun v8 => ((¬ v8 = 0 → wj_X5_decides_89 post (fun o x1 x2 => wl_X5_decides_2 post (r + 1) o x1 x2) M (nI d) (nI x) (nI k)) ∧ (v8 = 0 → wp_X5_sendsAway (fun o9 => wp_X5_set (fun o10 => wp_X5_set (fun o11 => (vp_in (1 : Int32) 160 ∧ wp_X5_set (fun o12 => (∀ v13 : Int32, v13 = nI x + (1 : Int32) → wl_X5_decides_2 post (r + 1) o12 (nI d) v13)) o11 (nI k) (6 : Int32) ((o11 1 (1 : Int32).toNatClampNeg) + (10 : Int32)))) o10 (nI k) (3 : Int32) (nI d)) o9 (nI k) (2 : Int32) (3 : Int32)) M (nI k)))) M (nI d) v7) M (nI k) (0 : Int32))) → wl_X5_decides_2 post (r + 1 + 1) M (nI d) (nI x) := by
      intro post h
      rw [wl_X5_decides_2]
      refine s5_askingFor hm h14 ?_
      rw [hr]
      refine iF (by rw [show (0 : Int32) = nI 0 from rfl, nI_lei (by omega) (by omega)]; omega) (s5_inQueue hm h14 ?_)
      rw [hqk]
      refine s5_livingIn hm h14 ?_
      rw [show (120 : Int32) = nI 120 from rfl, nI_add, kc (by omega), hq]
      exact ⟨vpk (by omega) (by omega), h⟩
    have hrej : ∀ post : Int32 → Off → Prop, wl_X5_decides_2 post (r + 1) (rejM M k) (nI d) (nI x) → wj_X5_decides_89 post (fun o x1 x2 => wl_X5_decides_2 post (r + 1) o x1 x2) M (nI d) (nI x) (nI k) := by
      intro post h
      refine s5_set (f := 2) (by omega) (by decide) ⟨vp3, vp3, fun o6 e6 => ?_⟩
      rw [c3, rset_o _ _ _ _ _ (by decide) (by omega)] at e6
      subst e6
      exact h
    have hliq : (nI q ≤ nI (cnt (inS (rV M) 3 (nI d)) c)) ↔ q ≤ cnt (inS (rV M) 3 (nI d)) c := nI_lei (by omega) (by omega)
    have hcntR : cnt (inS (rV M) 1 (nI d)) c = cnt (inS (rV (rejM M k)) 1 (nI d)) c + 1 := cnt_at hk hin (by
      unfold inS; rw [rejM_v _ _ _ _ (by decide)]; simp) (fun i hi => by
      unfold inS; rw [rejM_v _ _ _ _ (by decide), rejM_v _ _ _ _ (by decide)]; simp [hi])
    have hliR : cnt (inS (rV (rejM M k)) 3 (nI d)) c = cnt (inS (rV M) 3 (nI d)) c := cnt_congr (fun i hi => by
      unfold inS
      rw [rejM_v _ _ _ _ (by decide), rejM_v _ _ _ _ (by decide)]
      by_cases e : i = k
      · subst e; simp [p2]
      · simp [e])
    have hok : ∀ i, i < c → i ≠ k → okA (rV (rejM M k)) (rejM M k 1 (125 + d)) (nI d) i = okA (rV M) (M 1 (125 + d)) (nI d) i := fun i hi e => by
      unfold okA inS
      rw [rejM_v _ _ _ _ (by decide), rejM_v _ _ _ _ (by decide), rejM_v _ _ _ _ (by decide), rejM_o _ _ _ (by omega) (by omega)]
      simp [e]
    have hokk : ¬ okA (rV (rejM M k)) (rejM M k 1 (125 + d)) (nI d) k = true := by
      unfold okA inS
      rw [rejM_v _ _ _ _ (by decide)]
      simp
    by_cases hroom1 : cnt (inS (rV M) 3 (nI d)) c < q
    · cases hsh : shutF (nI b) (rV M k 0)
      · -- let in
        have hd1 : dec1 o c k d = st (st (st o 3 k 3) 7 k (o 0 1 + 10)) 0 2 (o 0 2 + 1) := by
          unfold dec1
          rw [hroom, decide_eq_true hroom1, hban, hsh]; rfl
        obtain ⟨hR1, hV1⟩ := stepA hR hV hk hd hin
        have hcntA : cnt (inS (rV M) 1 (nI d)) c = cnt (inS (rV (admM M k (nI d))) 1 (nI d)) c + 1 := cnt_at hk hin (by
          unfold inS; rw [admM_v _ _ _ _ _ (by decide)]; simp) (fun i hi => by
          unfold inS; rw [admM_v _ _ _ _ _ (by decide), admM_v _ _ _ _ _ (by decide)]; simp [hi])
        have hliA : cnt (inS (rV (admM M k (nI d))) 3 (nI d)) c = cnt (inS (rV M) 3 (nI d)) c + 1 := cnt_at hk (by
          unfold inS; rw [admM_v _ _ _ _ _ (by decide), admM_v _ _ _ _ _ (by decide)]; simp) (by unfold inS; simp [p2]) (fun i hi => by
          unfold inS; rw [admM_v _ _ _ _ _ (by decide), admM_v _ _ _ _ _ (by decide)]; simp [hi])
        have hokA : cnt (okA (rV M) (M 1 (125 + d)) (nI d)) c = cnt (okA (rV (admM M k (nI d))) (admM M k (nI d) 1 (125 + d)) (nI d)) c + 1 := cnt_at hk (by
          unfold okA; rw [hin, eb, hsh]; rfl) (by
          unfold okA inS; rw [admM_v _ _ _ _ _ (by decide)]; simp) (fun i hi => by
          unfold okA inS
          rw [admM_v _ _ _ _ _ (by decide), admM_v _ _ _ _ _ (by decide), admM_v _ _ _ _ _ (by decide), admM_o _ _ _ _ (by omega)]
          simp [hi])
        obtain ⟨M1, y, f1, f2, f3, f4, f5, f6⟩ := ih _ (admM M k (nI d)) (x + 1) hR1 hV1 (by omega) (by rw [admM_o _ _ _ _ (by omega)]; exact hq) hq9
        refine ⟨M1, y, fun post h => hrf post (iF (fun y => by rw [hliq] at y; omega) (s5_s (f := 0) (by omega) (by decide) (s5_isShut hd ?_))), fun i hi => (f2 i hi).trans (admM_r _ _ _ _ hi), f3.trans (admM_o _ _ _ _ (by omega)), ?_, f5, ?_⟩
        · rw [eb, hsh]
          refine b01 (s5_sendsAway (by omega) (s5_set (f := 2) (by omega) (by decide) (s5_set (f := 3) (by omega) (by decide) ⟨vp1, s5_set (f := 6) (by omega) (by decide) (fun v13 e13 => ?_)⟩)))
          rw [nI_add1] at e13
          subst e13
          rw [c1, rset_o _ _ _ _ _ (by decide) (by omega), rset_o _ _ _ _ _ (by decide) (by omega), raway_o _ _ _ (by omega)]
          exact f1 post h
        · rw [hdl, hd1]; exact f4
        · omega
      · -- shut out
        have hd1 : dec1 o c k d = st (st o 3 k 2) 0 3 (o 0 3 + 1) := by
          unfold dec1
          rw [hroom, decide_eq_true hroom1, hban, hsh]; rfl
        obtain ⟨hR1, hV1⟩ := stepR hR hV hk hd hin
        have hokE : cnt (okA (rV M) (M 1 (125 + d)) (nI d)) c = cnt (okA (rV (rejM M k)) (rejM M k 1 (125 + d)) (nI d)) c := cnt_congr (fun i hi => by
          by_cases e : i = k
          · subst e
            have hf : okA (rV M) (M 1 (125 + d)) (nI d) i = false := by
              unfold okA; rw [hin, eb, hsh]; rfl
            rw [hf]
            exact (Bool.eq_false_iff.mpr hokk).symm
          · exact (hok i hi e).symm)
        obtain ⟨M1, y, f1, f2, f3, f4, f5, f6⟩ := ih _ (rejM M k) x hR1 hV1 (by omega) (by rw [rejM_o _ _ _ (by omega) (by omega)]; exact hq) hq9
        refine ⟨M1, y, fun post h => hrf post (iF (fun y => by rw [hliq] at y; omega) (s5_s (f := 0) (by omega) (by decide) (s5_isShut hd ?_))), fun i hi => (f2 i hi).trans (rejM_r _ _ _ hi), f3.trans (rejM_o _ _ _ (by decide) (by omega)), ?_, f5, ?_⟩
        · rw [eb, hsh]
          exact b11 (hrej post (f1 post h))
        · rw [hdl, hd1]; exact f4
        · omega
    · have hd1 : dec1 o c k d = st (st o 3 k 2) 0 3 (o 0 3 + 1) := by
        unfold dec1
        rw [hroom, decide_eq_false hroom1]
        simp only [Bool.false_and, Bool.false_eq_true, if_false]
      obtain ⟨hR1, hV1⟩ := stepR hR hV hk hd hin
      obtain ⟨M1, y, f1, f2, f3, f4, f5, f6⟩ := ih _ (rejM M k) x hR1 hV1 (by omega) (by rw [rejM_o _ _ _ (by omega) (by omega)]; exact hq) hq9
      refine ⟨M1, y, fun post h => hrf post (iT (hliq.mpr (by omega)) (hrej post (f1 post h))), fun i hi => (f2 i hi).trans (rejM_r _ _ _ hi), f3.trans (rejM_o _ _ _ (by decide) (by omega)), ?_, f5, ?_⟩
      · rw [hdl, hd1]; exact f4
      · omega
theorem adj_0 (i : Nat) (M : Off) (q : Nat) : adj i M (nI 0) 1 q = M 1 q := by
  unfold adj
  rw [st_at]
  split
  · rename_i h
    rw [h.2, show nI 0 = (0 : Int32) from rfl, Int32.add_zero]
  · rfl
abbrev C_d (p0 : Int32) (post : Int32 → Off → Prop) (o : Off) : Prop := wp_X0_deciding (fun v => post v o) o p0
abbrev A_d (p0 : Int32) (post : Int32 → Off → Prop) (o : Off) : Prop := wp_X3_decideAll post o p0
abbrev R_d (p0 : Int32) (F : Int32 → Prop) (J : Off → Prop) (A1 : Int32 → Off → Prop) (o : Off) : Prop := wp_X5_isDrawer (fun v2 => ((v2 = 0 → F 1) ∧ (¬ v2 = 0 → wp_X5_decides A1 o p0))) p0
abbrev R_d2 (p0 : Int32) (F : Int32 → Prop) (J : Off → Prop) (A1 : Int32 → Off → Prop) (o : Off) : Prop := wp_X5_isDrawer (fun v2 => ((¬ v2 = 0 → wp_X5_decides A1 o p0) ∧ (v2 = 0 → F 1))) p0
theorem dec1_rows {o o2 : Off} (h : ∀ k, k < 12 → o2 k = o k) (c k d : Nat) : ∀ i, i < 12 → dec1 o2 c k d i = dec1 o c k d i := by
  intro i hi
  have e : cV o2 = cV o ∨ True := Or.inr trivial
  have hc : cnt (inS (cV o2) 3 (nI d)) c = cnt (inS (cV o) 3 (nI d)) c := cnt_congr (fun x _ => by
    unfold inS cV
    simp only [Nat.reduceAdd]
    rw [h 3 (by omega), h 4 (by omega)])
  unfold dec1
  rw [hc, h 9 (by omega), h 10 (by omega), h 1 (by omega), h 0 (by omega)]
  split
  · funext q
    simp only [st_at]
    rw [h i hi]
  · funext q
    simp only [st_at]
    rw [h i hi]
theorem que_rows {o o2 : Off} (h : ∀ k, k < 12 → o2 k = o k) (c : Nat) (d p : Int32) : que (cV o2) c d p = que (cV o) c d p := by
  have hi : ∀ x, inS (cV o2) 1 d x = inS (cV o) 1 d x := fun x => by
    unfold inS cV
    simp only [Nat.reduceAdd]
    rw [h 3 (by omega), h 4 (by omega)]
  have hs : ∀ x y, soon (cV o2) x y = soon (cV o) x y := fun x y => by
    unfold soon cV
    simp only [Nat.reduceAdd]
    rw [h 5 (by omega), h 6 (by omega)]
  unfold que
  refine fstF_congr _ _ (fun x _ _ => ?_)
  have ha : ahd (cV o2) c d x = ahd (cV o) c d x := cnt_congr (fun y _ => by
    show (inS (cV o2) 1 d y && soon (cV o2) y x) = (inS (cV o) 1 d y && soon (cV o) y x)
    rw [hi, hs])
  rw [hi, ha]
theorem decL_rows {c d : Nat} : ∀ {o o2 : Off}, (∀ k, k < 12 → o2 k = o k) → ∀ r i, i < 12 → decL c d r o2 i = decL c d r o i := by
  intro o o2 h r
  induction r generalizing o o2 with
  | zero => intro i hi; exact h i hi
  | succ r ih =>
    intro i hi
    rw [decL, decL, que_rows h]
    refine ih (fun k hk => ?_) i hi
    split
    · exact h k hk
    · exact dec1_rows h _ _ _ k hk
theorem out_d {E M : Off} {c T : Nat} (hR : rE E (M 1) c) (hV : vN (M 1) c T) (hT0 : T ≤ 10240) (p0 : Int32) : outcN ZT (C_d p0) (A_d p0) (R_d p0) B1 E M T := by
  have hc := hR.1
  have hm := hR.2.1
  have h14 := hV.1
  cases hd : isD p0
  · exact Or.inl ⟨-1, 1, ⟨rfl, rfl⟩, fun post h => s3_isD hd (b00 h), fun F J A1 h => s5_isD hd (by first | exact b00 h | exact b01 h)⟩
  obtain ⟨d, hd5, rfl⟩ := isD_c hd
  obtain ⟨q, hq9, eq⟩ := hV.2.2.2.1 d hd5
  have e1 : adj 2 M (nI 0) 1 = M 1 := funext (adj_0 2 M)
  obtain ⟨M1, y, f1, f2, f3, f4, f5, f6⟩ := decLoop (T := T) hd5 _ E M 0 (by rw [e1]; exact hR) (by rw [e1]; exact hV) rfl eq hq9
  refine Or.inr ⟨fun post h => s3_isD hd (b10 h), nI y, adj 2 M1 (nI y), trivial, fun F J A1 h => s5_isD hd ?_, fun q hq => by unfold adj; rw [st_r _ _ _ _ _ hq]; exact f2 q hq, fun E2 hE2 => ?_⟩
  · have := f1 A1 h
    first
    | exact b10 ⟨_, this⟩
    | exact b11 ⟨_, this⟩
  · have hR2 : rE E2 (M 1) c := rE_rows hE2 hR
    have g4' : rE (decL c d (cnt (inS (rV M) 1 (nI d)) c) E2) (adj 2 M1 (nI y) 1) c := rE_rows (fun k hk => decL_rows hE2 _ k hk) f4
    refine ⟨_, fun post h => ?_, ⟨c, g4', f5⟩⟩
    unfold A_d
    refine s3_decideAll hR2.1 h14 hd5 ?_
    rw [cntS_eq (rE_v hR2) (by decide) (Nat.le_refl c)]
    have ev : decL c d (cnt (inS (rV M) 1 (nI d)) c) E2 0 2 - E2 0 2 = nI y := by
      rw [g4'.2.2.2.1, adj_i, f3, hR2.2.2.2.1, Int32.add_comm, Int32.add_sub_cancel]
    show post (decL c d (cnt (inS (rV M) 1 (nI d)) c) E2 0 2 - E2 0 2) _
    rw [ev]
    exact h
theorem out_d2 {E M : Off} {c T : Nat} (hR : rE E (M 1) c) (hV : vN (M 1) c T) (hT0 : T ≤ 10240) (p0 : Int32) : outcN ZT (C_d p0) (A_d p0) (R_d2 p0) B1 E M T := by
  have hc := hR.1
  have hm := hR.2.1
  have h14 := hV.1
  cases hd : isD p0
  · exact Or.inl ⟨-1, 1, ⟨rfl, rfl⟩, fun post h => s3_isD hd (b00 h), fun F J A1 h => s5_isD hd (by first | exact b00 h | exact b01 h)⟩
  obtain ⟨d, hd5, rfl⟩ := isD_c hd
  obtain ⟨q, hq9, eq⟩ := hV.2.2.2.1 d hd5
  have e1 : adj 2 M (nI 0) 1 = M 1 := funext (adj_0 2 M)
  obtain ⟨M1, y, f1, f2, f3, f4, f5, f6⟩ := decLoop (T := T) hd5 _ E M 0 (by rw [e1]; exact hR) (by rw [e1]; exact hV) rfl eq hq9
  refine Or.inr ⟨fun post h => s3_isD hd (b10 h), nI y, adj 2 M1 (nI y), trivial, fun F J A1 h => s5_isD hd ?_, fun q hq => by unfold adj; rw [st_r _ _ _ _ _ hq]; exact f2 q hq, fun E2 hE2 => ?_⟩
  · have := f1 A1 h
    first
    | exact b10 ⟨_, this⟩
    | exact b11 ⟨_, this⟩
  · have hR2 : rE E2 (M 1) c := rE_rows hE2 hR
    have g4' : rE (decL c d (cnt (inS (rV M) 1 (nI d)) c) E2) (adj 2 M1 (nI y) 1) c := rE_rows (fun k hk => decL_rows hE2 _ k hk) f4
    refine ⟨_, fun post h => ?_, ⟨c, g4', f5⟩⟩
    unfold A_d
    refine s3_decideAll hR2.1 h14 hd5 ?_
    rw [cntS_eq (rE_v hR2) (by decide) (Nat.le_refl c)]
    have ev : decL c d (cnt (inS (rV M) 1 (nI d)) c) E2 0 2 - E2 0 2 = nI y := by
      rw [g4'.2.2.2.1, adj_i, f3, hR2.2.2.2.1, Int32.add_comm, Int32.add_sub_cancel]
    show post (decL c d (cnt (inS (rV M) 1 (nI d)) c) E2 0 2 - E2 0 2) _
    rw [ev]
    exact h
theorem op_16 {j : Nat} {E M : Off} {z : Nat → Int64} {zd : Nat → UInt64} {a1 a2 a3 : Int32} (hj : j < 512) (hI : inv j E M) : wc_16 (lwInv (j + 1)) E M z zd a1 a2 a3 := by
  unfold wc_16 ww_decide wp_X4_decide
  exact directN (C := C_d a1) (A := A_d a1) (R := R_d a1) (B := B1) (W := fun kx E1 z1 => wp_X5_decide (fun bx M1 => wp_X5_thrown (fun t => (t = kx ∧ ((kx = 0 → lg_cmp (z1 (0 : Int32).toNatClampNeg) (bx).toInt64 = 0) ∧ lwInv (j + 1) E1 M1 z1 zd))) M1) M a1) hj hI (hoN fun hR hV hT0 => out_d hR hV hT0 a1) (fun code n hB => by obtain ⟨rfl, rfl⟩ := hB; exact ⟨i1ne, Or.inl ⟨rfl, fun E1 h => ⟨rfl, h⟩⟩⟩) (fun _ _ _ h => h) (fun _ _ _ h => h)
