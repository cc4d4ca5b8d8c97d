/-! ===== the reference reads its commands ===== -/
/-- inside a command: what changes from the state Mc on -/
def PRc (Mc M : Off) (b : Bool) (a : Nat) : Prop := (∀ r, r ≠ 0 → M r = Mc r) ∧ (∀ q, q ≠ 21 → q ≠ 23 → M 0 q = Mc 0 q) ∧ M 0 21 = nI a ∧ M 0 23 = bI b
def rTx (T : Nat → Int32) (len : Nat) (Mc : Off) : Prop := Mc 0 20 = nI len ∧ ∀ i, i < len → Mc 7 i = T i
theorem r_mark {post : Int32 → Prop} {Mc M : Off} {T : Nat → Int32} {len a : Nat} {b : Bool} (hT : okT T len) (hM : rTx T len Mc) (h : PRc Mc M b a) (ha : a ≤ len) (hp : post (if b = false ∧ a < len then T a else -1)) : wp_X5_mark post M := by
  obtain ⟨r1, r0, r21, r23⟩ := h
  have h60 := hT.1
  unfold wp_X5_mark
  rw [r23, r0 20 (by decide) (by decide), hM.1, r21, kc (by omega)]
  cases b
  · refine b01 ?_
    by_cases hl : a < len
    · rw [if_pos ⟨rfl, hl⟩] at hp
      refine iF (by rw [nI_lei (by omega) (by omega)]; omega) ⟨vpk (by omega) (by omega), ?_⟩
      rw [r1 7 (by decide), hM.2 a hl]
      exact hp
    · rw [if_neg (fun y => hl y.2)] at hp
      exact iT (by rw [nI_lei (by omega) (by omega)]; omega) hp
  · rw [if_neg (fun y => by cases y.1)] at hp
    exact b11 hp
theorem r_next {Mc M : Off} {T : Nat → Int32} {len a : Nat} {b g : Bool} (hT : okT T len) (hM : rTx T len Mc) (h : PRc Mc M b a) (hg : b = false → g = true → a < len) : ∃ v M2, (((b = true ∨ g = false) ∧ PRc Mc M2 true a ∧ v = 0) ∨ ((b = false ∧ g = true) ∧ PRc Mc M2 false (a + 1) ∧ v = T a)) ∧ ∀ post : Int32 → Off → Prop, post v M2 → wp_X5_next post M (bI g) := by
  obtain ⟨r1, r0, r21, r23⟩ := id h
  have h60 := hT.1
  by_cases hbg : b = true ∨ g = false
  · refine ⟨0, st M 0 23 1, Or.inl ⟨hbg, ⟨fun r hr => by rw [st_r _ _ _ _ _ hr]; exact r1 r hr, fun q q1 q2 => by rw [st_at, if_neg (fun y => q2 y.2)]; exact r0 q q1 q2, by rw [st_at, if_neg (by omega)]; exact r21, by rw [st_at, if_pos ⟨rfl, rfl⟩]; rfl⟩, rfl⟩, fun post hp => ?_⟩
    have key : ∀ s0 : Int32, s0 = bI (!g) → wj_X5_next_14 post M s0 (M 0 23) := by
      intro s0 e0
      have eo : (M 0 23 ||| s0) = 1 := by
        rw [r23, e0]
        rcases hbg with y | y <;> subst y
        · cases g <;> decide
        · cases b <;> decide
      unfold wj_X5_next_14
      rw [eo]
      refine ⟨isB1, fun o1 e1 => ?_⟩
      rw [e1]
      have e23 : st M 0 23 1 0 23 = 1 := by rw [st_at, if_pos ⟨rfl, rfl⟩]
      rw [e23]
      exact l10 hp
    unfold wp_X5_next
    cases g
    · exact b01 (key 1 rfl)
    · exact b11 (key 0 rfl)
  · have hb : b = false := by cases b; rfl; exact absurd (Or.inl rfl) hbg
    have hgt : g = true := by cases g; exact absurd (Or.inr rfl) hbg; rfl
    subst hb; subst hgt
    have hl := hg rfl rfl
    refine ⟨T a, st (st M 0 23 0) 0 21 (nI (a + 1)), Or.inr ⟨⟨rfl, rfl⟩, ⟨fun r hr => by rw [st_r _ _ _ _ _ hr, st_r _ _ _ _ _ hr]; exact r1 r hr, fun q q1 q2 => by rw [st_at, if_neg (fun y => q1 y.2), st_at, if_neg (fun y => q2 y.2)]; exact r0 q q1 q2, by rw [st_at, if_pos ⟨rfl, rfl⟩], by rw [st_at, if_neg (by omega), st_at, if_pos ⟨rfl, rfl⟩]; rfl⟩, rfl⟩, fun post hp => ?_⟩
    have eo : (M 0 23 ||| (0 : Int32)) = 0 := by rw [r23]; decide
    refine b11 ?_
    unfold wj_X5_next_14
    rw [eo]
    refine ⟨isB0, fun o1 e1 => ?_⟩
    have e23 : o1 0 23 = 0 := by rw [e1, st_at, if_pos ⟨rfl, rfl⟩]
    have e21 : o1 0 21 = nI a := by rw [e1, st_at, if_neg (by omega)]; exact r21
    rw [e23, e21, nI_add1]
    refine l00 (fun o2 e2 => ?_)
    have e221 : o2 0 21 = nI (a + 1) := by rw [e2, st_at, if_pos ⟨rfl, rfl⟩]
    have hs : nI (a + 1) - 1 = nI a := by rw [show (1 : Int32) = nI 1 from rfl, nI_sub (by omega), Nat.add_sub_cancel]
    have e7 : o2 7 a = T a := by rw [e2, st_r _ _ _ _ _ (by decide), e1, st_r _ _ _ _ _ (by decide), r1 7 (by decide), hM.2 a hl]
    rw [e221, hs, kc (by omega)]
    refine ⟨vpk (by omega) (by omega), ?_⟩
    rw [e7, e2, e1]
    exact hp
theorem dg_m1 : dgB (-1) = false := by decide
theorem r_in {post : Int32 → Prop} {p : Int32} (h : post (bI (dgB p))) : wp_X5_in post p 48 57 := s5_in h
theorem r_D {Mc M : Off} {T : Nat → Int32} {len a : Nat} {b : Bool} (hT : okT T len) (hM : rTx T len Mc) (h : PRc Mc M b a) (ha : a ≤ len) : ∃ v M2, PRc Mc M2 (stp T len 68 b a).1 (stp T len 68 b a).2.1 ∧ ((stp T len 68 b a).1 = false → (stp T len 68 b a).2.2 = [v]) ∧ ∀ post : Int32 → Off → Prop, post v M2 → wp_X5_digit post M := by
  obtain ⟨v, M2, hc, hn⟩ := r_next (g := dgB (if b = false ∧ a < len then T a else -1)) hT hM h (fun hb hg => by
    by_cases hl : a < len
    · exact hl
    · rw [if_neg (fun y => hl y.2)] at hg
      cases hg)
  refine ⟨v - 48, M2, ?_, ?_, fun post hp => r_mark hT hM h ha (r_in (hn _ hp))⟩ <;> rcases hc with ⟨hbg, h2, hv⟩ | ⟨⟨hb, hg⟩, h2, hv⟩
  all_goals first
    | (have hs : stp T len 68 b a = (true, a, []) := by
        unfold stp
        cases b
        · rw [if_neg (by decide)]
          have : prt T len 68 a = none := by
            unfold prt
            by_cases hl : a < len
            · rw [if_pos hl, if_neg (by decide), if_pos rfl, if_neg]
              rcases hbg with y | y
              · cases y
              · rw [if_pos ⟨rfl, hl⟩] at y
                rw [y]; decide
            · rw [if_neg hl]
          rw [this]
        · rfl
       rw [hs]
       first | exact h2 | exact fun y => by cases y)
    | (have hl : a < len := by
        by_cases hl : a < len
        · exact hl
        · rw [if_neg (fun y => hl y.2)] at hg; cases hg
       rw [if_pos ⟨hb, hl⟩] at hg
       have hs : stp T len 68 b a = (false, a + 1, [T a - 48]) := by
        unfold stp
        rw [hb, if_neg (by decide)]
        have : prt T len 68 a = some ([T a - 48], a + 1) := by
          unfold prt
          rw [if_pos hl, if_neg (by decide), if_pos rfl, if_pos hg]
        rw [this]
       rw [hs]
       first | exact h2 | exact fun _ => by rw [hv])
theorem r_N {Mc M : Off} {T : Nat → Int32} {len a : Nat} {b : Bool} (hT : okT T len) (hM : rTx T len Mc) (h : PRc Mc M b a) (ha : a ≤ len) : ∃ v M2, PRc Mc M2 (stp T len 78 b a).1 (stp T len 78 b a).2.1 ∧ ((stp T len 78 b a).1 = false → (stp T len 78 b a).2.2 = [v]) ∧ ∀ post : Int32 → Off → Prop, post v M2 → wp_X5_number post M := by
  obtain ⟨v1, M1, h1, k1, n1⟩ := r_D hT hM h ha
  by_cases hok : b = false ∧ a < len ∧ dgB (T a) = true
  · obtain ⟨hb, hl, hd⟩ := hok
    subst hb
    have hs : stp T len 68 false a = (false, a + 1, [T a - 48]) := by
      unfold stp
      have : prt T len 68 a = some ([T a - 48], a + 1) := by
        unfold prt
        rw [if_pos hl, if_neg (by decide), if_pos rfl, if_pos hd]
      rw [if_neg (by decide), this]
    rw [hs] at h1 k1
    have hv : v1 = T a - 48 := by
      have := k1 rfl
      simp at this
      exact this.symm
    by_cases hd2 : a + 1 < len ∧ dgB (T (a + 1)) = true
    · have h78 : stp T len 78 false a = (false, a + 2, [10 * (T a - 48) + (T (a + 1) - 48)]) := by
        unfold stp
        have : prt T len 78 a = some ([10 * (T a - 48) + (T (a + 1) - 48)], a + 2) := by
          unfold prt
          rw [if_pos hl, if_neg (by decide), if_neg (by decide), if_pos rfl, if_pos hd, if_pos hd2]
        rw [if_neg (by decide), this]
      rw [h78]
      obtain ⟨v6, M5, h5, k5, n5⟩ := r_D hT hM h1 (by show a + 1 ≤ len; omega)
      have hs2 : stp T len 68 false (a + 1) = (false, a + 1 + 1, [T (a + 1) - 48]) := by
        unfold stp
        have : prt T len 68 (a + 1) = some ([T (a + 1) - 48], a + 1 + 1) := by
          unfold prt
          rw [if_pos hd2.1, if_neg (by decide), if_pos rfl, if_pos hd2.2]
        rw [if_neg (by decide), this]
      rw [hs2] at h5 k5
      have hv6 : v6 = T (a + 1) - 48 := by
        have := k5 rfl
        simp at this
        exact this.symm
      refine ⟨_, M5, h5, fun _ => rfl, fun post hp => n1 _ (r_mark hT hM h1 (by show a + 1 ≤ len; omega) (r_in ?_))⟩
      rw [if_pos ⟨rfl, hd2.1⟩, show dgB (T (a + 1)) = true from hd2.2]
      refine b10 (n5 _ ?_)
      rw [hv, hv6]
      exact hp
    · have h78 : stp T len 78 false a = (false, a + 1, [T a - 48]) := by
        unfold stp
        have : prt T len 78 a = some ([T a - 48], a + 1) := by
          unfold prt
          rw [if_pos hl, if_neg (by decide), if_neg (by decide), if_pos rfl, if_pos hd, if_neg hd2]
        rw [if_neg (by decide), this]
      rw [h78]
      have hz : dgB (if false = false ∧ a + 1 < len then T (a + 1) else -1) = false := by
        by_cases hl2 : a + 1 < len
        · rw [if_pos ⟨rfl, hl2⟩]
          cases hx : dgB (T (a + 1))
          · rfl
          · exact absurd ⟨hl2, hx⟩ hd2
        · rw [if_neg (fun y => hl2 y.2)]; decide
      refine ⟨v1, M1, h1, fun _ => by rw [hv], fun post hp => n1 _ (r_mark hT hM h1 (by show a + 1 ≤ len; omega) (r_in ?_))⟩
      rw [hz]
      exact b00 hp
  · have hs : stp T len 68 b a = (true, a, []) ∧ stp T len 78 b a = (true, a, []) := by
      unfold stp
      cases b
      · rw [if_neg (by decide), if_neg (by decide)]
        have : prt T len 68 a = none ∧ prt T len 78 a = none := by
          unfold prt
          by_cases hl : a < len
          · have hd : ¬ dgB (T a) = true := fun y => hok ⟨rfl, hl, y⟩
            rw [if_pos hl, if_pos hl, if_neg (by decide), if_pos rfl, if_neg hd, if_neg (by decide), if_neg (by decide), if_pos rfl, if_neg hd]
            exact ⟨rfl, rfl⟩
          · rw [if_neg hl, if_neg hl]
            exact ⟨rfl, rfl⟩
        rw [this.1, this.2]
        exact ⟨rfl, rfl⟩
      · exact ⟨rfl, rfl⟩
    rw [hs.1] at h1
    rw [hs.2]
    refine ⟨v1, M1, h1, fun y => (by cases y), fun post hp => n1 _ (r_mark hT hM h1 ha (r_in ?_))⟩
    rw [if_neg (fun y => by cases y.1), dg_m1]
    exact b00 hp
theorem r_C {Mc M : Off} {T : Nat → Int32} {len a : Nat} {b : Bool} (hT : okT T len) (hM : rTx T len Mc) (h : PRc Mc M b a) (ha : a ≤ len) : ∃ v M2, PRc Mc M2 (stp T len 67 b a).1 (stp T len 67 b a).2.1 ∧ ((stp T len 67 b a).1 = false → (stp T len 67 b a).2.2 = [v]) ∧ ∀ post : Int32 → Off → Prop, post v M2 → wp_X5_colour post M := by
  by_cases hok : b = false ∧ a < len ∧ colB (T a) = true
  · obtain ⟨hb, hl, hd⟩ := hok
    subst hb
    have hs : stp T len 67 false a = (false, a + 1, [T a]) := by
      unfold stp
      have : prt T len 67 a = some ([T a], a + 1) := by
        unfold prt
        rw [if_pos hl, if_pos rfl, if_pos hd]
      rw [if_neg (by decide), this]
    rw [hs]
    obtain ⟨v, M2, hc, hn⟩ := r_next (g := true) hT hM h (fun _ _ => hl)
    rcases hc with ⟨y, -, -⟩ | ⟨-, h2, hv⟩
    · rcases y with y | y <;> cases y
    refine ⟨v, M2, h2, fun _ => by rw [hv], fun post hp => r_mark hT hM h ha (s5_bitOf ?_)⟩
    rw [if_pos ⟨rfl, hl⟩]
    obtain ⟨⟨i, hi, -, e⟩, -⟩ := col_yes (colB_t.mp hd)
    rw [e]
    refine iF ?_ (hn _ hp)
    have : i = 0 ∨ i = 1 ∨ i = 2 ∨ i = 3 := by omega
    rcases this with rfl | rfl | rfl | rfl <;> decide
  · have hz : bitF (if b = false ∧ a < len then T a else -1) = 0 := by
      by_cases hl : b = false ∧ a < len
      · rw [if_pos hl]
        exact (col_no (fun y => hok ⟨hl.1, hl.2, colB_t.mpr y⟩)).2
      · rw [if_neg hl]; decide
    have hs : stp T len 67 b a = (true, a, []) := by
      unfold stp
      cases b
      · rw [if_neg (by decide)]
        have : prt T len 67 a = none := by
          unfold prt
          by_cases hl : a < len
          · rw [if_pos hl, if_pos rfl, if_neg (fun y => hok ⟨rfl, hl, y⟩)]
          · rw [if_neg hl]
        rw [this]
      · rfl
    rw [hs]
    obtain ⟨v, M2, hc, hn⟩ := r_next (g := false) hT hM h (fun _ y => by cases y)
    rcases hc with ⟨-, h2, hv⟩ | ⟨⟨-, y⟩, -⟩
    · refine ⟨v, M2, h2, fun y => (by cases y), fun post hp => r_mark hT hM h ha (s5_bitOf ?_)⟩
      rw [hz]
      exact iT (by decide) (hn _ hp)
    · cases y
theorem r_T {Mc M : Off} {T : Nat → Int32} {len a : Nat} {b : Bool} (hT : okT T len) (hM : rTx T len Mc) (h : PRc Mc M b a) (ha : a ≤ len) : ∃ v M2, PRc Mc M2 (stp T len 84 b a).1 (stp T len 84 b a).2.1 ∧ ((stp T len 84 b a).1 = false → (stp T len 84 b a).2.2 = [v]) ∧ ∀ post : Int32 → Off → Prop, post v M2 → wp_X5_clause post M := by
  by_cases hok : b = false ∧ a < len ∧ clsB (T a) = true
  · obtain ⟨hb, hl, hd⟩ := hok
    subst hb
    have hs : stp T len 84 false a = (false, a + 1, [T a]) := by
      unfold stp
      have : prt T len 84 a = some ([T a], a + 1) := by
        unfold prt
        rw [if_pos hl, if_neg (by decide), if_neg (by decide), if_neg (by decide), if_pos rfl, if_pos hd]
      rw [if_neg (by decide), this]
    rw [hs]
    obtain ⟨v, M2, hc, hn⟩ := r_next (g := true) hT hM h (fun _ _ => hl)
    rcases hc with ⟨y, -, -⟩ | ⟨-, h2, hv⟩
    · rcases y with y | y <;> cases y
    refine ⟨v, M2, h2, fun _ => by rw [hv], fun post hp => r_mark hT hM h ha ?_⟩
    rw [if_pos ⟨rfl, hl⟩]
    exact s5_isClause_t (clsB_t.mp hd) (hn _ hp)
  · have hz : ¬ isCls (if b = false ∧ a < len then T a else -1) := by
      by_cases hl : b = false ∧ a < len
      · rw [if_pos hl]
        exact fun y => hok ⟨hl.1, hl.2, clsB_t.mpr y⟩
      · rw [if_neg hl]
        rintro (y | y | y) <;> exact absurd y (by decide)
    have hs : stp T len 84 b a = (true, a, []) := by
      unfold stp
      cases b
      · rw [if_neg (by decide)]
        have : prt T len 84 a = none := by
          unfold prt
          by_cases hl : a < len
          · rw [if_pos hl, if_neg (by decide), if_neg (by decide), if_neg (by decide), if_pos rfl, if_neg (fun y => hok ⟨rfl, hl, y⟩)]
          · rw [if_neg hl]
        rw [this]
      · rfl
    rw [hs]
    obtain ⟨v, M2, hc, hn⟩ := r_next (g := false) hT hM h (fun _ y => by cases y)
    rcases hc with ⟨-, h2, hv⟩ | ⟨⟨-, y⟩, -⟩
    · exact ⟨v, M2, h2, fun y => (by cases y), fun post hp => r_mark hT hM h ha (s5_isClause_f hz (hn _ hp))⟩
    · cases y
theorem r_S {Mc M : Off} {T : Nat → Int32} {len a : Nat} {b : Bool} {f : Int32} (f1 : ¬ f = 67 ∧ ¬ f = 68 ∧ ¬ f = 78 ∧ ¬ f = 84 ∧ ¬ f = -1) (hT : okT T len) (hM : rTx T len Mc) (h : PRc Mc M b a) (ha : a ≤ len) : ∃ M2, PRc Mc M2 (stp T len f b a).1 (stp T len f b a).2.1 ∧ ((stp T len f b a).1 = false → (stp T len f b a).2.2 = []) ∧ ∀ post : Off → Prop, post M2 → wp_X5_sign post M f := by
  obtain ⟨f67, f68, f78, f84, fm⟩ := f1
  by_cases hok : b = false ∧ a < len ∧ T a = f
  · obtain ⟨hb, hl, hd⟩ := hok
    subst hb
    have hs : stp T len f false a = (false, a + 1, []) := by
      unfold stp
      have : prt T len f a = some ([], a + 1) := by
        unfold prt
        rw [if_pos hl, if_neg f67, if_neg f68, if_neg f78, if_neg f84, if_pos hd]
      rw [if_neg (by decide), this]
    rw [hs]
    obtain ⟨v, M2, hc, hn⟩ := r_next (g := true) hT hM h (fun _ _ => hl)
    rcases hc with ⟨y, -, -⟩ | ⟨-, h2, hv⟩
    · rcases y with y | y <;> cases y
    refine ⟨M2, h2, fun _ => rfl, fun post hp => r_mark hT hM h ha ?_⟩
    rw [if_pos ⟨rfl, hl⟩]
    exact jT hd (hn _ hp)
  · have hz : ¬ (if b = false ∧ a < len then T a else -1) = f := by
      by_cases hl : b = false ∧ a < len
      · rw [if_pos hl]
        exact fun y => hok ⟨hl.1, hl.2, y⟩
      · rw [if_neg hl]
        exact fun y => fm y.symm
    have hs : stp T len f b a = (true, a, []) := by
      unfold stp
      cases b
      · rw [if_neg (by decide)]
        have : prt T len f a = none := by
          unfold prt
          by_cases hl : a < len
          · rw [if_pos hl, if_neg f67, if_neg f68, if_neg f78, if_neg f84, if_neg (fun y => hok ⟨rfl, hl, y⟩)]
          · rw [if_neg hl]
        rw [this]
      · rfl
    rw [hs]
    obtain ⟨v, M2, hc, hn⟩ := r_next (g := false) hT hM h (fun _ y => by cases y)
    rcases hc with ⟨-, h2, hv⟩ | ⟨⟨-, y⟩, -⟩
    · exact ⟨M2, h2, fun y => (by cases y), fun post hp => r_mark hT hM h ha (jF hz (hn _ hp))⟩
    · cases y
theorem stp_le {T : Nat → Int32} {len : Nat} {f : Int32} {b : Bool} {a : Nat} (ha : a ≤ len) : (stp T len f b a).2.1 ≤ len := by
  unfold stp
  cases b
  · rw [if_neg (by decide)]
    cases hp : prt T len f a with
    | none => exact ha
    | some p => exact (prt_ge (w := p.1) (a2 := p.2) hp).2.1
  · exact ha
def GR (M : Off) (L : Cmds) : Prop := M 0 22 = nI L.length ∧ ∀ q, q < L.length → M 8 q = (L.getD q (0, [])).1 ∧ ∀ i, i < (L.getD q (0, [])).2.length → M 9 (3 * q + i) = (L.getD q (0, [])).2.getD i 0
/-- between commands: what changes from M0 on -/
def PRb (M0 M : Off) (b : Bool) (a : Nat) (L : Cmds) : Prop := (∀ r, r ≠ 0 → r ≠ 8 → r ≠ 9 → M r = M0 r) ∧ (∀ q, q < 21 ∨ 23 < q → M 0 q = M0 0 q) ∧ M 0 21 = nI a ∧ M 0 23 = bI b ∧ (b = false → GR M L)
theorem r_end {M0 M1 Mc M : Off} {b : Bool} {a a0 : Nat} {L : Cmds} {l p0 p1 p2 : Int32} {vs : List Int32} (h1 : PRb M0 M1 false a0 L) (hL : L.length < 20) (hG : len3 L) (h3 : vs.length ≤ 3) (hc : (∀ r, r ≠ 0 → r ≠ 8 → Mc r = M1 r) ∧ (∀ q, q < 21 ∨ q = 22 ∨ 23 < q → Mc 0 q = M1 0 q) ∧ (∀ q, q ≠ L.length → Mc 8 q = M1 8 q) ∧ Mc 8 L.length = l) (h : PRc Mc M b a)
    (hv : b = false → ∀ i, i < vs.length → [p0, p1, p2].getD i 0 = vs.getD i 0) : ∃ M2, PRb M0 M2 b a (L ++ [(l, vs)]) ∧ ∀ post : Off → Prop, post M2 → wp_X5_keeps (fun o => wj_X5_command_428 post o) M p0 p1 p2 := by
  obtain ⟨a1, a2, a3, a4, a5⟩ := h1
  obtain ⟨g1, g2⟩ := a5 rfl
  obtain ⟨c1, c2, c3, c4⟩ := hc
  obtain ⟨r1, r0, r21, r23⟩ := h
  have e22 : M 0 22 = nI L.length := by rw [r0 22 (by decide) (by decide), c2 22 (by omega), g1]
  generalize ho3 : st (st (st M 9 (3 * L.length) p0) 9 (3 * L.length + 1) p1) 9 (3 * L.length + 2) p2 = o3
  have e3 := ho3.symm
  have hk : ∀ post : Off → Prop, wj_X5_command_428 post o3 → wp_X5_keeps (fun o => wj_X5_command_428 post o) M p0 p1 p2 := by
    intro post hp
    unfold wp_X5_keeps
    rw [e22, show (3 : Int32) = nI 3 from rfl, nI_mul, kc (by omega)]
    refine ⟨vpk (by omega) (by omega), fun o1 e1 => ?_⟩
    have e221 : o1 0 22 = nI L.length := by rw [e1, st_r _ _ _ _ _ (by decide)]; exact e22
    rw [e221, nI_mul, nI_add1, kc (by omega)]
    refine ⟨vpk (by omega) (by omega), fun o2 e2 => ?_⟩
    have e222 : o2 0 22 = nI L.length := by rw [e2, st_r _ _ _ _ _ (by decide)]; exact e221
    rw [e222, nI_mul, show (2 : Int32) = nI 2 from rfl, nI_add, kc (by omega)]
    refine ⟨vpk (by omega) (by omega), fun o3' e3' => ?_⟩
    rw [e3', e2, e1, ho3]
    exact hp
  have q9 : ∀ r, r ≠ 9 → o3 r = M r := fun r hr => by rw [e3, st_r _ _ _ _ _ hr, st_r _ _ _ _ _ hr, st_r _ _ _ _ _ hr]
  have e9 : ∀ x, o3 9 x = if x = 3 * L.length + 2 then p2 else if x = 3 * L.length + 1 then p1 else if x = 3 * L.length then p0 else M 9 x := fun x => by
    rw [e3, st_at]
    by_cases x2 : x = 3 * L.length + 2
    · rw [if_pos ⟨rfl, x2⟩, if_pos x2]
    rw [if_neg (fun y => x2 y.2), if_neg x2, st_at]
    by_cases x1 : x = 3 * L.length + 1
    · rw [if_pos ⟨rfl, x1⟩, if_pos x1]
    rw [if_neg (fun y => x1 y.2), if_neg x1, st_at]
    by_cases x0 : x = 3 * L.length
    · rw [if_pos ⟨rfl, x0⟩, if_pos x0]
    rw [if_neg (fun y => x0 y.2), if_neg x0]
  have rows : ∀ r, r ≠ 0 → r ≠ 8 → r ≠ 9 → o3 r = M0 r := fun r h0 h8 h9 => by rw [q9 r h9, r1 r h0, c1 r h0 h8, a1 r h0 h8 h9]
  have row0 : ∀ q, q < 21 ∨ 23 < q → o3 0 q = M0 0 q := fun q hq => by rw [q9 0 (by decide), r0 q (by omega) (by omega), c2 q (by omega), a2 q hq]
  have e23 : o3 0 23 = bI b := by rw [q9 0 (by decide)]; exact r23
  have e21 : o3 0 21 = nI a := by rw [q9 0 (by decide)]; exact r21
  have e322 : o3 0 22 = nI L.length := by rw [q9 0 (by decide)]; exact e22
  cases b
  · refine ⟨st o3 0 22 (nI (L.length + 1)), ?_, fun post hp => hk post ?_⟩
    case refine_2 =>
      unfold wj_X5_command_428
      rw [e23]
      refine b01 (fun o11 e11 => ?_)
      rw [e322, nI_add1] at e11
      rw [e11]
      exact hp
    generalize he11 : st o3 0 22 (nI (L.length + 1)) = o11
    have e11 := he11.symm
    refine ⟨fun r h0 h8 h9 => by rw [e11, st_r _ _ _ _ _ h0]; exact rows r h0 h8 h9, fun q hq => by rw [e11, st_at, if_neg (by omega)]; exact row0 q hq, by rw [e11, st_at, if_neg (by omega)]; exact e21, by rw [e11, st_at, if_neg (by omega)]; exact e23, fun _ => ⟨by rw [e11, st_at, if_pos ⟨rfl, rfl⟩, List.length_append]; rfl, fun q hq => ?_⟩⟩
    rw [e11, st_r _ _ _ _ _ (by decide), st_r _ _ _ _ _ (by decide), q9 8 (by decide), r1 8 (by decide)]
    rw [List.length_append, List.length_singleton] at hq
    by_cases e : q = L.length
    · subst e
      rw [getD_la]
      refine ⟨c4, fun i hi => ?_⟩
      have hi : i < vs.length := hi
      show o3 9 (3 * L.length + i) = vs.getD i 0
      rw [← hv rfl i hi, e9]
      have : i = 0 ∨ i = 1 ∨ i = 2 := by omega
      rcases this with rfl | rfl | rfl
      · rw [if_neg (by omega), if_neg (by omega), if_pos (Nat.add_zero _)]; rfl
      · rw [if_neg (by omega), if_pos rfl]; rfl
      · rw [if_pos rfl]; rfl
    · rw [getD_lb (by omega)]
      obtain ⟨b1, b2⟩ := g2 q (by omega)
      refine ⟨by rw [c3 q e]; exact b1, fun i hi => ?_⟩
      have := hG q (by omega)
      rw [e9, if_neg (by omega), if_neg (by omega), if_neg (by omega), r1 9 (by decide), c1 9 (by decide) (by decide)]
      exact b2 i hi
  · refine ⟨o3, ⟨rows, row0, e21, e23, fun y => by cases y⟩, fun post hp => hk post ?_⟩
    unfold wj_X5_command_428
    rw [e23]
    exact b11 hp
