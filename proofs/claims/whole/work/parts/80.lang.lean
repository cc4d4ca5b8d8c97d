/-! ===== the command language, once for both sides ===== -/
def frm (p : Int32) : Nat := if p = 97 then 6 else if p = 98 then 12 else if p = 100 then 8 else if p = 101 then 14 else if p = 106 then 10 else if p = 107 then 7 else if p = 108 then 7 else if p = 109 then 6 else if p = 110 then 5 else if p = 112 then 7 else if p = 113 then 11 else if p = 114 then 9 else if p = 116 then 13 else if p = 117 then 12 else if p = 119 then 7 else if p = 121 then 7 else 15
def dgB (p : Int32) : Bool := !decide (p < 48) && !decide (57 < p)
def colB (p : Int32) : Bool := decide (p = 114 ∨ p = 103 ∨ p = 98 ∨ p = 119)
def clsB (p : Int32) : Bool := decide (p = 111 ∨ p = 115 ∨ p = 120)
theorem colB_t {p : Int32} : colB p = true ↔ isCol p := decide_eq_true_iff
theorem clsB_t {p : Int32} : clsB p = true ↔ isCls p := decide_eq_true_iff
/-- a part of a command's form, at a place of the text: what it gives, where it ends -/
def prt (T : Nat → Int32) (len : Nat) (f : Int32) (a : Nat) : Option (List Int32 × Nat) :=
  if a < len then
    (if f = 67 then (if colB (T a) = true then some ([T a], a + 1) else none)
    else if f = 68 then (if dgB (T a) = true then some ([T a - 48], a + 1) else none)
    else if f = 78 then (if dgB (T a) = true then (if a + 1 < len ∧ dgB (T (a + 1)) = true then some ([10 * (T a - 48) + (T (a + 1) - 48)], a + 2) else some ([T a - 48], a + 1)) else none)
    else if f = 84 then (if clsB (T a) = true then some ([T a], a + 1) else none)
    else (if T a = f then some ([], a + 1) else none))
  else none
def stp (T : Nat → Int32) (len : Nat) (f : Int32) (b : Bool) (a : Nat) : Bool × Nat × List Int32 :=
  if b = true then (true, a, []) else match prt T len f a with
    | none => (true, a, [])
    | some (w, a2) => (false, a2, w)
def run (T : Nat → Int32) (len : Nat) : List Int32 → Bool × Nat × List Int32 → Bool × Nat × List Int32
  | [], s => s
  | f :: fs, s => run T len fs ((stp T len f s.1 s.2.1).1, (stp T len f s.1 s.2.1).2.1, s.2.2 ++ (stp T len f s.1 s.2.1).2.2)
theorem stp_bad {T : Nat → Int32} {len : Nat} {f : Int32} {a : Nat} : stp T len f true a = (true, a, []) := if_pos rfl
theorem stp_ok {T : Nat → Int32} {len : Nat} {f : Int32} {b : Bool} {a : Nat} (h : (stp T len f b a).1 = false) : b = false := by
  cases b
  · rfl
  · rw [stp_bad] at h; cases h
theorem run_bad {T : Nat → Int32} {len : Nat} : ∀ (fs : List Int32) (a : Nat) (vs : List Int32), run T len fs (true, a, vs) = (true, a, vs) := by
  intro fs
  induction fs with
  | nil => intro a vs; rfl
  | cons f fs ih =>
    intro a vs
    rw [run, stp_bad]
    simp only [List.append_nil]
    exact ih a vs
theorem prt_ge {T : Nat → Int32} {len : Nat} {f : Int32} {a a2 : Nat} {w : List Int32} (h : prt T len f a = some (w, a2)) : a + 1 ≤ a2 ∧ a2 ≤ len ∧ (if f = 67 ∨ f = 68 ∨ f = 78 ∨ f = 84 then ∃ x, w = [x] ∧ (f = 67 → isCol x) ∧ (f = 84 → isCls x) else w = []) := by
  unfold prt at h
  by_cases h0 : a < len
  case neg => rw [if_neg h0] at h; cases h
  rw [if_pos h0] at h
  by_cases h1 : f = 67
  · subst h1
    rw [if_pos rfl] at h
    split at h
    · rename_i hc
      cases h
      refine ⟨by omega, by omega, ?_⟩
      rw [if_pos (Or.inl rfl)]
      exact ⟨_, rfl, fun _ => colB_t.mp hc, fun y => absurd y (by decide)⟩
    · cases h
  rw [if_neg h1] at h
  by_cases h2 : f = 68
  · subst h2
    rw [if_pos rfl] at h
    split at h
    · cases h
      refine ⟨by omega, by omega, ?_⟩
      rw [if_pos (Or.inr (Or.inl rfl))]
      exact ⟨_, rfl, fun y => absurd y (by decide), fun y => absurd y (by decide)⟩
    · cases h
  rw [if_neg h2] at h
  by_cases h3 : f = 78
  · subst h3
    rw [if_pos rfl] at h
    split at h
    · split at h
      · cases h
        refine ⟨by omega, by omega, ?_⟩
        rw [if_pos (Or.inr (Or.inr (Or.inl rfl)))]
        exact ⟨_, rfl, fun y => absurd y (by decide), fun y => absurd y (by decide)⟩
      · cases h
        refine ⟨by omega, by omega, ?_⟩
        rw [if_pos (Or.inr (Or.inr (Or.inl rfl)))]
        exact ⟨_, rfl, fun y => absurd y (by decide), fun y => absurd y (by decide)⟩
    · cases h
  rw [if_neg h3] at h
  by_cases h4 : f = 84
  · subst h4
    rw [if_pos rfl] at h
    split at h
    · rename_i hc
      cases h
      refine ⟨by omega, by omega, ?_⟩
      rw [if_pos (Or.inr (Or.inr (Or.inr rfl)))]
      exact ⟨_, rfl, fun y => absurd y (by decide), fun _ => clsB_t.mp hc⟩
    · cases h
  rw [if_neg h4] at h
  split at h
  · cases h
    refine ⟨by omega, by omega, ?_⟩
    rw [if_neg (by rintro (y | y | y | y); exact h1 y; exact h2 y; exact h3 y; exact h4 y)]
  · cases h
def vok : List Int32 → List Int32 → Prop
  | [], ws => ws = []
  | f :: fs, ws => if f = 67 ∨ f = 68 ∨ f = 78 ∨ f = 84 then ∃ w ws2, ws = w :: ws2 ∧ (f = 67 → isCol w) ∧ (f = 84 → isCls w) ∧ vok fs ws2 else vok fs ws
theorem run_ok {T : Nat → Int32} {len : Nat} : ∀ (fs : List Int32) (a : Nat) (vs : List Int32), a ≤ len → (run T len fs (false, a, vs)).1 = false → a + fs.length ≤ (run T len fs (false, a, vs)).2.1 ∧ (run T len fs (false, a, vs)).2.1 ≤ len ∧ ∃ ws, (run T len fs (false, a, vs)).2.2 = vs ++ ws ∧ vok fs ws := by
  intro fs
  induction fs with
  | nil =>
    intro a vs ha _
    exact ⟨Nat.le_refl _, ha, [], (List.append_nil vs).symm, rfl⟩
  | cons f fs ih =>
    intro a vs ha h
    rw [run] at h ⊢
    cases hp : prt T len f a with
    | none =>
      have hs : stp T len f false a = (true, a, []) := by unfold stp; rw [if_neg (by decide), hp]
      simp only [hs, run_bad] at h
      cases h
    | some p =>
      obtain ⟨w, a2⟩ := p
      have hs : stp T len f false a = (false, a2, w) := by unfold stp; rw [if_neg (by decide), hp]
      simp only [hs] at h ⊢
      obtain ⟨g1, g2, g3⟩ := prt_ge hp
      obtain ⟨i1, i2, ws, i3, i4⟩ := ih a2 (vs ++ w) g2 h
      refine ⟨by rw [List.length_cons]; omega, i2, w ++ ws, by rw [i3, List.append_assoc], ?_⟩
      rw [vok]
      by_cases hf : f = 67 ∨ f = 68 ∨ f = 78 ∨ f = 84
      · rw [if_pos hf] at g3 ⊢
        obtain ⟨x, e, e1, e2⟩ := g3
        exact ⟨x, ws, by rw [e]; rfl, e1, e2, i4⟩
      · rw [if_neg hf] at g3 ⊢
        rw [g3]
        exact i4
/-- a command at a place -/
def com (T : Nat → Int32) (len a : Nat) : Bool × Nat × List Int32 :=
  if a < len ∧ frm (T a) ≠ 15 then run T len (gBs (frm (T a))) (false, a + 1, []) else (true, a, [])
abbrev Cmds : Type := List (Int32 × List Int32)
/-- the whole input: wrong?, where it ends, what it orders -/
def parS (T : Nat → Int32) (len : Nat) : Nat → Nat → Cmds → Bool × Nat × Cmds
  | 0, a, L => (true, a, L)
  | n + 1, a, L =>
    if (com T len a).1 = true then (true, (com T len a).2.1, L)
    else if (com T len a).2.1 < len then
      (if T (com T len a).2.1 = 59 then parS T len n ((com T len a).2.1 + 1) (L ++ [(T a, (com T len a).2.2)]) else (true, (com T len a).2.1, L ++ [(T a, (com T len a).2.2)]))
    else (false, (com T len a).2.1, L ++ [(T a, (com T len a).2.2)])
def cmdOK (p : Int32 × List Int32) : Prop := frm p.1 ≠ 15 ∧ vok (gBs (frm p.1)) p.2
theorem frm_lt (p : Int32) : frm p = 15 ∨ (5 ≤ frm p ∧ frm p ≤ 14) := by
  unfold frm
  by_cases h97 : p = 97
  · rw [if_pos h97]; exact Or.inr ⟨by omega, by omega⟩
  rw [if_neg h97]
  by_cases h98 : p = 98
  · rw [if_pos h98]; exact Or.inr ⟨by omega, by omega⟩
  rw [if_neg h98]
  by_cases h100 : p = 100
  · rw [if_pos h100]; exact Or.inr ⟨by omega, by omega⟩
  rw [if_neg h100]
  by_cases h101 : p = 101
  · rw [if_pos h101]; exact Or.inr ⟨by omega, by omega⟩
  rw [if_neg h101]
  by_cases h106 : p = 106
  · rw [if_pos h106]; exact Or.inr ⟨by omega, by omega⟩
  rw [if_neg h106]
  by_cases h107 : p = 107
  · rw [if_pos h107]; exact Or.inr ⟨by omega, by omega⟩
  rw [if_neg h107]
  by_cases h108 : p = 108
  · rw [if_pos h108]; exact Or.inr ⟨by omega, by omega⟩
  rw [if_neg h108]
  by_cases h109 : p = 109
  · rw [if_pos h109]; exact Or.inr ⟨by omega, by omega⟩
  rw [if_neg h109]
  by_cases h110 : p = 110
  · rw [if_pos h110]; exact Or.inr ⟨by omega, by omega⟩
  rw [if_neg h110]
  by_cases h112 : p = 112
  · rw [if_pos h112]; exact Or.inr ⟨by omega, by omega⟩
  rw [if_neg h112]
  by_cases h113 : p = 113
  · rw [if_pos h113]; exact Or.inr ⟨by omega, by omega⟩
  rw [if_neg h113]
  by_cases h114 : p = 114
  · rw [if_pos h114]; exact Or.inr ⟨by omega, by omega⟩
  rw [if_neg h114]
  by_cases h116 : p = 116
  · rw [if_pos h116]; exact Or.inr ⟨by omega, by omega⟩
  rw [if_neg h116]
  by_cases h117 : p = 117
  · rw [if_pos h117]; exact Or.inr ⟨by omega, by omega⟩
  rw [if_neg h117]
  by_cases h119 : p = 119
  · rw [if_pos h119]; exact Or.inr ⟨by omega, by omega⟩
  rw [if_neg h119]
  by_cases h121 : p = 121
  · rw [if_pos h121]; exact Or.inr ⟨by omega, by omega⟩
  rw [if_neg h121]
  exact Or.inl rfl
theorem gbs_len : ∀ n, 5 ≤ n → n ≤ 14 → 1 ≤ (gBs n).length ∧ (gBs n).length ≤ 3 := by
  intro n h1 h2
  have : n = 5 ∨ n = 6 ∨ n = 7 ∨ n = 8 ∨ n = 9 ∨ n = 10 ∨ n = 11 ∨ n = 12 ∨ n = 13 ∨ n = 14 := by omega
  rcases this with rfl | rfl | rfl | rfl | rfl | rfl | rfl | rfl | rfl | rfl <;> decide
theorem com_ok {T : Nat → Int32} {len a : Nat} (h : (com T len a).1 = false) : a < len ∧ frm (T a) ≠ 15 ∧ com T len a = run T len (gBs (frm (T a))) (false, a + 1, []) ∧ a + 2 ≤ (com T len a).2.1 ∧ (com T len a).2.1 ≤ len ∧ cmdOK (T a, (com T len a).2.2) := by
  unfold com at h ⊢
  by_cases hc : a < len ∧ frm (T a) ≠ 15
  · rw [if_pos hc] at h ⊢
    obtain ⟨i1, i2, ws, i3, i4⟩ := run_ok _ (a + 1) [] (by omega) h
    have hf := (frm_lt (T a)).resolve_left hc.2
    have hl := gbs_len _ hf.1 hf.2
    refine ⟨hc.1, hc.2, rfl, by omega, i2, hc.2, ?_⟩
    rw [i3]
    exact i4
  · rw [if_neg hc] at h
    cases h
theorem getD_la {α : Type} {L : List α} {x d : α} : (L ++ [x]).getD L.length d = x := by
  simp [List.getD]
theorem getD_lb {α : Type} {L : List α} {x d : α} {q : Nat} (h : q < L.length) : (L ++ [x]).getD q d = L.getD q d := by
  simp only [List.getD, List.getElem?_append_left h]
/-! the class reads -/
def okT (T : Nat → Int32) (len : Nat) : Prop := len ≤ 60 ∧ ∀ i, i < len → ∃ ch, 32 ≤ ch ∧ ch ≤ 126 ∧ T i = nI ch
def GC (o : Off) (L : Cmds) : Prop := ∀ q, q < L.length → o 2 q = (L.getD q (0, [])).1 ∧ ∀ i, i < (L.getD q (0, [])).2.length → o 3 (3 * q + i) = (L.getD q (0, [])).2.getD i 0
def PC (o : Off) (T : Nat → Int32) (len a : Nat) (L : Cmds) (l : Int32) (vs : List Int32) : Prop :=
  o 0 3 = nI len ∧ o 0 4 = nI L.length ∧ o 0 5 = nI a ∧ o 0 6 = nI vs.length ∧ (∀ i, i < len → o 1 i = T i) ∧ GC o L ∧ o 2 L.length = l ∧ ∀ i, i < vs.length → o 3 (3 * L.length + i) = vs.getD i 0
theorem isC_n {ch : Nat} (h : ch < 128) : isC (nI ch) := by
  have := u16 (nI ch)
  rw [(and_255 ch h).2] at this
  exact this
theorem x1_here {post : Int32 → Prop} {o : Off} {T : Nat → Int32} {len a : Nat} (hT : okT T len) (h3 : o 0 3 = nI len) (h5 : o 0 5 = nI a) (ha : a ≤ len) (ht : ∀ i, i < len → o 1 i = T i) (h : post (if a < len then T a else 0)) : wp_X1_here post o := by
  have h60 := hT.1
  unfold wp_X1_here
  rw [h3, h5, kc (by omega)]
  refine iF (nI_pos (by omega)) ?_
  by_cases hl : a < len
  · rw [if_pos hl] at h
    obtain ⟨ch, c1, c2, c3⟩ := hT.2 a hl
    refine iF (by rw [nI_lei (by omega) (by omega)]; omega) ⟨vpk (by omega) (by omega), ?_⟩
    rw [ht a hl]
    refine ⟨?_, h⟩
    rw [c3]
    exact isC_n (by omega)
  · rw [if_neg hl] at h
    exact iT (by rw [nI_lei (by omega) (by omega)]; omega) h
theorem x1_dig {post : Int32 → Prop} {p : Int32} (h : post (bI (dgB p))) : wp_X1_isDigit post p := by
  unfold wp_X1_isDigit
  unfold dgB at h
  by_cases h1 : p < 48
  · rw [decide_eq_true h1] at h
    exact iT h1 h
  · rw [decide_eq_false h1] at h
    refine iF h1 ?_
    by_cases h2 : 57 < p
    · rw [decide_eq_true h2] at h
      exact iT h2 h
    · rw [decide_eq_false h2] at h
      exact iF h2 h
theorem x1_put {post : Off → Prop} {o : Off} {c n : Nat} {v : Int32} (h4 : o 0 4 = nI c) (h6 : o 0 6 = nI n) (hc : c < 20) (hn : n < 3) (h : post (st (st o 3 (3 * c + n) v) 0 6 (nI (n + 1)))) : wp_X1_put post o v := by
  unfold wp_X1_put
  rw [h4, h6, show (3 : Int32) = nI 3 from rfl, nI_mul, nI_add, kc (by omega)]
  refine iF (by rw [nI_lei (by omega) (by omega)]; omega) ⟨vpk (by omega) (by omega), fun o1 e1 o2 e2 => ?_⟩
  have e6 : o1 0 6 = nI n := by rw [e1, st_r _ _ _ _ _ (by decide)]; exact h6
  rw [e6, nI_add1] at e2
  rw [e2, e1, Nat.mul_comm c 3]
  exact h
theorem PC_put {o o2 : Off} {T : Nat → Int32} {len a a2 : Nat} {L : Cmds} {l v : Int32} {vs : List Int32} (h : PC o T len a L l vs) (h3 : o2 0 3 = o 0 3) (h4 : o2 0 4 = o 0 4) (h5 : o2 0 5 = nI a2) (h6 : o2 0 6 = nI (vs.length + 1)) (h1 : o2 1 = o 1) (h2 : o2 2 = o 2) (hq : ∀ q, q ≠ 3 * L.length + vs.length → o2 3 q = o 3 q) (hv : o2 3 (3 * L.length + vs.length) = v) (h3l : vs.length < 3) (hG : ∀ q, q < L.length → (L.getD q (0, [])).2.length ≤ 3) : PC o2 T len a2 L l (vs ++ [v]) := by
  obtain ⟨a1, a2', a3, a4, a5, a6, a7, a8⟩ := h
  refine ⟨h3.trans a1, h4.trans a2', h5, by rw [h6, List.length_append]; rfl, fun i hi => by rw [h1]; exact a5 i hi, fun q hq2 => ?_, by rw [h2]; exact a7, fun i hi => ?_⟩
  · obtain ⟨b1, b2⟩ := a6 q hq2
    refine ⟨by rw [h2]; exact b1, fun i hi => ?_⟩
    have := hG q hq2
    rw [hq _ (by omega)]
    exact b2 i hi
  · rw [List.length_append, List.length_singleton] at hi
    by_cases e : i = vs.length
    · subst e
      rw [hv, getD_la]
    · rw [hq _ (by omega), getD_lb (by omega)]
      exact a8 i (by omega)
theorem num_c (a b : Int32) : a * 10 + b - 48 = 10 * a + (b - 48) := by
  rw [Int32.mul_comm, Int32.sub_eq_add_neg, Int32.sub_eq_add_neg, Int32.add_assoc]
def len3 (L : Cmds) : Prop := ∀ q, q < L.length → (L.getD q (0, [])).2.length ≤ 3
theorem x1_part {post : Int32 → Off → Prop} {o : Off} {T : Nat → Int32} {len a : Nat} {L : Cmds} {l f : Int32} {vs : List Int32} (hT : okT T len) (h : PC o T len a L l vs) (ha : a ≤ len) (hL : L.length < 20) (hv : vs.length < 3) (hG : len3 L) (f0 : ¬ f = 0)
    (h0 : prt T len f a = none → post 0 o) (h1 : ∀ w a2, prt T len f a = some (w, a2) → ∀ o2, PC o2 T len a2 L l (vs ++ w) → post 1 o2) : wp_X1_readPart post o f := by
  obtain ⟨p3, p4, p5, p6, pt, pg, p2, pv⟩ := id h
  have h60 := hT.1
  have here : ∀ {Q : Int32 → Prop}, Q (if a < len then T a else 0) → wp_X1_here Q o := fun hq => x1_here hT p3 p5 ha pt hq
  unfold wp_X1_readPart
  unfold prt at h0 h1
  by_cases f1 : f = 67
  · subst f1
    simp only [if_true] at h0 h1
    refine iT rfl ⟨by decide, here (s_col ?_)⟩
    by_cases hl : a < len
    · rw [if_pos hl] at h0 h1 ⊢
      by_cases hc : colB (T a) = true
      · rw [if_pos hc] at h0 h1
        obtain ⟨⟨i, hi, e, -⟩, -⟩ := col_yes (colB_t.mp hc)
        rw [e]
        refine iT (by rw [ile]; exact nI_pos (by omega)) (here (x1_put p4 p6 hL hv (fun o5 e5 => ⟨isB1, h1 _ _ rfl o5 ?_⟩)))
        rw [if_pos hl] at e5
        refine PC_put h ?_ ?_ ?_ ?_ ?_ ?_ (fun q hq => ?_) ?_ hv hG <;> subst e5
        · simp [st_at]
        · simp [st_at]
        · rw [st_at, if_pos ⟨rfl, rfl⟩, st_at, if_neg (by omega), st_r _ _ _ _ _ (by decide), p5, nI_add1]
        · simp [st_at]
        · rfl
        · rfl
        · rw [st_r _ _ _ _ _ (by decide), st_r _ _ _ _ _ (by decide), st_at, if_neg (fun y => hq y.2)]
        · rw [st_r _ _ _ _ _ (by decide), st_r _ _ _ _ _ (by decide), st_at, if_pos ⟨rfl, rfl⟩]
      · rw [if_neg hc] at h0
        rw [(col_no (fun y => hc (colB_t.mpr y))).1]
        exact iF (by decide) ⟨isB0, h0 rfl⟩
    · rw [if_neg hl] at h0 ⊢
      exact iF (by decide) ⟨isB0, h0 rfl⟩
  refine iF f1 ?_
  rw [if_neg f1] at h0 h1
  by_cases f2 : f = 68
  · subst f2
    simp only [if_true] at h0 h1
    refine iT rfl (here (x1_dig ?_))
    by_cases hl : a < len
    · rw [if_pos hl] at h0 h1 ⊢
      cases hc : dgB (T a)
      · rw [if_neg (by rw [hc]; decide)] at h0
        exact b01 ⟨isB0, h0 rfl⟩
      · rw [if_pos hc] at h0 h1
        refine b11 (here ?_)
        rw [if_pos hl]
        refine x1_put p4 p6 hL hv (fun o5 e5 => ⟨isB1, h1 _ _ rfl o5 ?_⟩)
        refine PC_put h ?_ ?_ ?_ ?_ ?_ ?_ (fun q hq => ?_) ?_ hv hG <;> subst e5
        · simp [st_at]
        · simp [st_at]
        · rw [st_at, if_pos ⟨rfl, rfl⟩, st_at, if_neg (by omega), st_r _ _ _ _ _ (by decide), p5, nI_add1]
        · simp [st_at]
        · rfl
        · rfl
        · rw [st_r _ _ _ _ _ (by decide), st_r _ _ _ _ _ (by decide), st_at, if_neg (fun y => hq y.2)]
        · rw [st_r _ _ _ _ _ (by decide), st_r _ _ _ _ _ (by decide), st_at, if_pos ⟨rfl, rfl⟩]
    · rw [if_neg hl] at h0 ⊢
      exact b01 ⟨isB0, h0 rfl⟩
  refine iF f2 ?_
  rw [if_neg f2] at h0 h1
  by_cases f3 : f = 78
  · subst f3
    simp only [if_true] at h0 h1
    refine iT rfl (here (x1_dig ?_))
    by_cases hl : a < len
    case neg =>
      rw [if_neg hl] at h0 ⊢
      exact b01 ⟨isB0, h0 rfl⟩
    rw [if_pos hl] at h0 h1 ⊢
    cases hc : dgB (T a)
    · rw [if_neg (by rw [hc]; decide)] at h0
      exact b01 ⟨isB0, h0 rfl⟩
    rw [if_pos hc] at h0 h1
    refine b11 (here ?_)
    rw [if_pos hl]
    intro v4 e4 o5 e5
    rw [p5, nI_add1] at e5
    have q3 : o5 0 3 = nI len := by rw [e5, st_at, if_neg (by omega)]; exact p3
    have q4 : o5 0 4 = nI L.length := by rw [e5, st_at, if_neg (by omega)]; exact p4
    have q5 : o5 0 5 = nI (a + 1) := by rw [e5, st_at, if_pos ⟨rfl, rfl⟩]
    have q6 : o5 0 6 = nI vs.length := by rw [e5, st_at, if_neg (by omega)]; exact p6
    have r1 : ∀ r, r ≠ 0 → o5 r = o r := fun r hr => by rw [e5, st_r _ _ _ _ _ hr]
    have qt : ∀ i, i < len → o5 1 i = T i := fun i hi => by rw [r1 1 (by decide)]; exact pt i hi
    have here5 : ∀ {Q : Int32 → Prop}, Q (if a + 1 < len then T (a + 1) else 0) → wp_X1_here Q o5 := fun hq => x1_here hT q3 q5 (by omega) qt hq
    refine here5 (x1_dig ?_)
    by_cases hd : a + 1 < len ∧ dgB (T (a + 1)) = true
    · rw [if_pos hd] at h1
      rw [if_pos hd.1, hd.2]
      refine b10 (here5 ?_)
      rw [if_pos hd.1]
      intro v10 e10 o11 e11
      rw [q5, nI_add1] at e11
      refine x1_put (c := L.length) (n := vs.length) (by rw [e11, st_at, if_neg (by omega)]; exact q4) (by rw [e11, st_at, if_neg (by omega)]; exact q6) hL hv ⟨isB1, h1 _ _ rfl _ ?_⟩
      refine PC_put h ?_ ?_ ?_ ?_ ?_ ?_ (fun q hq => ?_) ?_ hv hG
      · rw [st_at, if_neg (by omega), st_r _ _ _ _ _ (by decide), e11, st_at, if_neg (by omega)]; exact q3.trans p3.symm
      · rw [st_at, if_neg (by omega), st_r _ _ _ _ _ (by decide), e11, st_at, if_neg (by omega)]; exact q4.trans p4.symm
      · rw [st_at, if_neg (by omega), st_r _ _ _ _ _ (by decide), e11, st_at, if_pos ⟨rfl, rfl⟩]
      · rw [st_at, if_pos ⟨rfl, rfl⟩]
      · rw [st_r _ _ _ _ _ (by decide), st_r _ _ _ _ _ (by decide), e11, st_r _ _ _ _ _ (by decide)]; exact r1 1 (by decide)
      · rw [st_r _ _ _ _ _ (by decide), st_r _ _ _ _ _ (by decide), e11, st_r _ _ _ _ _ (by decide)]; exact r1 2 (by decide)
      · rw [st_r _ _ _ _ _ (by decide), st_at, if_neg (fun y => hq y.2), e11, st_r _ _ _ _ _ (by decide), r1 3 (by decide)]
      · rw [st_r _ _ _ _ _ (by decide), st_at, if_pos ⟨rfl, rfl⟩, e10, e4, num_c]
    · rw [if_neg hd] at h1
      have hb : bI (dgB (if a + 1 < len then T (a + 1) else 0)) = 0 := by
        by_cases hl2 : a + 1 < len
        · rw [if_pos hl2]
          cases hx : dgB (T (a + 1))
          · rfl
          · exact absurd ⟨hl2, hx⟩ hd
        · rw [if_neg hl2]; decide
      rw [hb]
      refine l00 (x1_put q4 q6 hL hv ⟨isB1, h1 _ _ rfl _ ?_⟩)
      refine PC_put h ?_ ?_ ?_ ?_ ?_ ?_ (fun q hq => ?_) ?_ hv hG
      · rw [st_at, if_neg (by omega), st_r _ _ _ _ _ (by decide)]; exact q3.trans p3.symm
      · rw [st_at, if_neg (by omega), st_r _ _ _ _ _ (by decide)]; exact q4.trans p4.symm
      · rw [st_at, if_neg (by omega), st_r _ _ _ _ _ (by decide)]; exact q5
      · rw [st_at, if_pos ⟨rfl, rfl⟩]
      · rw [st_r _ _ _ _ _ (by decide), st_r _ _ _ _ _ (by decide)]; exact r1 1 (by decide)
      · rw [st_r _ _ _ _ _ (by decide), st_r _ _ _ _ _ (by decide)]; exact r1 2 (by decide)
      · rw [st_r _ _ _ _ _ (by decide), st_at, if_neg (fun y => hq y.2), r1 3 (by decide)]
      · rw [st_r _ _ _ _ _ (by decide), st_at, if_pos ⟨rfl, rfl⟩, e4]
  refine iF f3 ?_
  rw [if_neg f3] at h0 h1
  by_cases f4 : f = 84
  · subst f4
    simp only [if_true] at h0 h1
    refine iT rfl ⟨by decide, here (s_cls ?_)⟩
    by_cases hl : a < len
    · rw [if_pos hl] at h0 h1 ⊢
      by_cases hc : clsB (T a) = true
      · rw [if_pos hc] at h0 h1
        obtain ⟨⟨i, hi, e⟩, -⟩ := cls_yes (clsB_t.mp hc)
        rw [e]
        refine iT (by rw [ile]; exact nI_pos (by omega)) (here (x1_put p4 p6 hL hv (fun o5 e5 => ⟨isB1, h1 _ _ rfl o5 ?_⟩)))
        rw [if_pos hl] at e5
        refine PC_put h ?_ ?_ ?_ ?_ ?_ ?_ (fun q hq => ?_) ?_ hv hG <;> subst e5
        · simp [st_at]
        · simp [st_at]
        · rw [st_at, if_pos ⟨rfl, rfl⟩, st_at, if_neg (by omega), st_r _ _ _ _ _ (by decide), p5, nI_add1]
        · simp [st_at]
        · rfl
        · rfl
        · rw [st_r _ _ _ _ _ (by decide), st_r _ _ _ _ _ (by decide), st_at, if_neg (fun y => hq y.2)]
        · rw [st_r _ _ _ _ _ (by decide), st_r _ _ _ _ _ (by decide), st_at, if_pos ⟨rfl, rfl⟩]
      · rw [if_neg hc] at h0
        rw [cls_no (fun y => hc (clsB_t.mpr y))]
        exact iF (by decide) ⟨isB0, h0 rfl⟩
    · rw [if_neg hl] at h0 ⊢
      exact iF (by decide) ⟨isB0, h0 rfl⟩
  refine iF f4 (here ?_)
  rw [if_neg f4] at h0 h1
  by_cases hl : a < len
  · rw [if_pos hl] at h0 h1 ⊢
    by_cases hc : T a = f
    · rw [if_pos hc] at h0 h1
      refine iT hc (fun o2 e2 => ⟨isB1, h1 _ _ rfl o2 ?_⟩)
      rw [p5, nI_add1] at e2
      rw [List.append_nil]
      have r1 : ∀ r, r ≠ 0 → o2 r = o r := fun r hr => by rw [e2, st_r _ _ _ _ _ hr]
      refine ⟨by rw [e2, st_at, if_neg (by omega)]; exact p3, by rw [e2, st_at, if_neg (by omega)]; exact p4, by rw [e2, st_at, if_pos ⟨rfl, rfl⟩], by rw [e2, st_at, if_neg (by omega)]; exact p6, fun i hi => by rw [r1 1 (by decide)]; exact pt i hi, ?_, by rw [r1 2 (by decide)]; exact p2, fun i hi => by rw [r1 3 (by decide)]; exact pv i hi⟩
      intro q hq
      rw [r1 2 (by decide), r1 3 (by decide)]
      exact pg q hq
    · rw [if_neg hc] at h0
      exact iF hc ⟨isB0, h0 rfl⟩
  · rw [if_neg hl] at h0 ⊢
    exact iF (fun y => f0 y.symm) ⟨isB0, h0 rfl⟩
