/-! ===== the class reads its commands ===== -/
theorem x1_form {post : Nat → Prop} {p : Int32} (h : post (frm p)) : wp_X1_formOf post p := by
  unfold wp_X1_formOf
  unfold frm at h
  by_cases h97 : p = 97
  · rw [if_pos h97] at h; exact iT h97 h
  rw [if_neg h97] at h
  refine iF h97 ?_
  by_cases h98 : p = 98
  · rw [if_pos h98] at h; exact iT h98 h
  rw [if_neg h98] at h
  refine iF h98 ?_
  by_cases h100 : p = 100
  · rw [if_pos h100] at h; exact iT h100 h
  rw [if_neg h100] at h
  refine iF h100 ?_
  by_cases h101 : p = 101
  · rw [if_pos h101] at h; exact iT h101 h
  rw [if_neg h101] at h
  refine iF h101 ?_
  by_cases h106 : p = 106
  · rw [if_pos h106] at h; exact iT h106 h
  rw [if_neg h106] at h
  refine iF h106 ?_
  by_cases h107 : p = 107
  · rw [if_pos h107] at h; exact iT h107 h
  rw [if_neg h107] at h
  refine iF h107 ?_
  by_cases h108 : p = 108
  · rw [if_pos h108] at h; exact iT h108 h
  rw [if_neg h108] at h
  refine iF h108 ?_
  by_cases h109 : p = 109
  · rw [if_pos h109] at h; exact iT h109 h
  rw [if_neg h109] at h
  refine iF h109 ?_
  by_cases h110 : p = 110
  · rw [if_pos h110] at h; exact iT h110 h
  rw [if_neg h110] at h
  refine iF h110 ?_
  by_cases h112 : p = 112
  · rw [if_pos h112] at h; exact iT h112 h
  rw [if_neg h112] at h
  refine iF h112 ?_
  by_cases h113 : p = 113
  · rw [if_pos h113] at h; exact iT h113 h
  rw [if_neg h113] at h
  refine iF h113 ?_
  by_cases h114 : p = 114
  · rw [if_pos h114] at h; exact iT h114 h
  rw [if_neg h114] at h
  refine iF h114 ?_
  by_cases h116 : p = 116
  · rw [if_pos h116] at h; exact iT h116 h
  rw [if_neg h116] at h
  refine iF h116 ?_
  by_cases h117 : p = 117
  · rw [if_pos h117] at h; exact iT h117 h
  rw [if_neg h117] at h
  refine iF h117 ?_
  by_cases h119 : p = 119
  · rw [if_pos h119] at h; exact iT h119 h
  rw [if_neg h119] at h
  refine iF h119 ?_
  by_cases h121 : p = 121
  · rw [if_pos h121] at h; exact iT h121 h
  rw [if_neg h121] at h
  refine iF h121 ?_
  exact h
theorem frm_c {p : Int32} (h : frm p ≠ 15) : p = 97 ∨ p = 98 ∨ p = 100 ∨ p = 101 ∨ p = 106 ∨ p = 107 ∨ p = 108 ∨ p = 109 ∨ p = 110 ∨ p = 112 ∨ p = 113 ∨ p = 114 ∨ p = 116 ∨ p = 117 ∨ p = 119 ∨ p = 121 := by
  unfold frm at h
  by_cases h97 : p = 97
  · exact Or.inl h97
  rw [if_neg h97] at h
  by_cases h98 : p = 98
  · exact Or.inr (Or.inl h98)
  rw [if_neg h98] at h
  by_cases h100 : p = 100
  · exact Or.inr (Or.inr (Or.inl h100))
  rw [if_neg h100] at h
  by_cases h101 : p = 101
  · exact Or.inr (Or.inr (Or.inr (Or.inl h101)))
  rw [if_neg h101] at h
  by_cases h106 : p = 106
  · exact Or.inr (Or.inr (Or.inr (Or.inr (Or.inl h106))))
  rw [if_neg h106] at h
  by_cases h107 : p = 107
  · exact Or.inr (Or.inr (Or.inr (Or.inr (Or.inr (Or.inl h107)))))
  rw [if_neg h107] at h
  by_cases h108 : p = 108
  · exact Or.inr (Or.inr (Or.inr (Or.inr (Or.inr (Or.inr (Or.inl h108))))))
  rw [if_neg h108] at h
  by_cases h109 : p = 109
  · exact Or.inr (Or.inr (Or.inr (Or.inr (Or.inr (Or.inr (Or.inr (Or.inl h109)))))))
  rw [if_neg h109] at h
  by_cases h110 : p = 110
  · exact Or.inr (Or.inr (Or.inr (Or.inr (Or.inr (Or.inr (Or.inr (Or.inr (Or.inl h110))))))))
  rw [if_neg h110] at h
  by_cases h112 : p = 112
  · exact Or.inr (Or.inr (Or.inr (Or.inr (Or.inr (Or.inr (Or.inr (Or.inr (Or.inr (Or.inl h112)))))))))
  rw [if_neg h112] at h
  by_cases h113 : p = 113
  · exact Or.inr (Or.inr (Or.inr (Or.inr (Or.inr (Or.inr (Or.inr (Or.inr (Or.inr (Or.inr (Or.inl h113))))))))))
  rw [if_neg h113] at h
  by_cases h114 : p = 114
  · exact Or.inr (Or.inr (Or.inr (Or.inr (Or.inr (Or.inr (Or.inr (Or.inr (Or.inr (Or.inr (Or.inr (Or.inl h114)))))))))))
  rw [if_neg h114] at h
  by_cases h116 : p = 116
  · exact Or.inr (Or.inr (Or.inr (Or.inr (Or.inr (Or.inr (Or.inr (Or.inr (Or.inr (Or.inr (Or.inr (Or.inr (Or.inl h116))))))))))))
  rw [if_neg h116] at h
  by_cases h117 : p = 117
  · exact Or.inr (Or.inr (Or.inr (Or.inr (Or.inr (Or.inr (Or.inr (Or.inr (Or.inr (Or.inr (Or.inr (Or.inr (Or.inr (Or.inl h117)))))))))))))
  rw [if_neg h117] at h
  by_cases h119 : p = 119
  · exact Or.inr (Or.inr (Or.inr (Or.inr (Or.inr (Or.inr (Or.inr (Or.inr (Or.inr (Or.inr (Or.inr (Or.inr (Or.inr (Or.inr (Or.inl h119))))))))))))))
  rw [if_neg h119] at h
  by_cases h121 : p = 121
  · exact Or.inr (Or.inr (Or.inr (Or.inr (Or.inr (Or.inr (Or.inr (Or.inr (Or.inr (Or.inr (Or.inr (Or.inr (Or.inr (Or.inr (Or.inr (h121)))))))))))))))
  rw [if_neg h121] at h
  exact absurd rfl h
theorem gbs_ch : ∀ n, 5 ≤ n → n ≤ 14 → ∀ f ∈ gBs n, ∃ ch, 1 ≤ ch ∧ ch < 128 ∧ f = nI ch := by
  intro n h1 h2
  have : n = 5 ∨ n = 6 ∨ n = 7 ∨ n = 8 ∨ n = 9 ∨ n = 10 ∨ n = 11 ∨ n = 12 ∨ n = 13 ∨ n = 14 := by omega
  have e5 : gBs 5 = [67, 68] := rfl
  have e6 : gBs 6 = [78, 62, 68] := rfl
  have e7 : gBs 7 = [78] := rfl
  have e8 : gBs 8 = [68] := rfl
  have e9 : gBs 9 = [78, 43, 68] := rfl
  have e10 : gBs 10 = [78, 38, 78] := rfl
  have e11 : gBs 11 = [68, 61, 68] := rfl
  have e12 : gBs 12 = [68, 67] := rfl
  have e13 : gBs 13 = [68, 68, 84] := rfl
  have e14 : gBs 14 = [68, 68] := rfl
  have k67 : ∃ ch, 1 ≤ ch ∧ ch < 128 ∧ (67 : Int32) = nI ch := ⟨67, by omega, by omega, rfl⟩
  have k68 : ∃ ch, 1 ≤ ch ∧ ch < 128 ∧ (68 : Int32) = nI ch := ⟨68, by omega, by omega, rfl⟩
  have k78 : ∃ ch, 1 ≤ ch ∧ ch < 128 ∧ (78 : Int32) = nI ch := ⟨78, by omega, by omega, rfl⟩
  have k84 : ∃ ch, 1 ≤ ch ∧ ch < 128 ∧ (84 : Int32) = nI ch := ⟨84, by omega, by omega, rfl⟩
  have k62 : ∃ ch, 1 ≤ ch ∧ ch < 128 ∧ (62 : Int32) = nI ch := ⟨62, by omega, by omega, rfl⟩
  have k43 : ∃ ch, 1 ≤ ch ∧ ch < 128 ∧ (43 : Int32) = nI ch := ⟨43, by omega, by omega, rfl⟩
  have k38 : ∃ ch, 1 ≤ ch ∧ ch < 128 ∧ (38 : Int32) = nI ch := ⟨38, by omega, by omega, rfl⟩
  have k61 : ∃ ch, 1 ≤ ch ∧ ch < 128 ∧ (61 : Int32) = nI ch := ⟨61, by omega, by omega, rfl⟩
  intro f hf
  rcases this with rfl | rfl | rfl | rfl | rfl | rfl | rfl | rfl | rfl | rfl
  all_goals first
    | rw [e5] at hf
    | rw [e6] at hf
    | rw [e7] at hf
    | rw [e8] at hf
    | rw [e9] at hf
    | rw [e10] at hf
    | rw [e11] at hf
    | rw [e12] at hf
    | rw [e13] at hf
    | rw [e14] at hf
  all_goals simp only [List.mem_cons, List.not_mem_nil, or_false] at hf
  · rcases hf with rfl | rfl; exact k67; exact k68
  · rcases hf with rfl | rfl | rfl; exact k78; exact k62; exact k68
  · subst hf; exact k78
  · subst hf; exact k68
  · rcases hf with rfl | rfl | rfl; exact k78; exact k43; exact k68
  · rcases hf with rfl | rfl | rfl; exact k78; exact k38; exact k78
  · rcases hf with rfl | rfl | rfl; exact k68; exact k61; exact k68
  · rcases hf with rfl | rfl; exact k68; exact k67
  · rcases hf with rfl | rfl | rfl; exact k68; exact k68; exact k84
  · rcases hf with rfl | rfl; exact k68; exact k68
theorem s_lenG {post : Int32 → Prop} {bs : List Int32} (h : post (nI bs.length)) : wp_J0_length_8abf5 post bs := by
  refine ⟨fun y => absurd y (by decide), fun _ => ?_⟩
  have e0 : nI bs.length >>> ((0 : Int32) &&& 31) = nI bs.length := by
    rw [show ((0 : Int32) &&& 31) = 0 from by decide]
    exact Int32.shiftRight_zero
  show post (nI bs.length >>> ((0 : Int32) &&& 31))
  rw [e0]
  exact h
theorem s_charG {post : Int32 → Prop} {bs : List Int32} {i ch : Nat} (hi : i < bs.length) (hl : bs.length < 1000) (hc : ch < 128) (hp : bs.getD i 0 = nI ch) (h : post (nI ch)) : wp_J0_charAt_5068e post bs (nI i) := by
  refine ⟨fun y => absurd y (by decide), fun _ => jT rfl ⟨fun y => absurd y (by decide), fun _ => ?_⟩⟩
  refine ⟨nI_pos (by omega), (nI_lti (by omega) (by omega)).mpr hi, vpk hi (by omega), u16 _, ?_⟩
  rw [kc (by omega), hp, (and_255 ch hc).1]
  exact ⟨isC_n hc, h⟩
def PB (o : Off) (T : Nat → Int32) (len a : Nat) (L : Cmds) : Prop := o 0 3 = nI len ∧ o 0 4 = nI L.length ∧ o 0 5 = nI a ∧ (∀ i, i < len → o 1 i = T i) ∧ GC o L
theorem x1_cmd_l {post : Int32 → Off → Prop} {T : Nat → Int32} {len x1 : Nat} {L : Cmds} {l : Int32} (hT : okT T len) (hx : 5 ≤ x1) (hx2 : x1 ≤ 14) (hL : L.length < 20) (hG : len3 L) : ∀ (fs pre : List Int32) (a : Nat) (vs : List Int32) (o : Off), gBs x1 = pre ++ fs → PC o T len a L l vs → vs.length + fs.length ≤ 3 → a ≤ len →
    ((run T len fs (false, a, vs)).1 = true → ∀ o2 : Off, o2 0 5 = nI (run T len fs (false, a, vs)).2.1 → post 0 o2) → ((run T len fs (false, a, vs)).1 = false → ∀ o2, PB o2 T len (run T len fs (false, a, vs)).2.1 (L ++ [(l, (run T len fs (false, a, vs)).2.2)]) → post 1 o2) → wl_X1_readCommand_56 post (fs.length + 1) o x1 (nI pre.length) := by
  intro fs
  have hb3 := (gbs_len x1 hx hx2).2
  induction fs with
  | nil =>
    intro pre a vs o he hP hv ha h0 h1
    obtain ⟨p3, p4, p5, p6, pt, pg, p2, pv⟩ := hP
    rw [List.length_nil, wl_X1_readCommand_56]
    rw [List.append_nil] at he
    refine ⟨by omega, s_lenG ?_⟩
    rw [he]
    refine iT (Int32.le_refl _) (fun o9 e9 => h1 rfl o9 ?_)
    rw [p4, nI_add1] at e9
    have r1 : ∀ r, r ≠ 0 → o9 r = o r := fun r hr => by rw [e9, st_r _ _ _ _ _ hr]
    refine ⟨by rw [e9, st_at, if_neg (by omega)]; exact p3, by rw [e9, st_at, if_pos ⟨rfl, rfl⟩, List.length_append]; rfl, by rw [e9, st_at, if_neg (by omega)]; exact p5, fun i hi => by rw [r1 1 (by decide)]; exact pt i hi, fun q hq => ?_⟩
    rw [r1 2 (by decide), r1 3 (by decide)]
    rw [List.length_append, List.length_singleton] at hq
    by_cases e : q = L.length
    · subst e
      rw [getD_la]
      exact ⟨p2, pv⟩
    · rw [getD_lb (by omega)]
      exact pg q (by omega)
  | cons f fs ih =>
    intro pre a vs o he hP hv ha h0 h1
    have hlen : (gBs x1).length = pre.length + (fs.length + 1) := by rw [he, List.length_append, List.length_cons]
    obtain ⟨ch, c1, c2, c3⟩ := gbs_ch x1 hx hx2 f (by rw [he]; exact List.mem_append_right _ List.mem_cons_self)
    have hg : (gBs x1).getD pre.length 0 = f := by rw [he]; simp [List.getD]
    rw [List.length_cons] at hv ⊢
    rw [wl_X1_readCommand_56]
    refine ⟨by omega, s_lenG (iF (by rw [nI_lei (by omega) (by omega)]; omega) (s_charG (ch := ch) (by omega) (by omega) c2 (by rw [hg]; exact c3) ?_))⟩
    rw [← c3]
    refine x1_part hT hP ha hL (by omega) hG (by rw [c3, show (0 : Int32) = nI 0 from rfl, nI_eqi (by omega) (by omega)]; omega) (fun hp => l01 ?_) (fun w a2 hp o2 hP2 => l11 (fun v13 e13 => ?_))
    · have hs : stp T len f false a = (true, a, []) := by unfold stp; rw [if_neg (by decide), hp]
      have hr : run T len (f :: fs) (false, a, vs) = (true, a, vs) := by
        rw [run]
        simp only [hs, List.append_nil]
        exact run_bad fs a vs
      rw [hr] at h0
      exact h0 rfl o hP.2.2.1
    · have hs : stp T len f false a = (false, a2, w) := by unfold stp; rw [if_neg (by decide), hp]
      have hr : run T len (f :: fs) (false, a, vs) = run T len fs (false, a2, vs ++ w) := by
        rw [run]
        simp only [hs]
      rw [hr] at h0 h1
      obtain ⟨g1, g2, g3⟩ := prt_ge hp
      have hw : w.length ≤ 1 := by
        by_cases hf : f = 67 ∨ f = 68 ∨ f = 78 ∨ f = 84
        · rw [if_pos hf] at g3
          obtain ⟨x, e, -⟩ := g3
          rw [e]; exact Nat.le_refl _
        · rw [if_neg hf] at g3
          rw [g3]; exact Nat.zero_le _
      rw [nI_add1] at e13
      subst e13
      have := ih (pre ++ [f]) a2 (vs ++ w) o2 (by rw [he, List.append_assoc]; rfl) hP2 (by rw [List.length_append]; omega) g2 h0 h1
      rw [List.length_append, List.length_singleton] at this
      exact this
theorem x1_cmd {post : Int32 → Off → Prop} {o : Off} {T : Nat → Int32} {len a : Nat} {L : Cmds} (hT : okT T len) (hP : PB o T len a L) (ha : a ≤ len) (h3 : 3 * L.length ≤ a) (hG : len3 L)
    (h0 : (com T len a).1 = true → ∀ o2 : Off, o2 0 5 = nI (com T len a).2.1 → post 0 o2) (h1 : (com T len a).1 = false → ∀ o2, PB o2 T len (com T len a).2.1 (L ++ [(T a, (com T len a).2.2)]) → post 1 o2) : wp_X1_readCommand post o := by
  obtain ⟨p3, p4, p5, pt, pg⟩ := hP
  have h60 := hT.1
  unfold com at h0 h1
  refine x1_here hT p3 p5 ha pt (x1_form ⟨?_, ?_⟩)
  · rcases frm_lt (if a < len then T a else 0) with e | ⟨-, e⟩ <;> omega
  by_cases hc : a < len ∧ frm (T a) ≠ 15
  case neg =>
    rw [if_neg hc] at h0
    have he : frm (if a < len then T a else 0) = 15 := by
      by_cases hl : a < len
      · rw [if_pos hl]
        by_cases hf : frm (T a) = 15
        · exact hf
        · exact absurd ⟨hl, hf⟩ hc
      · rw [if_neg hl]; decide
    rw [he]
    refine ⟨fun y => absurd (show nI (gBs 15).length = 0 from rfl) y, fun _ => l11 (h0 rfl o p5)⟩
  rw [if_pos hc] at h0 h1
  obtain ⟨hl, hf⟩ := hc
  have hL : L.length < 20 := by omega
  rw [if_pos hl]
  have hx := (frm_lt (T a)).resolve_left hf
  have hb := gbs_len _ hx.1 hx.2
  refine ⟨fun _ => l01 (iT (by rw [p4, show (20 : Int32) = nI 20 from rfl, nI_lti (by omega) (by omega)]; exact hL) (x1_here hT p3 p5 ha pt ?_)), fun y => ?_⟩
  · rw [if_pos hl, p4, kc (by omega)]
    refine ⟨vpk (by omega) (by omega), fun o5 e5 o6 e6 o7 e7 => ⟨_, x1_cmd_l (L := L) (l := T a) hT hx.1 hx.2 hL hG (gBs (frm (T a))) [] (a + 1) [] o7 rfl ?_ (by rw [List.length_nil]; omega) (by omega) h0 h1⟩⟩
    have e55 : o5 0 5 = nI a := by rw [e5, st_r _ _ _ _ _ (by decide)]; exact p5
    rw [e55, nI_add1] at e6
    have r0 : ∀ q, q ≠ 5 → q ≠ 6 → o7 0 q = o 0 q := fun q q5 q6 => by rw [e7, st_at, if_neg (fun y => q6 y.2), e6, st_at, if_neg (fun y => q5 y.2), e5, st_r _ _ _ _ _ (by decide)]
    have r1 : ∀ r, r ≠ 0 → r ≠ 2 → o7 r = o r := fun r h0 h2 => by rw [e7, st_r _ _ _ _ _ h0, e6, st_r _ _ _ _ _ h0, e5, st_r _ _ _ _ _ h2]
    have r2 : ∀ q, o7 2 q = if q = L.length then T a else o 2 q := fun q => by
      rw [e7, st_r _ _ _ _ _ (by decide), e6, st_r _ _ _ _ _ (by decide), e5, st_at]
      by_cases e : q = L.length
      · rw [if_pos ⟨rfl, e⟩, if_pos e]
      · rw [if_neg (fun y => e y.2), if_neg e]
    refine ⟨by rw [r0 3 (by decide) (by decide)]; exact p3, by rw [r0 4 (by decide) (by decide)]; exact p4, by rw [e7, st_at, if_neg (by omega), e6, st_at, if_pos ⟨rfl, rfl⟩], by rw [e7, st_at, if_pos ⟨rfl, rfl⟩]; rfl, fun i hi => by rw [r1 1 (by decide) (by decide)]; exact pt i hi, fun q hq => ?_, by rw [r2, if_pos rfl], fun i hi => absurd hi (Nat.not_lt_zero i)⟩
    rw [r2, if_neg (by omega), r1 3 (by decide) (by decide)]
    exact pg q hq
  · rw [show (0 : Int32) = nI 0 from rfl, nI_eqi (by omega) (by omega)] at y
    omega
theorem len3_app {L : Cmds} {p : Int32 × List Int32} (h : len3 L) (hp : p.2.length ≤ 3) : len3 (L ++ [p]) := by
  intro q hq
  rw [List.length_append, List.length_singleton] at hq
  by_cases e : q = L.length
  · subst e
    rw [getD_la]
    exact hp
  · rw [getD_lb (by omega)]
    exact h q (by omega)
theorem vok_len : ∀ (fs ws : List Int32), vok fs ws → ws.length ≤ fs.length := by
  intro fs
  induction fs with
  | nil => intro ws h; rw [vok] at h; rw [h]; exact Nat.le_refl _
  | cons f fs ih =>
    intro ws h
    rw [vok] at h
    split at h
    · obtain ⟨w, ws2, e, -, -, h2⟩ := h
      rw [e, List.length_cons, List.length_cons]
      have := ih ws2 h2
      omega
    · have := ih ws h
      rw [List.length_cons]
      omega
theorem cmd_len {p : Int32 × List Int32} (h : cmdOK p) : p.2.length ≤ 3 := by
  have hx := (frm_lt p.1).resolve_left h.1
  have hb := gbs_len _ hx.1 hx.2
  have := vok_len _ _ h.2
  omega
theorem x1_all {post : Int32 → Off → Prop} {T : Nat → Int32} {len : Nat} (hT : okT T len) : ∀ (r a : Nat) (L : Cmds) (o : Off), r + L.length = 21 → 3 * L.length ≤ a → a ≤ len → PB o T len a L → len3 L →
    ((parS T len r a L).1 = true → ∀ o2 : Off, post (nI (parS T len r a L).2.1) o2) → ((parS T len r a L).1 = false → ∀ o2 : Off, o2 0 4 = nI (parS T len r a L).2.2.length → GC o2 (parS T len r a L).2.2 → post (-1) o2) → wl_X1_readAll_7 post (r + 1) o (nI L.length) := by
  have h60 := hT.1
  intro r
  induction r with
  | zero => intro a L o hr h3 ha; omega
  | succ r ih =>
    intro a L o hr h3 ha hP hG h0 h1
    rw [wl_X1_readAll_7]
    rw [parS] at h0 h1
    refine iF (by rw [show (20 : Int32) = nI 20 from rfl, nI_lti (by omega) (by omega)]; omega) (x1_cmd hT hP ha h3 hG (fun hb o2 e2 => l01 ?_) (fun hb o2 hP2 => l11 ?_))
    · rw [if_pos hb] at h0
      rw [e2]
      exact h0 rfl o2
    · rw [if_neg (by rw [hb]; decide)] at h0 h1
      obtain ⟨c1, c2, c3, c4, c5, c6⟩ := com_ok hb
      obtain ⟨p3, p4, p5, pt, pg⟩ := id hP2
      rw [p3, p5, nI_lti (by omega) (by omega)]
      by_cases hl : (com T len a).2.1 < len
      · rw [if_pos hl] at h0 h1
        refine iT hl (x1_here hT p3 p5 c5 pt ?_)
        rw [if_pos hl]
        by_cases h59 : T (com T len a).2.1 = 59
        · rw [if_pos h59] at h0 h1
          refine iT h59 (fun o5 e5 v6 e6 => ?_)
          rw [nI_add1] at e5 e6
          subst e6
          have hlen : (L ++ [(T a, (com T len a).2.2)]).length = L.length + 1 := by rw [List.length_append]; rfl
          have := ih ((com T len a).2.1 + 1) (L ++ [(T a, (com T len a).2.2)]) o5 (by rw [hlen]; omega) (by rw [hlen]; omega) (by omega) ⟨by rw [e5, st_at, if_neg (by omega)]; exact p3, by rw [e5, st_at, if_neg (by omega)]; exact p4, by rw [e5, st_at, if_pos ⟨rfl, rfl⟩], fun i hi => by rw [e5, st_r _ _ _ _ _ (by decide)]; exact pt i hi, fun q hq => by rw [e5, st_r _ _ _ _ _ (by decide), st_r _ _ _ _ _ (by decide)]; exact pg q hq⟩ (len3_app hG (cmd_len c6)) h0 h1
          rw [hlen] at this
          exact this
        · rw [if_neg h59] at h0
          refine iF h59 ?_
          exact h0 rfl o2
      · rw [if_neg hl] at h1
        exact iF hl (h1 rfl o2 p4 pg)
theorem x1_read {post : Int32 → Off → Prop} {o : Off} {T : Nat → Int32} {len : Nat} (hT : okT T len) (h3 : o 0 3 = nI len) (ht : ∀ i, i < len → o 1 i = T i)
    (h0 : (parS T len 21 0 []).1 = true → ∀ o2 : Off, o2 0 3 = 0 → post (nI (parS T len 21 0 []).2.1) o2) (h1 : (parS T len 21 0 []).1 = false → ∀ o2 : Off, o2 0 3 = 0 → o2 0 4 = nI (parS T len 21 0 []).2.2.length → GC o2 (parS T len 21 0 []).2.2 → post (-1) o2) : wp_X1_read post o := by
  intro o1 e1 o1' e1'
  refine ⟨22, x1_all hT 21 0 [] o1' rfl (Nat.le_refl _) (Nat.zero_le _) ⟨?_, ?_, ?_, fun i hi => ?_, fun q hq => absurd hq (Nat.not_lt_zero q)⟩ (fun q hq => absurd hq (Nat.not_lt_zero q)) (fun hb o2 o4 e4 => h0 hb o4 ?_) (fun hb o2 k4 kG o4 e4 => h1 hb o4 ?_ ?_ ?_)⟩
  · rw [e1', st_at, if_neg (by omega), e1, st_at, if_neg (by omega)]; exact h3
  · rw [e1', st_at, if_neg (by omega), e1, st_at, if_pos ⟨rfl, rfl⟩]; rfl
  · rw [e1', st_at, if_pos ⟨rfl, rfl⟩]; rfl
  · rw [e1', st_r _ _ _ _ _ (by decide), e1, st_r _ _ _ _ _ (by decide)]; exact ht i hi
  · rw [e4, st_at, if_pos ⟨rfl, rfl⟩]
  · rw [e4, st_at, if_pos ⟨rfl, rfl⟩]
  · rw [e4, st_at, if_neg (by omega)]; exact k4
  · intro q hq
    rw [e4, st_r _ _ _ _ _ (by decide), st_r _ _ _ _ _ (by decide)]
    exact kG q hq
