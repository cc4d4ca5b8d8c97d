/-! ===== a command of the reference ===== -/
theorem stp_len {T : Nat → Int32} {len : Nat} {f : Int32} {b : Bool} {a : Nat} : (stp T len f b a).2.2.length ≤ 1 := by
  unfold stp
  cases b
  · rw [if_neg (by decide)]
    cases hp : prt T len f a with
    | none => exact Nat.zero_le _
    | some p =>
      have := (prt_ge (w := p.1) (a2 := p.2) hp).2.2
      show p.1.length ≤ 1
      by_cases hf : f = 67 ∨ f = 68 ∨ f = 78 ∨ f = 84
      · rw [if_pos hf] at this
        obtain ⟨x, e, -⟩ := this
        rw [e]; exact Nat.le_refl _
      · rw [if_neg hf] at this
        rw [this]; exact Nat.zero_le _
  · exact Nat.zero_le _
theorem rc_97 {M0 M Mc : Off} {T : Nat → Int32} {len a : Nat} {L : Cmds} (hT : okT T len) (hM : rTx T len Mc) (h1 : PRb M0 M false a L) (hl : a < len) (hL : L.length < 20) (hG : len3 L) (hc : (∀ r, r ≠ 0 → r ≠ 8 → Mc r = M r) ∧ (∀ q, q < 21 ∨ q = 22 ∨ 23 < q → Mc 0 q = M 0 q) ∧ (∀ q, q ≠ L.length → Mc 8 q = M 8 q) ∧ Mc 8 L.length = 97) (hP : PRc Mc Mc false (a + 1))
    : ∃ M2, PRb M0 M2 (run T len (gBs 6) (false, a + 1, [])).1 (run T len (gBs 6) (false, a + 1, [])).2.1 (L ++ [(97, (run T len (gBs 6) (false, a + 1, [])).2.2)]) ∧ ∀ post : Off → Prop, post M2 → wp_X5_number (fun v0 O1 => wp_X5_sign (fun O2 => wp_X5_digit (fun v2 O3 => wp_X5_keeps (fun oE => wj_X5_command_428 post oE) O3 v0 v2 (0 : Int32)) O2) O1 62) Mc := by
  have ha0 : a + 1 ≤ len := by omega
  obtain ⟨v0, M1, k1, w1, n1⟩ := r_N hT hM hP ha0
  have ha1 : (stp T len 78 false (a + 1)).2.1 ≤ len := stp_le ha0
  obtain ⟨M2, k2, w2, n2⟩ := r_S (f := 62) (by decide) hT hM k1 ha1
  have ha2 : (stp T len 62 (stp T len 78 false (a + 1)).1 (stp T len 78 false (a + 1)).2.1).2.1 ≤ len := stp_le ha1
  obtain ⟨v2, M3, k3, w3, n3⟩ := r_D hT hM k2 ha2
  have ha3 : (stp T len 68 (stp T len 62 (stp T len 78 false (a + 1)).1 (stp T len 78 false (a + 1)).2.1).1 (stp T len 62 (stp T len 78 false (a + 1)).1 (stp T len 78 false (a + 1)).2.1).2.1).2.1 ≤ len := stp_le ha2
  have hr : run T len (gBs 6) (false, a + 1, []) = ((stp T len 68 (stp T len 62 (stp T len 78 false (a + 1)).1 (stp T len 78 false (a + 1)).2.1).1 (stp T len 62 (stp T len 78 false (a + 1)).1 (stp T len 78 false (a + 1)).2.1).2.1).1, (stp T len 68 (stp T len 62 (stp T len 78 false (a + 1)).1 (stp T len 78 false (a + 1)).2.1).1 (stp T len 62 (stp T len 78 false (a + 1)).1 (stp T len 78 false (a + 1)).2.1).2.1).2.1, ((([] ++ (stp T len 78 false (a + 1)).2.2) ++ (stp T len 62 (stp T len 78 false (a + 1)).1 (stp T len 78 false (a + 1)).2.1).2.2) ++ (stp T len 68 (stp T len 62 (stp T len 78 false (a + 1)).1 (stp T len 78 false (a + 1)).2.1).1 (stp T len 62 (stp T len 78 false (a + 1)).1 (stp T len 78 false (a + 1)).2.1).2.1).2.2)) := rfl
  rw [hr]
  have hvs : (stp T len 68 (stp T len 62 (stp T len 78 false (a + 1)).1 (stp T len 78 false (a + 1)).2.1).1 (stp T len 62 (stp T len 78 false (a + 1)).1 (stp T len 78 false (a + 1)).2.1).2.1).1 = false → ((([] ++ (stp T len 78 false (a + 1)).2.2) ++ (stp T len 62 (stp T len 78 false (a + 1)).1 (stp T len 78 false (a + 1)).2.1).2.2) ++ (stp T len 68 (stp T len 62 (stp T len 78 false (a + 1)).1 (stp T len 78 false (a + 1)).2.1).1 (stp T len 62 (stp T len 78 false (a + 1)).1 (stp T len 78 false (a + 1)).2.1).2.1).2.2) = [v0, v2] := fun hb => by
    have hb2 : (stp T len 62 (stp T len 78 false (a + 1)).1 (stp T len 78 false (a + 1)).2.1).1 = false := stp_ok hb
    have hb1 : (stp T len 78 false (a + 1)).1 = false := stp_ok hb2
    rw [w1 hb1]
    rw [w2 hb2]
    rw [w3 hb]
    rfl
  have hln : ((([] ++ (stp T len 78 false (a + 1)).2.2) ++ (stp T len 62 (stp T len 78 false (a + 1)).1 (stp T len 78 false (a + 1)).2.1).2.2) ++ (stp T len 68 (stp T len 62 (stp T len 78 false (a + 1)).1 (stp T len 78 false (a + 1)).2.1).1 (stp T len 62 (stp T len 78 false (a + 1)).1 (stp T len 78 false (a + 1)).2.1).2.1).2.2).length ≤ 3 := by
    have hq : ∀ f b x, (stp T len f b x).2.2.length ≤ 1 := fun f b x => stp_len
    have q0 := hq 78 false (a + 1)
    have q1 := hq 62 (stp T len 78 false (a + 1)).1 (stp T len 78 false (a + 1)).2.1
    have q2 := hq 68 (stp T len 62 (stp T len 78 false (a + 1)).1 (stp T len 78 false (a + 1)).2.1).1 (stp T len 62 (stp T len 78 false (a + 1)).1 (stp T len 78 false (a + 1)).2.1).2.1
    simp only [List.length_append, List.length_nil]
    omega
  obtain ⟨M9, hE, nE⟩ := r_end (p0 := v0) (p1 := v2) (p2 := 0) h1 hL hG hln hc k3 (fun hb i hi => by
    rw [hvs hb] at hi ⊢
    have hi : i < 2 := hi
    have hc3 : i = 0 ∨ i = 1 := by omega
    rcases hc3 with rfl | rfl <;> rfl)
  exact ⟨M9, hE, fun post hp => n1 _ (n2 _ (n3 _ (nE post hp)))⟩
theorem rc_98 {M0 M Mc : Off} {T : Nat → Int32} {len a : Nat} {L : Cmds} (hT : okT T len) (hM : rTx T len Mc) (h1 : PRb M0 M false a L) (hl : a < len) (hL : L.length < 20) (hG : len3 L) (hc : (∀ r, r ≠ 0 → r ≠ 8 → Mc r = M r) ∧ (∀ q, q < 21 ∨ q = 22 ∨ 23 < q → Mc 0 q = M 0 q) ∧ (∀ q, q ≠ L.length → Mc 8 q = M 8 q) ∧ Mc 8 L.length = 98) (hP : PRc Mc Mc false (a + 1))
    : ∃ M2, PRb M0 M2 (run T len (gBs 12) (false, a + 1, [])).1 (run T len (gBs 12) (false, a + 1, [])).2.1 (L ++ [(98, (run T len (gBs 12) (false, a + 1, [])).2.2)]) ∧ ∀ post : Off → Prop, post M2 → wp_X5_digit (fun v0 O1 => wp_X5_colour (fun v1 O2 => wp_X5_keeps (fun oE => wj_X5_command_428 post oE) O2 v0 v1 (0 : Int32)) O1) Mc := by
  have ha0 : a + 1 ≤ len := by omega
  obtain ⟨v0, M1, k1, w1, n1⟩ := r_D hT hM hP ha0
  have ha1 : (stp T len 68 false (a + 1)).2.1 ≤ len := stp_le ha0
  obtain ⟨v1, M2, k2, w2, n2⟩ := r_C hT hM k1 ha1
  have ha2 : (stp T len 67 (stp T len 68 false (a + 1)).1 (stp T len 68 false (a + 1)).2.1).2.1 ≤ len := stp_le ha1
  have hr : run T len (gBs 12) (false, a + 1, []) = ((stp T len 67 (stp T len 68 false (a + 1)).1 (stp T len 68 false (a + 1)).2.1).1, (stp T len 67 (stp T len 68 false (a + 1)).1 (stp T len 68 false (a + 1)).2.1).2.1, (([] ++ (stp T len 68 false (a + 1)).2.2) ++ (stp T len 67 (stp T len 68 false (a + 1)).1 (stp T len 68 false (a + 1)).2.1).2.2)) := rfl
  rw [hr]
  have hvs : (stp T len 67 (stp T len 68 false (a + 1)).1 (stp T len 68 false (a + 1)).2.1).1 = false → (([] ++ (stp T len 68 false (a + 1)).2.2) ++ (stp T len 67 (stp T len 68 false (a + 1)).1 (stp T len 68 false (a + 1)).2.1).2.2) = [v0, v1] := fun hb => by
    have hb1 : (stp T len 68 false (a + 1)).1 = false := stp_ok hb
    rw [w1 hb1]
    rw [w2 hb]
    rfl
  have hln : (([] ++ (stp T len 68 false (a + 1)).2.2) ++ (stp T len 67 (stp T len 68 false (a + 1)).1 (stp T len 68 false (a + 1)).2.1).2.2).length ≤ 3 := by
    have hq : ∀ f b x, (stp T len f b x).2.2.length ≤ 1 := fun f b x => stp_len
    have q0 := hq 68 false (a + 1)
    have q1 := hq 67 (stp T len 68 false (a + 1)).1 (stp T len 68 false (a + 1)).2.1
    simp only [List.length_append, List.length_nil]
    omega
  obtain ⟨M9, hE, nE⟩ := r_end (p0 := v0) (p1 := v1) (p2 := 0) h1 hL hG hln hc k2 (fun hb i hi => by
    rw [hvs hb] at hi ⊢
    have hi : i < 2 := hi
    have hc3 : i = 0 ∨ i = 1 := by omega
    rcases hc3 with rfl | rfl <;> rfl)
  exact ⟨M9, hE, fun post hp => n1 _ (n2 _ (nE post hp))⟩
theorem rc_100 {M0 M Mc : Off} {T : Nat → Int32} {len a : Nat} {L : Cmds} (hT : okT T len) (hM : rTx T len Mc) (h1 : PRb M0 M false a L) (hl : a < len) (hL : L.length < 20) (hG : len3 L) (hc : (∀ r, r ≠ 0 → r ≠ 8 → Mc r = M r) ∧ (∀ q, q < 21 ∨ q = 22 ∨ 23 < q → Mc 0 q = M 0 q) ∧ (∀ q, q ≠ L.length → Mc 8 q = M 8 q) ∧ Mc 8 L.length = 100) (hP : PRc Mc Mc false (a + 1))
    : ∃ M2, PRb M0 M2 (run T len (gBs 8) (false, a + 1, [])).1 (run T len (gBs 8) (false, a + 1, [])).2.1 (L ++ [(100, (run T len (gBs 8) (false, a + 1, [])).2.2)]) ∧ ∀ post : Off → Prop, post M2 → wp_X5_digit (fun v0 O1 => wp_X5_keeps (fun oE => wj_X5_command_428 post oE) O1 v0 (0 : Int32) (0 : Int32)) Mc := by
  have ha0 : a + 1 ≤ len := by omega
  obtain ⟨v0, M1, k1, w1, n1⟩ := r_D hT hM hP ha0
  have ha1 : (stp T len 68 false (a + 1)).2.1 ≤ len := stp_le ha0
  have hr : run T len (gBs 8) (false, a + 1, []) = ((stp T len 68 false (a + 1)).1, (stp T len 68 false (a + 1)).2.1, ([] ++ (stp T len 68 false (a + 1)).2.2)) := rfl
  rw [hr]
  have hvs : (stp T len 68 false (a + 1)).1 = false → ([] ++ (stp T len 68 false (a + 1)).2.2) = [v0] := fun hb => by
    rw [w1 hb]
    rfl
  have hln : ([] ++ (stp T len 68 false (a + 1)).2.2).length ≤ 3 := by
    have hq : ∀ f b x, (stp T len f b x).2.2.length ≤ 1 := fun f b x => stp_len
    have q0 := hq 68 false (a + 1)
    simp only [List.length_append, List.length_nil]
    omega
  obtain ⟨M9, hE, nE⟩ := r_end (p0 := v0) (p1 := 0) (p2 := 0) h1 hL hG hln hc k1 (fun hb i hi => by
    rw [hvs hb] at hi ⊢
    have hi : i < 1 := hi
    have hc3 : i = 0 := by omega
    rcases hc3 with rfl <;> rfl)
  exact ⟨M9, hE, fun post hp => n1 _ (nE post hp)⟩
theorem rc_101 {M0 M Mc : Off} {T : Nat → Int32} {len a : Nat} {L : Cmds} (hT : okT T len) (hM : rTx T len Mc) (h1 : PRb M0 M false a L) (hl : a < len) (hL : L.length < 20) (hG : len3 L) (hc : (∀ r, r ≠ 0 → r ≠ 8 → Mc r = M r) ∧ (∀ q, q < 21 ∨ q = 22 ∨ 23 < q → Mc 0 q = M 0 q) ∧ (∀ q, q ≠ L.length → Mc 8 q = M 8 q) ∧ Mc 8 L.length = 101) (hP : PRc Mc Mc false (a + 1))
    : ∃ M2, PRb M0 M2 (run T len (gBs 14) (false, a + 1, [])).1 (run T len (gBs 14) (false, a + 1, [])).2.1 (L ++ [(101, (run T len (gBs 14) (false, a + 1, [])).2.2)]) ∧ ∀ post : Off → Prop, post M2 → wp_X5_digit (fun v0 O1 => wp_X5_digit (fun v1 O2 => wp_X5_keeps (fun oE => wj_X5_command_428 post oE) O2 v0 v1 (0 : Int32)) O1) Mc := by
  have ha0 : a + 1 ≤ len := by omega
  obtain ⟨v0, M1, k1, w1, n1⟩ := r_D hT hM hP ha0
  have ha1 : (stp T len 68 false (a + 1)).2.1 ≤ len := stp_le ha0
  obtain ⟨v1, M2, k2, w2, n2⟩ := r_D hT hM k1 ha1
  have ha2 : (stp T len 68 (stp T len 68 false (a + 1)).1 (stp T len 68 false (a + 1)).2.1).2.1 ≤ len := stp_le ha1
  have hr : run T len (gBs 14) (false, a + 1, []) = ((stp T len 68 (stp T len 68 false (a + 1)).1 (stp T len 68 false (a + 1)).2.1).1, (stp T len 68 (stp T len 68 false (a + 1)).1 (stp T len 68 false (a + 1)).2.1).2.1, (([] ++ (stp T len 68 false (a + 1)).2.2) ++ (stp T len 68 (stp T len 68 false (a + 1)).1 (stp T len 68 false (a + 1)).2.1).2.2)) := rfl
  rw [hr]
  have hvs : (stp T len 68 (stp T len 68 false (a + 1)).1 (stp T len 68 false (a + 1)).2.1).1 = false → (([] ++ (stp T len 68 false (a + 1)).2.2) ++ (stp T len 68 (stp T len 68 false (a + 1)).1 (stp T len 68 false (a + 1)).2.1).2.2) = [v0, v1] := fun hb => by
    have hb1 : (stp T len 68 false (a + 1)).1 = false := stp_ok hb
    rw [w1 hb1]
    rw [w2 hb]
    rfl
  have hln : (([] ++ (stp T len 68 false (a + 1)).2.2) ++ (stp T len 68 (stp T len 68 false (a + 1)).1 (stp T len 68 false (a + 1)).2.1).2.2).length ≤ 3 := by
    have hq : ∀ f b x, (stp T len f b x).2.2.length ≤ 1 := fun f b x => stp_len
    have q0 := hq 68 false (a + 1)
    have q1 := hq 68 (stp T len 68 false (a + 1)).1 (stp T len 68 false (a + 1)).2.1
    simp only [List.length_append, List.length_nil]
    omega
  obtain ⟨M9, hE, nE⟩ := r_end (p0 := v0) (p1 := v1) (p2 := 0) h1 hL hG hln hc k2 (fun hb i hi => by
    rw [hvs hb] at hi ⊢
    have hi : i < 2 := hi
    have hc3 : i = 0 ∨ i = 1 := by omega
    rcases hc3 with rfl | rfl <;> rfl)
  exact ⟨M9, hE, fun post hp => n1 _ (n2 _ (nE post hp))⟩
theorem rc_106 {M0 M Mc : Off} {T : Nat → Int32} {len a : Nat} {L : Cmds} (hT : okT T len) (hM : rTx T len Mc) (h1 : PRb M0 M false a L) (hl : a < len) (hL : L.length < 20) (hG : len3 L) (hc : (∀ r, r ≠ 0 → r ≠ 8 → Mc r = M r) ∧ (∀ q, q < 21 ∨ q = 22 ∨ 23 < q → Mc 0 q = M 0 q) ∧ (∀ q, q ≠ L.length → Mc 8 q = M 8 q) ∧ Mc 8 L.length = 106) (hP : PRc Mc Mc false (a + 1))
    : ∃ M2, PRb M0 M2 (run T len (gBs 10) (false, a + 1, [])).1 (run T len (gBs 10) (false, a + 1, [])).2.1 (L ++ [(106, (run T len (gBs 10) (false, a + 1, [])).2.2)]) ∧ ∀ post : Off → Prop, post M2 → wp_X5_number (fun v0 O1 => wp_X5_sign (fun O2 => wp_X5_number (fun v2 O3 => wp_X5_keeps (fun oE => wj_X5_command_428 post oE) O3 v0 v2 (0 : Int32)) O2) O1 38) Mc := by
  have ha0 : a + 1 ≤ len := by omega
  obtain ⟨v0, M1, k1, w1, n1⟩ := r_N hT hM hP ha0
  have ha1 : (stp T len 78 false (a + 1)).2.1 ≤ len := stp_le ha0
  obtain ⟨M2, k2, w2, n2⟩ := r_S (f := 38) (by decide) hT hM k1 ha1
  have ha2 : (stp T len 38 (stp T len 78 false (a + 1)).1 (stp T len 78 false (a + 1)).2.1).2.1 ≤ len := stp_le ha1
  obtain ⟨v2, M3, k3, w3, n3⟩ := r_N hT hM k2 ha2
  have ha3 : (stp T len 78 (stp T len 38 (stp T len 78 false (a + 1)).1 (stp T len 78 false (a + 1)).2.1).1 (stp T len 38 (stp T len 78 false (a + 1)).1 (stp T len 78 false (a + 1)).2.1).2.1).2.1 ≤ len := stp_le ha2
  have hr : run T len (gBs 10) (false, a + 1, []) = ((stp T len 78 (stp T len 38 (stp T len 78 false (a + 1)).1 (stp T len 78 false (a + 1)).2.1).1 (stp T len 38 (stp T len 78 false (a + 1)).1 (stp T len 78 false (a + 1)).2.1).2.1).1, (stp T len 78 (stp T len 38 (stp T len 78 false (a + 1)).1 (stp T len 78 false (a + 1)).2.1).1 (stp T len 38 (stp T len 78 false (a + 1)).1 (stp T len 78 false (a + 1)).2.1).2.1).2.1, ((([] ++ (stp T len 78 false (a + 1)).2.2) ++ (stp T len 38 (stp T len 78 false (a + 1)).1 (stp T len 78 false (a + 1)).2.1).2.2) ++ (stp T len 78 (stp T len 38 (stp T len 78 false (a + 1)).1 (stp T len 78 false (a + 1)).2.1).1 (stp T len 38 (stp T len 78 false (a + 1)).1 (stp T len 78 false (a + 1)).2.1).2.1).2.2)) := rfl
  rw [hr]
  have hvs : (stp T len 78 (stp T len 38 (stp T len 78 false (a + 1)).1 (stp T len 78 false (a + 1)).2.1).1 (stp T len 38 (stp T len 78 false (a + 1)).1 (stp T len 78 false (a + 1)).2.1).2.1).1 = false → ((([] ++ (stp T len 78 false (a + 1)).2.2) ++ (stp T len 38 (stp T len 78 false (a + 1)).1 (stp T len 78 false (a + 1)).2.1).2.2) ++ (stp T len 78 (stp T len 38 (stp T len 78 false (a + 1)).1 (stp T len 78 false (a + 1)).2.1).1 (stp T len 38 (stp T len 78 false (a + 1)).1 (stp T len 78 false (a + 1)).2.1).2.1).2.2) = [v0, v2] := fun hb => by
    have hb2 : (stp T len 38 (stp T len 78 false (a + 1)).1 (stp T len 78 false (a + 1)).2.1).1 = false := stp_ok hb
    have hb1 : (stp T len 78 false (a + 1)).1 = false := stp_ok hb2
    rw [w1 hb1]
    rw [w2 hb2]
    rw [w3 hb]
    rfl
  have hln : ((([] ++ (stp T len 78 false (a + 1)).2.2) ++ (stp T len 38 (stp T len 78 false (a + 1)).1 (stp T len 78 false (a + 1)).2.1).2.2) ++ (stp T len 78 (stp T len 38 (stp T len 78 false (a + 1)).1 (stp T len 78 false (a + 1)).2.1).1 (stp T len 38 (stp T len 78 false (a + 1)).1 (stp T len 78 false (a + 1)).2.1).2.1).2.2).length ≤ 3 := by
    have hq : ∀ f b x, (stp T len f b x).2.2.length ≤ 1 := fun f b x => stp_len
    have q0 := hq 78 false (a + 1)
    have q1 := hq 38 (stp T len 78 false (a + 1)).1 (stp T len 78 false (a + 1)).2.1
    have q2 := hq 78 (stp T len 38 (stp T len 78 false (a + 1)).1 (stp T len 78 false (a + 1)).2.1).1 (stp T len 38 (stp T len 78 false (a + 1)).1 (stp T len 78 false (a + 1)).2.1).2.1
    simp only [List.length_append, List.length_nil]
    omega
  obtain ⟨M9, hE, nE⟩ := r_end (p0 := v0) (p1 := v2) (p2 := 0) h1 hL hG hln hc k3 (fun hb i hi => by
    rw [hvs hb] at hi ⊢
    have hi : i < 2 := hi
    have hc3 : i = 0 ∨ i = 1 := by omega
    rcases hc3 with rfl | rfl <;> rfl)
  exact ⟨M9, hE, fun post hp => n1 _ (n2 _ (n3 _ (nE post hp)))⟩
theorem rc_107 {M0 M Mc : Off} {T : Nat → Int32} {len a : Nat} {L : Cmds} (hT : okT T len) (hM : rTx T len Mc) (h1 : PRb M0 M false a L) (hl : a < len) (hL : L.length < 20) (hG : len3 L) (hc : (∀ r, r ≠ 0 → r ≠ 8 → Mc r = M r) ∧ (∀ q, q < 21 ∨ q = 22 ∨ 23 < q → Mc 0 q = M 0 q) ∧ (∀ q, q ≠ L.length → Mc 8 q = M 8 q) ∧ Mc 8 L.length = 107) (hP : PRc Mc Mc false (a + 1))
    : ∃ M2, PRb M0 M2 (run T len (gBs 7) (false, a + 1, [])).1 (run T len (gBs 7) (false, a + 1, [])).2.1 (L ++ [(107, (run T len (gBs 7) (false, a + 1, [])).2.2)]) ∧ ∀ post : Off → Prop, post M2 → wp_X5_number (fun v0 O1 => wp_X5_keeps (fun oE => wj_X5_command_428 post oE) O1 v0 (0 : Int32) (0 : Int32)) Mc := by
  have ha0 : a + 1 ≤ len := by omega
  obtain ⟨v0, M1, k1, w1, n1⟩ := r_N hT hM hP ha0
  have ha1 : (stp T len 78 false (a + 1)).2.1 ≤ len := stp_le ha0
  have hr : run T len (gBs 7) (false, a + 1, []) = ((stp T len 78 false (a + 1)).1, (stp T len 78 false (a + 1)).2.1, ([] ++ (stp T len 78 false (a + 1)).2.2)) := rfl
  rw [hr]
  have hvs : (stp T len 78 false (a + 1)).1 = false → ([] ++ (stp T len 78 false (a + 1)).2.2) = [v0] := fun hb => by
    rw [w1 hb]
    rfl
  have hln : ([] ++ (stp T len 78 false (a + 1)).2.2).length ≤ 3 := by
    have hq : ∀ f b x, (stp T len f b x).2.2.length ≤ 1 := fun f b x => stp_len
    have q0 := hq 78 false (a + 1)
    simp only [List.length_append, List.length_nil]
    omega
  obtain ⟨M9, hE, nE⟩ := r_end (p0 := v0) (p1 := 0) (p2 := 0) h1 hL hG hln hc k1 (fun hb i hi => by
    rw [hvs hb] at hi ⊢
    have hi : i < 1 := hi
    have hc3 : i = 0 := by omega
    rcases hc3 with rfl <;> rfl)
  exact ⟨M9, hE, fun post hp => n1 _ (nE post hp)⟩
theorem rc_108 {M0 M Mc : Off} {T : Nat → Int32} {len a : Nat} {L : Cmds} (hT : okT T len) (hM : rTx T len Mc) (h1 : PRb M0 M false a L) (hl : a < len) (hL : L.length < 20) (hG : len3 L) (hc : (∀ r, r ≠ 0 → r ≠ 8 → Mc r = M r) ∧ (∀ q, q < 21 ∨ q = 22 ∨ 23 < q → Mc 0 q = M 0 q) ∧ (∀ q, q ≠ L.length → Mc 8 q = M 8 q) ∧ Mc 8 L.length = 108) (hP : PRc Mc Mc false (a + 1))
    : ∃ M2, PRb M0 M2 (run T len (gBs 7) (false, a + 1, [])).1 (run T len (gBs 7) (false, a + 1, [])).2.1 (L ++ [(108, (run T len (gBs 7) (false, a + 1, [])).2.2)]) ∧ ∀ post : Off → Prop, post M2 → wp_X5_number (fun v0 O1 => wp_X5_keeps (fun oE => wj_X5_command_428 post oE) O1 v0 (0 : Int32) (0 : Int32)) Mc := by
  have ha0 : a + 1 ≤ len := by omega
  obtain ⟨v0, M1, k1, w1, n1⟩ := r_N hT hM hP ha0
  have ha1 : (stp T len 78 false (a + 1)).2.1 ≤ len := stp_le ha0
  have hr : run T len (gBs 7) (false, a + 1, []) = ((stp T len 78 false (a + 1)).1, (stp T len 78 false (a + 1)).2.1, ([] ++ (stp T len 78 false (a + 1)).2.2)) := rfl
  rw [hr]
  have hvs : (stp T len 78 false (a + 1)).1 = false → ([] ++ (stp T len 78 false (a + 1)).2.2) = [v0] := fun hb => by
    rw [w1 hb]
    rfl
  have hln : ([] ++ (stp T len 78 false (a + 1)).2.2).length ≤ 3 := by
    have hq : ∀ f b x, (stp T len f b x).2.2.length ≤ 1 := fun f b x => stp_len
    have q0 := hq 78 false (a + 1)
    simp only [List.length_append, List.length_nil]
    omega
  obtain ⟨M9, hE, nE⟩ := r_end (p0 := v0) (p1 := 0) (p2 := 0) h1 hL hG hln hc k1 (fun hb i hi => by
    rw [hvs hb] at hi ⊢
    have hi : i < 1 := hi
    have hc3 : i = 0 := by omega
    rcases hc3 with rfl <;> rfl)
  exact ⟨M9, hE, fun post hp => n1 _ (nE post hp)⟩
theorem rc_109 {M0 M Mc : Off} {T : Nat → Int32} {len a : Nat} {L : Cmds} (hT : okT T len) (hM : rTx T len Mc) (h1 : PRb M0 M false a L) (hl : a < len) (hL : L.length < 20) (hG : len3 L) (hc : (∀ r, r ≠ 0 → r ≠ 8 → Mc r = M r) ∧ (∀ q, q < 21 ∨ q = 22 ∨ 23 < q → Mc 0 q = M 0 q) ∧ (∀ q, q ≠ L.length → Mc 8 q = M 8 q) ∧ Mc 8 L.length = 109) (hP : PRc Mc Mc false (a + 1))
    : ∃ M2, PRb M0 M2 (run T len (gBs 6) (false, a + 1, [])).1 (run T len (gBs 6) (false, a + 1, [])).2.1 (L ++ [(109, (run T len (gBs 6) (false, a + 1, [])).2.2)]) ∧ ∀ post : Off → Prop, post M2 → wp_X5_number (fun v0 O1 => wp_X5_sign (fun O2 => wp_X5_digit (fun v2 O3 => wp_X5_keeps (fun oE => wj_X5_command_428 post oE) O3 v0 v2 (0 : Int32)) O2) O1 62) Mc := by
  have ha0 : a + 1 ≤ len := by omega
  obtain ⟨v0, M1, k1, w1, n1⟩ := r_N hT hM hP ha0
  have ha1 : (stp T len 78 false (a + 1)).2.1 ≤ len := stp_le ha0
  obtain ⟨M2, k2, w2, n2⟩ := r_S (f := 62) (by decide) hT hM k1 ha1
  have ha2 : (stp T len 62 (stp T len 78 false (a + 1)).1 (stp T len 78 false (a + 1)).2.1).2.1 ≤ len := stp_le ha1
  obtain ⟨v2, M3, k3, w3, n3⟩ := r_D hT hM k2 ha2
  have ha3 : (stp T len 68 (stp T len 62 (stp T len 78 false (a + 1)).1 (stp T len 78 false (a + 1)).2.1).1 (stp T len 62 (stp T len 78 false (a + 1)).1 (stp T len 78 false (a + 1)).2.1).2.1).2.1 ≤ len := stp_le ha2
  have hr : run T len (gBs 6) (false, a + 1, []) = ((stp T len 68 (stp T len 62 (stp T len 78 false (a + 1)).1 (stp T len 78 false (a + 1)).2.1).1 (stp T len 62 (stp T len 78 false (a + 1)).1 (stp T len 78 false (a + 1)).2.1).2.1).1, (stp T len 68 (stp T len 62 (stp T len 78 false (a + 1)).1 (stp T len 78 false (a + 1)).2.1).1 (stp T len 62 (stp T len 78 false (a + 1)).1 (stp T len 78 false (a + 1)).2.1).2.1).2.1, ((([] ++ (stp T len 78 false (a + 1)).2.2) ++ (stp T len 62 (stp T len 78 false (a + 1)).1 (stp T len 78 false (a + 1)).2.1).2.2) ++ (stp T len 68 (stp T len 62 (stp T len 78 false (a + 1)).1 (stp T len 78 false (a + 1)).2.1).1 (stp T len 62 (stp T len 78 false (a + 1)).1 (stp T len 78 false (a + 1)).2.1).2.1).2.2)) := rfl
  rw [hr]
  have hvs : (stp T len 68 (stp T len 62 (stp T len 78 false (a + 1)).1 (stp T len 78 false (a + 1)).2.1).1 (stp T len 62 (stp T len 78 false (a + 1)).1 (stp T len 78 false (a + 1)).2.1).2.1).1 = false → ((([] ++ (stp T len 78 false (a + 1)).2.2) ++ (stp T len 62 (stp T len 78 false (a + 1)).1 (stp T len 78 false (a + 1)).2.1).2.2) ++ (stp T len 68 (stp T len 62 (stp T len 78 false (a + 1)).1 (stp T len 78 false (a + 1)).2.1).1 (stp T len 62 (stp T len 78 false (a + 1)).1 (stp T len 78 false (a + 1)).2.1).2.1).2.2) = [v0, v2] := fun hb => by
    have hb2 : (stp T len 62 (stp T len 78 false (a + 1)).1 (stp T len 78 false (a + 1)).2.1).1 = false := stp_ok hb
    have hb1 : (stp T len 78 false (a + 1)).1 = false := stp_ok hb2
    rw [w1 hb1]
    rw [w2 hb2]
    rw [w3 hb]
    rfl
  have hln : ((([] ++ (stp T len 78 false (a + 1)).2.2) ++ (stp T len 62 (stp T len 78 false (a + 1)).1 (stp T len 78 false (a + 1)).2.1).2.2) ++ (stp T len 68 (stp T len 62 (stp T len 78 false (a + 1)).1 (stp T len 78 false (a + 1)).2.1).1 (stp T len 62 (stp T len 78 false (a + 1)).1 (stp T len 78 false (a + 1)).2.1).2.1).2.2).length ≤ 3 := by
    have hq : ∀ f b x, (stp T len f b x).2.2.length ≤ 1 := fun f b x => stp_len
    have q0 := hq 78 false (a + 1)
    have q1 := hq 62 (stp T len 78 false (a + 1)).1 (stp T len 78 false (a + 1)).2.1
    have q2 := hq 68 (stp T len 62 (stp T len 78 false (a + 1)).1 (stp T len 78 false (a + 1)).2.1).1 (stp T len 62 (stp T len 78 false (a + 1)).1 (stp T len 78 false (a + 1)).2.1).2.1
    simp only [List.length_append, List.length_nil]
    omega
  obtain ⟨M9, hE, nE⟩ := r_end (p0 := v0) (p1 := v2) (p2 := 0) h1 hL hG hln hc k3 (fun hb i hi => by
    rw [hvs hb] at hi ⊢
    have hi : i < 2 := hi
    have hc3 : i = 0 ∨ i = 1 := by omega
    rcases hc3 with rfl | rfl <;> rfl)
  exact ⟨M9, hE, fun post hp => n1 _ (n2 _ (n3 _ (nE post hp)))⟩
theorem rc_110 {M0 M Mc : Off} {T : Nat → Int32} {len a : Nat} {L : Cmds} (hT : okT T len) (hM : rTx T len Mc) (h1 : PRb M0 M false a L) (hl : a < len) (hL : L.length < 20) (hG : len3 L) (hc : (∀ r, r ≠ 0 → r ≠ 8 → Mc r = M r) ∧ (∀ q, q < 21 ∨ q = 22 ∨ 23 < q → Mc 0 q = M 0 q) ∧ (∀ q, q ≠ L.length → Mc 8 q = M 8 q) ∧ Mc 8 L.length = 110) (hP : PRc Mc Mc false (a + 1))
    : ∃ M2, PRb M0 M2 (run T len (gBs 5) (false, a + 1, [])).1 (run T len (gBs 5) (false, a + 1, [])).2.1 (L ++ [(110, (run T len (gBs 5) (false, a + 1, [])).2.2)]) ∧ ∀ post : Off → Prop, post M2 → wp_X5_colour (fun v0 O1 => wp_X5_digit (fun v1 O2 => wp_X5_keeps (fun oE => wj_X5_command_428 post oE) O2 v0 v1 (0 : Int32)) O1) Mc := by
  have ha0 : a + 1 ≤ len := by omega
  obtain ⟨v0, M1, k1, w1, n1⟩ := r_C hT hM hP ha0
  have ha1 : (stp T len 67 false (a + 1)).2.1 ≤ len := stp_le ha0
  obtain ⟨v1, M2, k2, w2, n2⟩ := r_D hT hM k1 ha1
  have ha2 : (stp T len 68 (stp T len 67 false (a + 1)).1 (stp T len 67 false (a + 1)).2.1).2.1 ≤ len := stp_le ha1
  have hr : run T len (gBs 5) (false, a + 1, []) = ((stp T len 68 (stp T len 67 false (a + 1)).1 (stp T len 67 false (a + 1)).2.1).1, (stp T len 68 (stp T len 67 false (a + 1)).1 (stp T len 67 false (a + 1)).2.1).2.1, (([] ++ (stp T len 67 false (a + 1)).2.2) ++ (stp T len 68 (stp T len 67 false (a + 1)).1 (stp T len 67 false (a + 1)).2.1).2.2)) := rfl
  rw [hr]
  have hvs : (stp T len 68 (stp T len 67 false (a + 1)).1 (stp T len 67 false (a + 1)).2.1).1 = false → (([] ++ (stp T len 67 false (a + 1)).2.2) ++ (stp T len 68 (stp T len 67 false (a + 1)).1 (stp T len 67 false (a + 1)).2.1).2.2) = [v0, v1] := fun hb => by
    have hb1 : (stp T len 67 false (a + 1)).1 = false := stp_ok hb
    rw [w1 hb1]
    rw [w2 hb]
    rfl
  have hln : (([] ++ (stp T len 67 false (a + 1)).2.2) ++ (stp T len 68 (stp T len 67 false (a + 1)).1 (stp T len 67 false (a + 1)).2.1).2.2).length ≤ 3 := by
    have hq : ∀ f b x, (stp T len f b x).2.2.length ≤ 1 := fun f b x => stp_len
    have q0 := hq 67 false (a + 1)
    have q1 := hq 68 (stp T len 67 false (a + 1)).1 (stp T len 67 false (a + 1)).2.1
    simp only [List.length_append, List.length_nil]
    omega
  obtain ⟨M9, hE, nE⟩ := r_end (p0 := v0) (p1 := v1) (p2 := 0) h1 hL hG hln hc k2 (fun hb i hi => by
    rw [hvs hb] at hi ⊢
    have hi : i < 2 := hi
    have hc3 : i = 0 ∨ i = 1 := by omega
    rcases hc3 with rfl | rfl <;> rfl)
  exact ⟨M9, hE, fun post hp => n1 _ (n2 _ (nE post hp))⟩
theorem rc_112 {M0 M Mc : Off} {T : Nat → Int32} {len a : Nat} {L : Cmds} (hT : okT T len) (hM : rTx T len Mc) (h1 : PRb M0 M false a L) (hl : a < len) (hL : L.length < 20) (hG : len3 L) (hc : (∀ r, r ≠ 0 → r ≠ 8 → Mc r = M r) ∧ (∀ q, q < 21 ∨ q = 22 ∨ 23 < q → Mc 0 q = M 0 q) ∧ (∀ q, q ≠ L.length → Mc 8 q = M 8 q) ∧ Mc 8 L.length = 112) (hP : PRc Mc Mc false (a + 1))
    : ∃ M2, PRb M0 M2 (run T len (gBs 7) (false, a + 1, [])).1 (run T len (gBs 7) (false, a + 1, [])).2.1 (L ++ [(112, (run T len (gBs 7) (false, a + 1, [])).2.2)]) ∧ ∀ post : Off → Prop, post M2 → wp_X5_number (fun v0 O1 => wp_X5_keeps (fun oE => wj_X5_command_428 post oE) O1 v0 (0 : Int32) (0 : Int32)) Mc := by
  have ha0 : a + 1 ≤ len := by omega
  obtain ⟨v0, M1, k1, w1, n1⟩ := r_N hT hM hP ha0
  have ha1 : (stp T len 78 false (a + 1)).2.1 ≤ len := stp_le ha0
  have hr : run T len (gBs 7) (false, a + 1, []) = ((stp T len 78 false (a + 1)).1, (stp T len 78 false (a + 1)).2.1, ([] ++ (stp T len 78 false (a + 1)).2.2)) := rfl
  rw [hr]
  have hvs : (stp T len 78 false (a + 1)).1 = false → ([] ++ (stp T len 78 false (a + 1)).2.2) = [v0] := fun hb => by
    rw [w1 hb]
    rfl
  have hln : ([] ++ (stp T len 78 false (a + 1)).2.2).length ≤ 3 := by
    have hq : ∀ f b x, (stp T len f b x).2.2.length ≤ 1 := fun f b x => stp_len
    have q0 := hq 78 false (a + 1)
    simp only [List.length_append, List.length_nil]
    omega
  obtain ⟨M9, hE, nE⟩ := r_end (p0 := v0) (p1 := 0) (p2 := 0) h1 hL hG hln hc k1 (fun hb i hi => by
    rw [hvs hb] at hi ⊢
    have hi : i < 1 := hi
    have hc3 : i = 0 := by omega
    rcases hc3 with rfl <;> rfl)
  exact ⟨M9, hE, fun post hp => n1 _ (nE post hp)⟩
theorem rc_113 {M0 M Mc : Off} {T : Nat → Int32} {len a : Nat} {L : Cmds} (hT : okT T len) (hM : rTx T len Mc) (h1 : PRb M0 M false a L) (hl : a < len) (hL : L.length < 20) (hG : len3 L) (hc : (∀ r, r ≠ 0 → r ≠ 8 → Mc r = M r) ∧ (∀ q, q < 21 ∨ q = 22 ∨ 23 < q → Mc 0 q = M 0 q) ∧ (∀ q, q ≠ L.length → Mc 8 q = M 8 q) ∧ Mc 8 L.length = 113) (hP : PRc Mc Mc false (a + 1))
    : ∃ M2, PRb M0 M2 (run T len (gBs 11) (false, a + 1, [])).1 (run T len (gBs 11) (false, a + 1, [])).2.1 (L ++ [(113, (run T len (gBs 11) (false, a + 1, [])).2.2)]) ∧ ∀ post : Off → Prop, post M2 → wp_X5_digit (fun v0 O1 => wp_X5_sign (fun O2 => wp_X5_digit (fun v2 O3 => wp_X5_keeps (fun oE => wj_X5_command_428 post oE) O3 v0 v2 (0 : Int32)) O2) O1 61) Mc := by
  have ha0 : a + 1 ≤ len := by omega
  obtain ⟨v0, M1, k1, w1, n1⟩ := r_D hT hM hP ha0
  have ha1 : (stp T len 68 false (a + 1)).2.1 ≤ len := stp_le ha0
  obtain ⟨M2, k2, w2, n2⟩ := r_S (f := 61) (by decide) hT hM k1 ha1
  have ha2 : (stp T len 61 (stp T len 68 false (a + 1)).1 (stp T len 68 false (a + 1)).2.1).2.1 ≤ len := stp_le ha1
  obtain ⟨v2, M3, k3, w3, n3⟩ := r_D hT hM k2 ha2
  have ha3 : (stp T len 68 (stp T len 61 (stp T len 68 false (a + 1)).1 (stp T len 68 false (a + 1)).2.1).1 (stp T len 61 (stp T len 68 false (a + 1)).1 (stp T len 68 false (a + 1)).2.1).2.1).2.1 ≤ len := stp_le ha2
  have hr : run T len (gBs 11) (false, a + 1, []) = ((stp T len 68 (stp T len 61 (stp T len 68 false (a + 1)).1 (stp T len 68 false (a + 1)).2.1).1 (stp T len 61 (stp T len 68 false (a + 1)).1 (stp T len 68 false (a + 1)).2.1).2.1).1, (stp T len 68 (stp T len 61 (stp T len 68 false (a + 1)).1 (stp T len 68 false (a + 1)).2.1).1 (stp T len 61 (stp T len 68 false (a + 1)).1 (stp T len 68 false (a + 1)).2.1).2.1).2.1, ((([] ++ (stp T len 68 false (a + 1)).2.2) ++ (stp T len 61 (stp T len 68 false (a + 1)).1 (stp T len 68 false (a + 1)).2.1).2.2) ++ (stp T len 68 (stp T len 61 (stp T len 68 false (a + 1)).1 (stp T len 68 false (a + 1)).2.1).1 (stp T len 61 (stp T len 68 false (a + 1)).1 (stp T len 68 false (a + 1)).2.1).2.1).2.2)) := rfl
  rw [hr]
  have hvs : (stp T len 68 (stp T len 61 (stp T len 68 false (a + 1)).1 (stp T len 68 false (a + 1)).2.1).1 (stp T len 61 (stp T len 68 false (a + 1)).1 (stp T len 68 false (a + 1)).2.1).2.1).1 = false → ((([] ++ (stp T len 68 false (a + 1)).2.2) ++ (stp T len 61 (stp T len 68 false (a + 1)).1 (stp T len 68 false (a + 1)).2.1).2.2) ++ (stp T len 68 (stp T len 61 (stp T len 68 false (a + 1)).1 (stp T len 68 false (a + 1)).2.1).1 (stp T len 61 (stp T len 68 false (a + 1)).1 (stp T len 68 false (a + 1)).2.1).2.1).2.2) = [v0, v2] := fun hb => by
    have hb2 : (stp T len 61 (stp T len 68 false (a + 1)).1 (stp T len 68 false (a + 1)).2.1).1 = false := stp_ok hb
    have hb1 : (stp T len 68 false (a + 1)).1 = false := stp_ok hb2
    rw [w1 hb1]
    rw [w2 hb2]
    rw [w3 hb]
    rfl
  have hln : ((([] ++ (stp T len 68 false (a + 1)).2.2) ++ (stp T len 61 (stp T len 68 false (a + 1)).1 (stp T len 68 false (a + 1)).2.1).2.2) ++ (stp T len 68 (stp T len 61 (stp T len 68 false (a + 1)).1 (stp T len 68 false (a + 1)).2.1).1 (stp T len 61 (stp T len 68 false (a + 1)).1 (stp T len 68 false (a + 1)).2.1).2.1).2.2).length ≤ 3 := by
    have hq : ∀ f b x, (stp T len f b x).2.2.length ≤ 1 := fun f b x => stp_len
    have q0 := hq 68 false (a + 1)
    have q1 := hq 61 (stp T len 68 false (a + 1)).1 (stp T len 68 false (a + 1)).2.1
    have q2 := hq 68 (stp T len 61 (stp T len 68 false (a + 1)).1 (stp T len 68 false (a + 1)).2.1).1 (stp T len 61 (stp T len 68 false (a + 1)).1 (stp T len 68 false (a + 1)).2.1).2.1
    simp only [List.length_append, List.length_nil]
    omega
  obtain ⟨M9, hE, nE⟩ := r_end (p0 := v0) (p1 := v2) (p2 := 0) h1 hL hG hln hc k3 (fun hb i hi => by
    rw [hvs hb] at hi ⊢
    have hi : i < 2 := hi
    have hc3 : i = 0 ∨ i = 1 := by omega
    rcases hc3 with rfl | rfl <;> rfl)
  exact ⟨M9, hE, fun post hp => n1 _ (n2 _ (n3 _ (nE post hp)))⟩
theorem rc_114 {M0 M Mc : Off} {T : Nat → Int32} {len a : Nat} {L : Cmds} (hT : okT T len) (hM : rTx T len Mc) (h1 : PRb M0 M false a L) (hl : a < len) (hL : L.length < 20) (hG : len3 L) (hc : (∀ r, r ≠ 0 → r ≠ 8 → Mc r = M r) ∧ (∀ q, q < 21 ∨ q = 22 ∨ 23 < q → Mc 0 q = M 0 q) ∧ (∀ q, q ≠ L.length → Mc 8 q = M 8 q) ∧ Mc 8 L.length = 114) (hP : PRc Mc Mc false (a + 1))
    : ∃ M2, PRb M0 M2 (run T len (gBs 9) (false, a + 1, [])).1 (run T len (gBs 9) (false, a + 1, [])).2.1 (L ++ [(114, (run T len (gBs 9) (false, a + 1, [])).2.2)]) ∧ ∀ post : Off → Prop, post M2 → wp_X5_number (fun v0 O1 => wp_X5_sign (fun O2 => wp_X5_digit (fun v2 O3 => wp_X5_keeps (fun oE => wj_X5_command_428 post oE) O3 v0 v2 (0 : Int32)) O2) O1 43) Mc := by
  have ha0 : a + 1 ≤ len := by omega
  obtain ⟨v0, M1, k1, w1, n1⟩ := r_N hT hM hP ha0
  have ha1 : (stp T len 78 false (a + 1)).2.1 ≤ len := stp_le ha0
  obtain ⟨M2, k2, w2, n2⟩ := r_S (f := 43) (by decide) hT hM k1 ha1
  have ha2 : (stp T len 43 (stp T len 78 false (a + 1)).1 (stp T len 78 false (a + 1)).2.1).2.1 ≤ len := stp_le ha1
  obtain ⟨v2, M3, k3, w3, n3⟩ := r_D hT hM k2 ha2
  have ha3 : (stp T len 68 (stp T len 43 (stp T len 78 false (a + 1)).1 (stp T len 78 false (a + 1)).2.1).1 (stp T len 43 (stp T len 78 false (a + 1)).1 (stp T len 78 false (a + 1)).2.1).2.1).2.1 ≤ len := stp_le ha2
  have hr : run T len (gBs 9) (false, a + 1, []) = ((stp T len 68 (stp T len 43 (stp T len 78 false (a + 1)).1 (stp T len 78 false (a + 1)).2.1).1 (stp T len 43 (stp T len 78 false (a + 1)).1 (stp T len 78 false (a + 1)).2.1).2.1).1, (stp T len 68 (stp T len 43 (stp T len 78 false (a + 1)).1 (stp T len 78 false (a + 1)).2.1).1 (stp T len 43 (stp T len 78 false (a + 1)).1 (stp T len 78 false (a + 1)).2.1).2.1).2.1, ((([] ++ (stp T len 78 false (a + 1)).2.2) ++ (stp T len 43 (stp T len 78 false (a + 1)).1 (stp T len 78 false (a + 1)).2.1).2.2) ++ (stp T len 68 (stp T len 43 (stp T len 78 false (a + 1)).1 (stp T len 78 false (a + 1)).2.1).1 (stp T len 43 (stp T len 78 false (a + 1)).1 (stp T len 78 false (a + 1)).2.1).2.1).2.2)) := rfl
  rw [hr]
  have hvs : (stp T len 68 (stp T len 43 (stp T len 78 false (a + 1)).1 (stp T len 78 false (a + 1)).2.1).1 (stp T len 43 (stp T len 78 false (a + 1)).1 (stp T len 78 false (a + 1)).2.1).2.1).1 = false → ((([] ++ (stp T len 78 false (a + 1)).2.2) ++ (stp T len 43 (stp T len 78 false (a + 1)).1 (stp T len 78 false (a + 1)).2.1).2.2) ++ (stp T len 68 (stp T len 43 (stp T len 78 false (a + 1)).1 (stp T len 78 false (a + 1)).2.1).1 (stp T len 43 (stp T len 78 false (a + 1)).1 (stp T len 78 false (a + 1)).2.1).2.1).2.2) = [v0, v2] := fun hb => by
    have hb2 : (stp T len 43 (stp T len 78 false (a + 1)).1 (stp T len 78 false (a + 1)).2.1).1 = false := stp_ok hb
    have hb1 : (stp T len 78 false (a + 1)).1 = false := stp_ok hb2
    rw [w1 hb1]
    rw [w2 hb2]
    rw [w3 hb]
    rfl
  have hln : ((([] ++ (stp T len 78 false (a + 1)).2.2) ++ (stp T len 43 (stp T len 78 false (a + 1)).1 (stp T len 78 false (a + 1)).2.1).2.2) ++ (stp T len 68 (stp T len 43 (stp T len 78 false (a + 1)).1 (stp T len 78 false (a + 1)).2.1).1 (stp T len 43 (stp T len 78 false (a + 1)).1 (stp T len 78 false (a + 1)).2.1).2.1).2.2).length ≤ 3 := by
    have hq : ∀ f b x, (stp T len f b x).2.2.length ≤ 1 := fun f b x => stp_len
    have q0 := hq 78 false (a + 1)
    have q1 := hq 43 (stp T len 78 false (a + 1)).1 (stp T len 78 false (a + 1)).2.1
    have q2 := hq 68 (stp T len 43 (stp T len 78 false (a + 1)).1 (stp T len 78 false (a + 1)).2.1).1 (stp T len 43 (stp T len 78 false (a + 1)).1 (stp T len 78 false (a + 1)).2.1).2.1
    simp only [List.length_append, List.length_nil]
    omega
  obtain ⟨M9, hE, nE⟩ := r_end (p0 := v0) (p1 := v2) (p2 := 0) h1 hL hG hln hc k3 (fun hb i hi => by
    rw [hvs hb] at hi ⊢
    have hi : i < 2 := hi
    have hc3 : i = 0 ∨ i = 1 := by omega
    rcases hc3 with rfl | rfl <;> rfl)
  exact ⟨M9, hE, fun post hp => n1 _ (n2 _ (n3 _ (nE post hp)))⟩
theorem rc_116 {M0 M Mc : Off} {T : Nat → Int32} {len a : Nat} {L : Cmds} (hT : okT T len) (hM : rTx T len Mc) (h1 : PRb M0 M false a L) (hl : a < len) (hL : L.length < 20) (hG : len3 L) (hc : (∀ r, r ≠ 0 → r ≠ 8 → Mc r = M r) ∧ (∀ q, q < 21 ∨ q = 22 ∨ 23 < q → Mc 0 q = M 0 q) ∧ (∀ q, q ≠ L.length → Mc 8 q = M 8 q) ∧ Mc 8 L.length = 116) (hP : PRc Mc Mc false (a + 1))
    : ∃ M2, PRb M0 M2 (run T len (gBs 13) (false, a + 1, [])).1 (run T len (gBs 13) (false, a + 1, [])).2.1 (L ++ [(116, (run T len (gBs 13) (false, a + 1, [])).2.2)]) ∧ ∀ post : Off → Prop, post M2 → wp_X5_digit (fun v0 O1 => wp_X5_digit (fun v1 O2 => wp_X5_clause (fun v2 O3 => wp_X5_keeps (fun oE => wj_X5_command_428 post oE) O3 v0 v1 v2) O2) O1) Mc := by
  have ha0 : a + 1 ≤ len := by omega
  obtain ⟨v0, M1, k1, w1, n1⟩ := r_D hT hM hP ha0
  have ha1 : (stp T len 68 false (a + 1)).2.1 ≤ len := stp_le ha0
  obtain ⟨v1, M2, k2, w2, n2⟩ := r_D hT hM k1 ha1
  have ha2 : (stp T len 68 (stp T len 68 false (a + 1)).1 (stp T len 68 false (a + 1)).2.1).2.1 ≤ len := stp_le ha1
  obtain ⟨v2, M3, k3, w3, n3⟩ := r_T hT hM k2 ha2
  have ha3 : (stp T len 84 (stp T len 68 (stp T len 68 false (a + 1)).1 (stp T len 68 false (a + 1)).2.1).1 (stp T len 68 (stp T len 68 false (a + 1)).1 (stp T len 68 false (a + 1)).2.1).2.1).2.1 ≤ len := stp_le ha2
  have hr : run T len (gBs 13) (false, a + 1, []) = ((stp T len 84 (stp T len 68 (stp T len 68 false (a + 1)).1 (stp T len 68 false (a + 1)).2.1).1 (stp T len 68 (stp T len 68 false (a + 1)).1 (stp T len 68 false (a + 1)).2.1).2.1).1, (stp T len 84 (stp T len 68 (stp T len 68 false (a + 1)).1 (stp T len 68 false (a + 1)).2.1).1 (stp T len 68 (stp T len 68 false (a + 1)).1 (stp T len 68 false (a + 1)).2.1).2.1).2.1, ((([] ++ (stp T len 68 false (a + 1)).2.2) ++ (stp T len 68 (stp T len 68 false (a + 1)).1 (stp T len 68 false (a + 1)).2.1).2.2) ++ (stp T len 84 (stp T len 68 (stp T len 68 false (a + 1)).1 (stp T len 68 false (a + 1)).2.1).1 (stp T len 68 (stp T len 68 false (a + 1)).1 (stp T len 68 false (a + 1)).2.1).2.1).2.2)) := rfl
  rw [hr]
  have hvs : (stp T len 84 (stp T len 68 (stp T len 68 false (a + 1)).1 (stp T len 68 false (a + 1)).2.1).1 (stp T len 68 (stp T len 68 false (a + 1)).1 (stp T len 68 false (a + 1)).2.1).2.1).1 = false → ((([] ++ (stp T len 68 false (a + 1)).2.2) ++ (stp T len 68 (stp T len 68 false (a + 1)).1 (stp T len 68 false (a + 1)).2.1).2.2) ++ (stp T len 84 (stp T len 68 (stp T len 68 false (a + 1)).1 (stp T len 68 false (a + 1)).2.1).1 (stp T len 68 (stp T len 68 false (a + 1)).1 (stp T len 68 false (a + 1)).2.1).2.1).2.2) = [v0, v1, v2] := fun hb => by
    have hb2 : (stp T len 68 (stp T len 68 false (a + 1)).1 (stp T len 68 false (a + 1)).2.1).1 = false := stp_ok hb
    have hb1 : (stp T len 68 false (a + 1)).1 = false := stp_ok hb2
    rw [w1 hb1]
    rw [w2 hb2]
    rw [w3 hb]
    rfl
  have hln : ((([] ++ (stp T len 68 false (a + 1)).2.2) ++ (stp T len 68 (stp T len 68 false (a + 1)).1 (stp T len 68 false (a + 1)).2.1).2.2) ++ (stp T len 84 (stp T len 68 (stp T len 68 false (a + 1)).1 (stp T len 68 false (a + 1)).2.1).1 (stp T len 68 (stp T len 68 false (a + 1)).1 (stp T len 68 false (a + 1)).2.1).2.1).2.2).length ≤ 3 := by
    have hq : ∀ f b x, (stp T len f b x).2.2.length ≤ 1 := fun f b x => stp_len
    have q0 := hq 68 false (a + 1)
    have q1 := hq 68 (stp T len 68 false (a + 1)).1 (stp T len 68 false (a + 1)).2.1
    have q2 := hq 84 (stp T len 68 (stp T len 68 false (a + 1)).1 (stp T len 68 false (a + 1)).2.1).1 (stp T len 68 (stp T len 68 false (a + 1)).1 (stp T len 68 false (a + 1)).2.1).2.1
    simp only [List.length_append, List.length_nil]
    omega
  obtain ⟨M9, hE, nE⟩ := r_end (p0 := v0) (p1 := v1) (p2 := v2) h1 hL hG hln hc k3 (fun hb i hi => by
    rw [hvs hb])
  exact ⟨M9, hE, fun post hp => n1 _ (n2 _ (n3 _ (nE post hp)))⟩
theorem rc_117 {M0 M Mc : Off} {T : Nat → Int32} {len a : Nat} {L : Cmds} (hT : okT T len) (hM : rTx T len Mc) (h1 : PRb M0 M false a L) (hl : a < len) (hL : L.length < 20) (hG : len3 L) (hc : (∀ r, r ≠ 0 → r ≠ 8 → Mc r = M r) ∧ (∀ q, q < 21 ∨ q = 22 ∨ 23 < q → Mc 0 q = M 0 q) ∧ (∀ q, q ≠ L.length → Mc 8 q = M 8 q) ∧ Mc 8 L.length = 117) (hP : PRc Mc Mc false (a + 1))
    : ∃ M2, PRb M0 M2 (run T len (gBs 12) (false, a + 1, [])).1 (run T len (gBs 12) (false, a + 1, [])).2.1 (L ++ [(117, (run T len (gBs 12) (false, a + 1, [])).2.2)]) ∧ ∀ post : Off → Prop, post M2 → wp_X5_digit (fun v0 O1 => wp_X5_colour (fun v1 O2 => wp_X5_keeps (fun oE => wj_X5_command_428 post oE) O2 v0 v1 (0 : Int32)) O1) Mc := by
  have ha0 : a + 1 ≤ len := by omega
  obtain ⟨v0, M1, k1, w1, n1⟩ := r_D hT hM hP ha0
  have ha1 : (stp T len 68 false (a + 1)).2.1 ≤ len := stp_le ha0
  obtain ⟨v1, M2, k2, w2, n2⟩ := r_C hT hM k1 ha1
  have ha2 : (stp T len 67 (stp T len 68 false (a + 1)).1 (stp T len 68 false (a + 1)).2.1).2.1 ≤ len := stp_le ha1
  have hr : run T len (gBs 12) (false, a + 1, []) = ((stp T len 67 (stp T len 68 false (a + 1)).1 (stp T len 68 false (a + 1)).2.1).1, (stp T len 67 (stp T len 68 false (a + 1)).1 (stp T len 68 false (a + 1)).2.1).2.1, (([] ++ (stp T len 68 false (a + 1)).2.2) ++ (stp T len 67 (stp T len 68 false (a + 1)).1 (stp T len 68 false (a + 1)).2.1).2.2)) := rfl
  rw [hr]
  have hvs : (stp T len 67 (stp T len 68 false (a + 1)).1 (stp T len 68 false (a + 1)).2.1).1 = false → (([] ++ (stp T len 68 false (a + 1)).2.2) ++ (stp T len 67 (stp T len 68 false (a + 1)).1 (stp T len 68 false (a + 1)).2.1).2.2) = [v0, v1] := fun hb => by
    have hb1 : (stp T len 68 false (a + 1)).1 = false := stp_ok hb
    rw [w1 hb1]
    rw [w2 hb]
    rfl
  have hln : (([] ++ (stp T len 68 false (a + 1)).2.2) ++ (stp T len 67 (stp T len 68 false (a + 1)).1 (stp T len 68 false (a + 1)).2.1).2.2).length ≤ 3 := by
    have hq : ∀ f b x, (stp T len f b x).2.2.length ≤ 1 := fun f b x => stp_len
    have q0 := hq 68 false (a + 1)
    have q1 := hq 67 (stp T len 68 false (a + 1)).1 (stp T len 68 false (a + 1)).2.1
    simp only [List.length_append, List.length_nil]
    omega
  obtain ⟨M9, hE, nE⟩ := r_end (p0 := v0) (p1 := v1) (p2 := 0) h1 hL hG hln hc k2 (fun hb i hi => by
    rw [hvs hb] at hi ⊢
    have hi : i < 2 := hi
    have hc3 : i = 0 ∨ i = 1 := by omega
    rcases hc3 with rfl | rfl <;> rfl)
  exact ⟨M9, hE, fun post hp => n1 _ (n2 _ (nE post hp))⟩
theorem rc_119 {M0 M Mc : Off} {T : Nat → Int32} {len a : Nat} {L : Cmds} (hT : okT T len) (hM : rTx T len Mc) (h1 : PRb M0 M false a L) (hl : a < len) (hL : L.length < 20) (hG : len3 L) (hc : (∀ r, r ≠ 0 → r ≠ 8 → Mc r = M r) ∧ (∀ q, q < 21 ∨ q = 22 ∨ 23 < q → Mc 0 q = M 0 q) ∧ (∀ q, q ≠ L.length → Mc 8 q = M 8 q) ∧ Mc 8 L.length = 119) (hP : PRc Mc Mc false (a + 1))
    : ∃ M2, PRb M0 M2 (run T len (gBs 7) (false, a + 1, [])).1 (run T len (gBs 7) (false, a + 1, [])).2.1 (L ++ [(119, (run T len (gBs 7) (false, a + 1, [])).2.2)]) ∧ ∀ post : Off → Prop, post M2 → wp_X5_number (fun v0 O1 => wp_X5_keeps (fun oE => wj_X5_command_428 post oE) O1 v0 (0 : Int32) (0 : Int32)) Mc := by
  have ha0 : a + 1 ≤ len := by omega
  obtain ⟨v0, M1, k1, w1, n1⟩ := r_N hT hM hP ha0
  have ha1 : (stp T len 78 false (a + 1)).2.1 ≤ len := stp_le ha0
  have hr : run T len (gBs 7) (false, a + 1, []) = ((stp T len 78 false (a + 1)).1, (stp T len 78 false (a + 1)).2.1, ([] ++ (stp T len 78 false (a + 1)).2.2)) := rfl
  rw [hr]
  have hvs : (stp T len 78 false (a + 1)).1 = false → ([] ++ (stp T len 78 false (a + 1)).2.2) = [v0] := fun hb => by
    rw [w1 hb]
    rfl
  have hln : ([] ++ (stp T len 78 false (a + 1)).2.2).length ≤ 3 := by
    have hq : ∀ f b x, (stp T len f b x).2.2.length ≤ 1 := fun f b x => stp_len
    have q0 := hq 78 false (a + 1)
    simp only [List.length_append, List.length_nil]
    omega
  obtain ⟨M9, hE, nE⟩ := r_end (p0 := v0) (p1 := 0) (p2 := 0) h1 hL hG hln hc k1 (fun hb i hi => by
    rw [hvs hb] at hi ⊢
    have hi : i < 1 := hi
    have hc3 : i = 0 := by omega
    rcases hc3 with rfl <;> rfl)
  exact ⟨M9, hE, fun post hp => n1 _ (nE post hp)⟩
theorem rc_121 {M0 M Mc : Off} {T : Nat → Int32} {len a : Nat} {L : Cmds} (hT : okT T len) (hM : rTx T len Mc) (h1 : PRb M0 M false a L) (hl : a < len) (hL : L.length < 20) (hG : len3 L) (hc : (∀ r, r ≠ 0 → r ≠ 8 → Mc r = M r) ∧ (∀ q, q < 21 ∨ q = 22 ∨ 23 < q → Mc 0 q = M 0 q) ∧ (∀ q, q ≠ L.length → Mc 8 q = M 8 q) ∧ Mc 8 L.length = 121) (hP : PRc Mc Mc false (a + 1))
    : ∃ M2, PRb M0 M2 (run T len (gBs 7) (false, a + 1, [])).1 (run T len (gBs 7) (false, a + 1, [])).2.1 (L ++ [(121, (run T len (gBs 7) (false, a + 1, [])).2.2)]) ∧ ∀ post : Off → Prop, post M2 → wp_X5_number (fun v0 O1 => wp_X5_keeps (fun oE => wj_X5_command_428 post oE) O1 v0 (0 : Int32) (0 : Int32)) Mc := by
  have ha0 : a + 1 ≤ len := by omega
  obtain ⟨v0, M1, k1, w1, n1⟩ := r_N hT hM hP ha0
  have ha1 : (stp T len 78 false (a + 1)).2.1 ≤ len := stp_le ha0
  have hr : run T len (gBs 7) (false, a + 1, []) = ((stp T len 78 false (a + 1)).1, (stp T len 78 false (a + 1)).2.1, ([] ++ (stp T len 78 false (a + 1)).2.2)) := rfl
  rw [hr]
  have hvs : (stp T len 78 false (a + 1)).1 = false → ([] ++ (stp T len 78 false (a + 1)).2.2) = [v0] := fun hb => by
    rw [w1 hb]
    rfl
  have hln : ([] ++ (stp T len 78 false (a + 1)).2.2).length ≤ 3 := by
    have hq : ∀ f b x, (stp T len f b x).2.2.length ≤ 1 := fun f b x => stp_len
    have q0 := hq 78 false (a + 1)
    simp only [List.length_append, List.length_nil]
    omega
  obtain ⟨M9, hE, nE⟩ := r_end (p0 := v0) (p1 := 0) (p2 := 0) h1 hL hG hln hc k1 (fun hb i hi => by
    rw [hvs hb] at hi ⊢
    have hi : i < 1 := hi
    have hc3 : i = 0 := by omega
    rcases hc3 with rfl <;> rfl)
  exact ⟨M9, hE, fun post hp => n1 _ (nE post hp)⟩
abbrev argX (post : Off → Prop) (x1 : Int32) (o4 : Off) : Prop := ((x1 = (97 : Int32) → wp_X5_number (fun v6 o5 => wp_X5_sign (fun o7 => wp_X5_digit (fun v9 o8 => wp_X5_keeps (fun o10 => wj_X5_command_428 post o10) o8 v6 v9 (0 : Int32)) o7 ) o5 (62 : Int32)) o4 ) ∧ (¬ x1 = (97 : Int32) → ((x1 = (98 : Int32) → wp_X5_digit (fun v13 o12 => wp_X5_colour (fun v15 o14 => wp_X5_keeps (fun o16 => wj_X5_command_428 post o16) o14 v13 v15 (0 : Int32)) o12 ) o4 ) ∧ (¬ x1 = (98 : Int32) → ((x1 = (100 : Int32) → wp_X5_digit (fun v18 o17 => wp_X5_keeps (fun o19 => wj_X5_command_428 post o19) o17 v18 (0 : Int32) (0 : Int32)) o4 ) ∧ (¬ x1 = (100 : Int32) → ((x1 = (101 : Int32) → wp_X5_digit (fun v21 o20 => wp_X5_digit (fun v23 o22 => wp_X5_keeps (fun o24 => wj_X5_command_428 post o24) o22 v21 v23 (0 : Int32)) o20 ) o4 ) ∧ (¬ x1 = (101 : Int32) → ((x1 = (106 : Int32) → wp_X5_number (fun v26 o25 => wp_X5_sign (fun o27 => wp_X5_number (fun v29 o28 => wp_X5_keeps (fun o30 => wj_X5_command_428 post o30) o28 v26 v29 (0 : Int32)) o27 ) o25 (38 : Int32)) o4 ) ∧ (¬ x1 = (106 : Int32) → ((x1 = (109 : Int32) → wp_X5_number (fun v32 o31 => wp_X5_sign (fun o33 => wp_X5_digit (fun v35 o34 => wp_X5_keeps (fun o36 => wj_X5_command_428 post o36) o34 v32 v35 (0 : Int32)) o33 ) o31 (62 : Int32)) o4 ) ∧ (¬ x1 = (109 : Int32) → ((x1 = (110 : Int32) → wp_X5_colour (fun v38 o37 => wp_X5_digit (fun v40 o39 => wp_X5_keeps (fun o41 => wj_X5_command_428 post o41) o39 v38 v40 (0 : Int32)) o37 ) o4 ) ∧ (¬ x1 = (110 : Int32) → ((x1 = (113 : Int32) → wp_X5_digit (fun v43 o42 => wp_X5_sign (fun o44 => wp_X5_digit (fun v46 o45 => wp_X5_keeps (fun o47 => wj_X5_command_428 post o47) o45 v43 v46 (0 : Int32)) o44 ) o42 (61 : Int32)) o4 ) ∧ (¬ x1 = (113 : Int32) → ((x1 = (114 : Int32) → wp_X5_number (fun v49 o48 => wp_X5_sign (fun o50 => wp_X5_digit (fun v52 o51 => wp_X5_keeps (fun o53 => wj_X5_command_428 post o53) o51 v49 v52 (0 : Int32)) o50 ) o48 (43 : Int32)) o4 ) ∧ (¬ x1 = (114 : Int32) → ((x1 = (116 : Int32) → wp_X5_digit (fun v55 o54 => wp_X5_digit (fun v57 o56 => wp_X5_clause (fun v59 o58 => wp_X5_keeps (fun o60 => wj_X5_command_428 post o60) o58 v55 v57 v59) o56 ) o54 ) o4 ) ∧ (¬ x1 = (116 : Int32) → ((x1 = (117 : Int32) → wp_X5_digit (fun v62 o61 => wp_X5_colour (fun v64 o63 => wp_X5_keeps (fun o65 => wj_X5_command_428 post o65) o63 v62 v64 (0 : Int32)) o61 ) o4 ) ∧ (¬ x1 = (117 : Int32) → wp_X5_number (fun v67 o66 => wp_X5_keeps (fun o68 => wj_X5_command_428 post o68) o66 v67 (0 : Int32) (0 : Int32)) o4 ))))))))))))))))))))))
theorem r_com {M0 M : Off} {T : Nat → Int32} {len a : Nat} {L : Cmds} (hT : okT T len) (hM : rTx T len M) (h1 : PRb M0 M false a L) (ha : a ≤ len) (h3 : 3 * L.length ≤ a) (hG : len3 L) : ∃ M2, ((com T len a).1 = true → ∃ L2, PRb M0 M2 true (com T len a).2.1 L2) ∧ ((com T len a).1 = false → PRb M0 M2 false (com T len a).2.1 (L ++ [(T a, (com T len a).2.2)])) ∧ ∀ post : Off → Prop, post M2 → wp_X5_command post M := by
  have h60 := hT.1
  obtain ⟨a1, a2, a3, a4, a5⟩ := id h1
  have hPm : PRc M M false a := ⟨fun _ _ => rfl, fun _ _ _ => rfl, a3, a4⟩
  by_cases hc : a < len ∧ frm (T a) ≠ 15
  case neg =>
    have hcom : com T len a = (true, a, []) := by unfold com; rw [if_neg hc]
    rw [hcom]
    obtain ⟨v0, M2, hcs, hn⟩ := r_next (g := false) hT hM hPm (fun _ y => by cases y)
    rcases hcs with ⟨-, h2, hv0⟩ | ⟨⟨-, y⟩, -⟩
    case inr => cases y
    refine ⟨M2, fun _ => ⟨[], ⟨fun r r0 r8 r9 => (h2.1 r r0).trans (a1 r r0 r8 r9), fun q hq => (h2.2.1 q (by omega) (by omega)).trans (a2 q hq), h2.2.2.1, h2.2.2.2, fun y => by cases y⟩⟩, fun y => (by cases y), fun post hp => r_mark hT hM hPm ha ?_⟩
    have hbad : wj_X5_command_109 post M (if false = false ∧ a < len then T a else -1) 0 := by
      refine hn _ ?_
      rw [h2.2.2.2]
      exact b10 hp
    generalize hv : (if false = false ∧ a < len then T a else -1) = v at hbad ⊢
    have hne : frm v = 15 := by
      rw [← hv]
      by_cases hl : a < len
      · rw [if_pos ⟨rfl, hl⟩]
        by_cases hf : frm (T a) = 15
        · exact hf
        · exact absurd ⟨hl, hf⟩ hc
      · rw [if_neg (fun y => hl y.2)]; decide
    have n97 : ¬ v = 97 := fun y => by rw [y] at hne; exact absurd hne (by decide)
    have n98 : ¬ v = 98 := fun y => by rw [y] at hne; exact absurd hne (by decide)
    have n100 : ¬ v = 100 := fun y => by rw [y] at hne; exact absurd hne (by decide)
    have n101 : ¬ v = 101 := fun y => by rw [y] at hne; exact absurd hne (by decide)
    have n106 : ¬ v = 106 := fun y => by rw [y] at hne; exact absurd hne (by decide)
    have n107 : ¬ v = 107 := fun y => by rw [y] at hne; exact absurd hne (by decide)
    have n108 : ¬ v = 108 := fun y => by rw [y] at hne; exact absurd hne (by decide)
    have n109 : ¬ v = 109 := fun y => by rw [y] at hne; exact absurd hne (by decide)
    have n110 : ¬ v = 110 := fun y => by rw [y] at hne; exact absurd hne (by decide)
    have n112 : ¬ v = 112 := fun y => by rw [y] at hne; exact absurd hne (by decide)
    have n113 : ¬ v = 113 := fun y => by rw [y] at hne; exact absurd hne (by decide)
    have n114 : ¬ v = 114 := fun y => by rw [y] at hne; exact absurd hne (by decide)
    have n116 : ¬ v = 116 := fun y => by rw [y] at hne; exact absurd hne (by decide)
    have n117 : ¬ v = 117 := fun y => by rw [y] at hne; exact absurd hne (by decide)
    have n119 : ¬ v = 119 := fun y => by rw [y] at hne; exact absurd hne (by decide)
    have n121 : ¬ v = 121 := fun y => by rw [y] at hne; exact absurd hne (by decide)
    exact iF n110 (iF n97 (iF n119 (iF n112 (iF n100 (iF n114 (iF n108 (iF n109 (iF n106 (iF n107 (iF n113 (iF n98 (iF n117 (iF n116 (iF n101 (jF n121 hbad)))))))))))))))
  obtain ⟨hl, hf⟩ := hc
  have hL : L.length < 20 := by omega
  have hcom : com T len a = run T len (gBs (frm (T a))) (false, a + 1, []) := by unfold com; rw [if_pos ⟨hl, hf⟩]
  rw [hcom]
  -- the letter is kept
  obtain ⟨v0, M2, hcs, hn⟩ := r_next (g := true) hT hM hPm (fun _ _ => hl)
  rcases hcs with ⟨y, -, -⟩ | ⟨-, h2, hv0⟩
  case inl => rcases y with y | y <;> cases y
  obtain ⟨b1, b2, b3, b4⟩ := h2
  have g22 : M2 0 22 = nI L.length := by rw [b2 22 (by decide) (by decide)]; exact (a5 rfl).1
  generalize hMc : st M2 8 L.length (T a) = Mc
  have e4 := hMc.symm
  have hM2 : rTx T len Mc := ⟨by rw [e4, st_r _ _ _ _ _ (by decide), b2 20 (by decide) (by decide)]; exact hM.1, fun i hi => by rw [e4, st_r _ _ _ _ _ (by decide), b1 7 (by decide)]; exact hM.2 i hi⟩
  have hc : (∀ r, r ≠ 0 → r ≠ 8 → Mc r = M r) ∧ (∀ q, q < 21 ∨ q = 22 ∨ 23 < q → Mc 0 q = M 0 q) ∧ (∀ q, q ≠ L.length → Mc 8 q = M 8 q) ∧ Mc 8 L.length = T a := ⟨fun r r0 r8 => by rw [e4, st_r _ _ _ _ _ r8]; exact b1 r r0, fun q hq => by rw [e4, st_r _ _ _ _ _ (by decide)]; exact b2 q (by omega) (by omega), fun q hq => by rw [e4, st_at, if_neg (fun y => hq y.2), b1 8 (by decide)], by rw [e4, st_at, if_pos ⟨rfl, rfl⟩]⟩
  have hPc : PRc Mc Mc false (a + 1) := ⟨fun _ _ => rfl, fun _ _ _ => rfl, by rw [e4, st_r _ _ _ _ _ (by decide)]; exact b3, by rw [e4, st_r _ _ _ _ _ (by decide)]; exact b4⟩
  have h109 : ∀ post : Off → Prop, argX post (T a) Mc → wj_X5_command_109 post M (T a) 1 := by
    intro post h
    refine hn _ ?_
    rw [b4, g22, kc (by omega)]
    refine b00 ⟨vpk (by omega) (by omega), fun o4 e4' => ?_⟩
    rw [e4', hMc]
    exact h
  suffices hs : ∃ M9, PRb M0 M9 (run T len (gBs (frm (T a))) (false, a + 1, [])).1 (run T len (gBs (frm (T a))) (false, a + 1, [])).2.1 (L ++ [(T a, (run T len (gBs (frm (T a))) (false, a + 1, [])).2.2)]) ∧ ∀ post : Off → Prop, post M9 → wp_X5_command post M by
    obtain ⟨M9, k1, k2⟩ := hs
    refine ⟨M9, fun hb => ⟨L ++ [(T a, (run T len (gBs (frm (T a))) (false, a + 1, [])).2.2)], by rw [hb] at k1; exact k1⟩, fun hb => by rw [hb] at k1; exact k1, k2⟩
  have hmk : ∀ post : Off → Prop, ((((T a) = (110 : Int32) → wj_X5_command_104 post M (T a)) ∧ (¬ (T a) = (110 : Int32) → (((T a) = (97 : Int32) → wj_X5_command_104 post M (T a)) ∧ (¬ (T a) = (97 : Int32) → (((T a) = (119 : Int32) → wj_X5_command_104 post M (T a)) ∧ (¬ (T a) = (119 : Int32) → (((T a) = (112 : Int32) → wj_X5_command_104 post M (T a)) ∧ (¬ (T a) = (112 : Int32) → (((T a) = (100 : Int32) → wj_X5_command_104 post M (T a)) ∧ (¬ (T a) = (100 : Int32) → (((T a) = (114 : Int32) → wj_X5_command_104 post M (T a)) ∧ (¬ (T a) = (114 : Int32) → (((T a) = (108 : Int32) → wj_X5_command_104 post M (T a)) ∧ (¬ (T a) = (108 : Int32) → (((T a) = (109 : Int32) → wj_X5_command_104 post M (T a)) ∧ (¬ (T a) = (109 : Int32) → (((T a) = (106 : Int32) → wj_X5_command_104 post M (T a)) ∧ (¬ (T a) = (106 : Int32) → (((T a) = (107 : Int32) → wj_X5_command_104 post M (T a)) ∧ (¬ (T a) = (107 : Int32) → (((T a) = (113 : Int32) → wj_X5_command_104 post M (T a)) ∧ (¬ (T a) = (113 : Int32) → (((T a) = (98 : Int32) → wj_X5_command_104 post M (T a)) ∧ (¬ (T a) = (98 : Int32) → (((T a) = (117 : Int32) → wj_X5_command_104 post M (T a)) ∧ (¬ (T a) = (117 : Int32) → (((T a) = (116 : Int32) → wj_X5_command_104 post M (T a)) ∧ (¬ (T a) = (116 : Int32) → (((T a) = (101 : Int32) → wj_X5_command_104 post M (T a)) ∧ (¬ (T a) = (101 : Int32) → ((¬ (T a) = (121 : Int32) → wj_X5_command_109 post M (T a) (0 : Int32)) ∧ ((T a) = (121 : Int32) → wj_X5_command_104 post M (T a)))))))))))))))))))))))))))))))))) → wp_X5_command post M := fun post hx => r_mark hT hM hPm ha (by rw [if_pos ⟨rfl, hl⟩]; exact hx)
  rcases frm_c hf with e | e | e | e | e | e | e | e | e | e | e | e | e | e | e | e
  · rw [e] at h109 hc hmk ⊢
    obtain ⟨M9, k1, k2⟩ := rc_97 hT hM2 h1 hl hL hG hc hPc
    exact ⟨M9, k1, fun post hp => hmk post (iF (by decide) (iT rfl (h109 post (iT rfl (k2 post hp)))))⟩
  · rw [e] at h109 hc hmk ⊢
    obtain ⟨M9, k1, k2⟩ := rc_98 hT hM2 h1 hl hL hG hc hPc
    exact ⟨M9, k1, fun post hp => hmk post (iF (by decide) (iF (by decide) (iF (by decide) (iF (by decide) (iF (by decide) (iF (by decide) (iF (by decide) (iF (by decide) (iF (by decide) (iF (by decide) (iF (by decide) (iT rfl (h109 post (iF (by decide) (iT rfl (k2 post hp))))))))))))))))⟩
  · rw [e] at h109 hc hmk ⊢
    obtain ⟨M9, k1, k2⟩ := rc_100 hT hM2 h1 hl hL hG hc hPc
    exact ⟨M9, k1, fun post hp => hmk post (iF (by decide) (iF (by decide) (iF (by decide) (iF (by decide) (iT rfl (h109 post (iF (by decide) (iF (by decide) (iT rfl (k2 post hp))))))))))⟩
  · rw [e] at h109 hc hmk ⊢
    obtain ⟨M9, k1, k2⟩ := rc_101 hT hM2 h1 hl hL hG hc hPc
    exact ⟨M9, k1, fun post hp => hmk post (iF (by decide) (iF (by decide) (iF (by decide) (iF (by decide) (iF (by decide) (iF (by decide) (iF (by decide) (iF (by decide) (iF (by decide) (iF (by decide) (iF (by decide) (iF (by decide) (iF (by decide) (iF (by decide) (iT rfl (h109 post (iF (by decide) (iF (by decide) (iF (by decide) (iT rfl (k2 post hp)))))))))))))))))))))⟩
  · rw [e] at h109 hc hmk ⊢
    obtain ⟨M9, k1, k2⟩ := rc_106 hT hM2 h1 hl hL hG hc hPc
    exact ⟨M9, k1, fun post hp => hmk post (iF (by decide) (iF (by decide) (iF (by decide) (iF (by decide) (iF (by decide) (iF (by decide) (iF (by decide) (iF (by decide) (iT rfl (h109 post (iF (by decide) (iF (by decide) (iF (by decide) (iF (by decide) (iT rfl (k2 post hp))))))))))))))))⟩
  · rw [e] at h109 hc hmk ⊢
    obtain ⟨M9, k1, k2⟩ := rc_107 hT hM2 h1 hl hL hG hc hPc
    exact ⟨M9, k1, fun post hp => hmk post (iF (by decide) (iF (by decide) (iF (by decide) (iF (by decide) (iF (by decide) (iF (by decide) (iF (by decide) (iF (by decide) (iF (by decide) (iT rfl (h109 post (iF (by decide) (iF (by decide) (iF (by decide) (iF (by decide) (iF (by decide) (iF (by decide) (iF (by decide) (iF (by decide) (iF (by decide) (iF (by decide) (iF (by decide) (k2 post hp)))))))))))))))))))))))⟩
  · rw [e] at h109 hc hmk ⊢
    obtain ⟨M9, k1, k2⟩ := rc_108 hT hM2 h1 hl hL hG hc hPc
    exact ⟨M9, k1, fun post hp => hmk post (iF (by decide) (iF (by decide) (iF (by decide) (iF (by decide) (iF (by decide) (iF (by decide) (iT rfl (h109 post (iF (by decide) (iF (by decide) (iF (by decide) (iF (by decide) (iF (by decide) (iF (by decide) (iF (by decide) (iF (by decide) (iF (by decide) (iF (by decide) (iF (by decide) (k2 post hp))))))))))))))))))))⟩
  · rw [e] at h109 hc hmk ⊢
    obtain ⟨M9, k1, k2⟩ := rc_109 hT hM2 h1 hl hL hG hc hPc
    exact ⟨M9, k1, fun post hp => hmk post (iF (by decide) (iF (by decide) (iF (by decide) (iF (by decide) (iF (by decide) (iF (by decide) (iF (by decide) (iT rfl (h109 post (iF (by decide) (iF (by decide) (iF (by decide) (iF (by decide) (iF (by decide) (iT rfl (k2 post hp))))))))))))))))⟩
  · rw [e] at h109 hc hmk ⊢
    obtain ⟨M9, k1, k2⟩ := rc_110 hT hM2 h1 hl hL hG hc hPc
    exact ⟨M9, k1, fun post hp => hmk post (iT rfl (h109 post (iF (by decide) (iF (by decide) (iF (by decide) (iF (by decide) (iF (by decide) (iF (by decide) (iT rfl (k2 post hp))))))))))⟩
  · rw [e] at h109 hc hmk ⊢
    obtain ⟨M9, k1, k2⟩ := rc_112 hT hM2 h1 hl hL hG hc hPc
    exact ⟨M9, k1, fun post hp => hmk post (iF (by decide) (iF (by decide) (iF (by decide) (iT rfl (h109 post (iF (by decide) (iF (by decide) (iF (by decide) (iF (by decide) (iF (by decide) (iF (by decide) (iF (by decide) (iF (by decide) (iF (by decide) (iF (by decide) (iF (by decide) (k2 post hp)))))))))))))))))⟩
  · rw [e] at h109 hc hmk ⊢
    obtain ⟨M9, k1, k2⟩ := rc_113 hT hM2 h1 hl hL hG hc hPc
    exact ⟨M9, k1, fun post hp => hmk post (iF (by decide) (iF (by decide) (iF (by decide) (iF (by decide) (iF (by decide) (iF (by decide) (iF (by decide) (iF (by decide) (iF (by decide) (iF (by decide) (iT rfl (h109 post (iF (by decide) (iF (by decide) (iF (by decide) (iF (by decide) (iF (by decide) (iF (by decide) (iF (by decide) (iT rfl (k2 post hp)))))))))))))))))))))⟩
  · rw [e] at h109 hc hmk ⊢
    obtain ⟨M9, k1, k2⟩ := rc_114 hT hM2 h1 hl hL hG hc hPc
    exact ⟨M9, k1, fun post hp => hmk post (iF (by decide) (iF (by decide) (iF (by decide) (iF (by decide) (iF (by decide) (iT rfl (h109 post (iF (by decide) (iF (by decide) (iF (by decide) (iF (by decide) (iF (by decide) (iF (by decide) (iF (by decide) (iF (by decide) (iT rfl (k2 post hp)))))))))))))))))⟩
  · rw [e] at h109 hc hmk ⊢
    obtain ⟨M9, k1, k2⟩ := rc_116 hT hM2 h1 hl hL hG hc hPc
    exact ⟨M9, k1, fun post hp => hmk post (iF (by decide) (iF (by decide) (iF (by decide) (iF (by decide) (iF (by decide) (iF (by decide) (iF (by decide) (iF (by decide) (iF (by decide) (iF (by decide) (iF (by decide) (iF (by decide) (iF (by decide) (iT rfl (h109 post (iF (by decide) (iF (by decide) (iF (by decide) (iF (by decide) (iF (by decide) (iF (by decide) (iF (by decide) (iF (by decide) (iF (by decide) (iT rfl (k2 post hp))))))))))))))))))))))))))⟩
  · rw [e] at h109 hc hmk ⊢
    obtain ⟨M9, k1, k2⟩ := rc_117 hT hM2 h1 hl hL hG hc hPc
    exact ⟨M9, k1, fun post hp => hmk post (iF (by decide) (iF (by decide) (iF (by decide) (iF (by decide) (iF (by decide) (iF (by decide) (iF (by decide) (iF (by decide) (iF (by decide) (iF (by decide) (iF (by decide) (iF (by decide) (iT rfl (h109 post (iF (by decide) (iF (by decide) (iF (by decide) (iF (by decide) (iF (by decide) (iF (by decide) (iF (by decide) (iF (by decide) (iF (by decide) (iF (by decide) (iT rfl (k2 post hp))))))))))))))))))))))))))⟩
  · rw [e] at h109 hc hmk ⊢
    obtain ⟨M9, k1, k2⟩ := rc_119 hT hM2 h1 hl hL hG hc hPc
    exact ⟨M9, k1, fun post hp => hmk post (iF (by decide) (iF (by decide) (iT rfl (h109 post (iF (by decide) (iF (by decide) (iF (by decide) (iF (by decide) (iF (by decide) (iF (by decide) (iF (by decide) (iF (by decide) (iF (by decide) (iF (by decide) (iF (by decide) (k2 post hp))))))))))))))))⟩
  · rw [e] at h109 hc hmk ⊢
    obtain ⟨M9, k1, k2⟩ := rc_121 hT hM2 h1 hl hL hG hc hPc
    exact ⟨M9, k1, fun post hp => hmk post (iF (by decide) (iF (by decide) (iF (by decide) (iF (by decide) (iF (by decide) (iF (by decide) (iF (by decide) (iF (by decide) (iF (by decide) (iF (by decide) (iF (by decide) (iF (by decide) (iF (by decide) (iF (by decide) (iF (by decide) (jT rfl (h109 post (iF (by decide) (iF (by decide) (iF (by decide) (iF (by decide) (iF (by decide) (iF (by decide) (iF (by decide) (iF (by decide) (iF (by decide) (iF (by decide) (iF (by decide) (k2 post hp)))))))))))))))))))))))))))))⟩
theorem run_le {T : Nat → Int32} {len : Nat} : ∀ (fs : List Int32) (x : Bool × Nat × List Int32), x.2.1 ≤ len → (run T len fs x).2.1 ≤ len := by
  intro fs
  induction fs with
  | nil => intro x h; exact h
  | cons f fs ih => intro x h; rw [run]; exact ih _ (stp_le h)
theorem com_le {T : Nat → Int32} {len a : Nat} (ha : a ≤ len) : (com T len a).2.1 ≤ len := by
  unfold com
  split
  · rename_i h
    exact run_le _ _ (by show a + 1 ≤ len; omega)
  · exact ha
theorem r_loop {M0 : Off} {T : Nat → Int32} {len : Nat} (hT : okT T len) (hM0 : M0 0 20 = nI len ∧ ∀ i, i < len → M0 7 i = T i) : ∀ (r a : Nat) (L : Cmds) (M : Off), r + L.length = 21 → 3 * L.length ≤ a → a ≤ len → PRb M0 M false a L → len3 L →
    ∃ M2, PRb M0 M2 (parS T len r a L).1 (parS T len r a L).2.1 (parS T len r a L).2.2 ∧ ∀ (post : Off → Prop) (K : Off → Prop), (∀ o, wl_X5_parse_32 post r o → K o) → post M2 → wp_X5_command K M := by
  have h60 := hT.1
  have hx : ∀ {M : Off} {b : Bool} {a : Nat} {L : Cmds}, PRb M0 M b a L → rTx T len M := fun h => ⟨(h.2.1 20 (by omega)).trans hM0.1, fun i hi => by rw [h.1 7 (by decide) (by decide) (by decide)]; exact hM0.2 i hi⟩
  intro r
  induction r with
  | zero => intro a L M hr h3 ha; omega
  | succ r ih =>
    intro a L M hr h3 ha hP hG
    rw [parS]
    -- how it ends
    have hend : ∀ (M2 : Off) (b : Bool) (a2 : Nat) (L2 : Cmds) (s0 : Int32) (g : Bool), s0 = bI g → PRb M0 M2 b a2 L2 → ∃ M3, PRb M0 M3 (b || g) a2 L2 ∧ ∀ post : Off → Prop, post M3 → wj_X5_parse_79 post M2 s0 (M2 0 23) := by
      intro M2 b a2 L2 s0 g hs h2
      obtain ⟨b1, b2, b3, b4, b5⟩ := h2
      have eo : (M2 0 23 ||| s0) = bI (b || g) := by
        rw [b4, hs]
        cases b <;> cases g <;> decide
      refine ⟨st M2 0 23 (bI (b || g)), ⟨fun r r0 r8 r9 => by rw [st_r _ _ _ _ _ r0]; exact b1 r r0 r8 r9, fun q hq => by rw [st_at, if_neg (by omega)]; exact b2 q hq, by rw [st_at, if_neg (by omega)]; exact b3, by rw [st_at, if_pos ⟨rfl, rfl⟩], fun hbg => ?_⟩, fun post hp => ?_⟩
      · have hb : b = false := by cases b <;> simp at hbg ⊢
        obtain ⟨g1, g2⟩ := b5 hb
        exact ⟨by rw [st_at, if_neg (by omega)]; exact g1, fun q hq => by rw [st_r _ _ _ _ _ (by decide), st_r _ _ _ _ _ (by decide)]; exact g2 q hq⟩
      · unfold wj_X5_parse_79
        rw [eo]
        exact ⟨bI_B _, fun o8 e8 => by rw [e8]; exact hp⟩
    obtain ⟨M2, hbad, hgood, hcm⟩ := r_com hT (hx hP) hP ha h3 hG
    cases hb : (com T len a).1
    case true =>
      obtain ⟨L2, h2⟩ := hbad hb
      rw [if_pos rfl]
      have hcl : (com T len a).2.1 ≤ len := com_le ha
      have hPm : PRc M2 M2 true (com T len a).2.1 := ⟨fun _ _ => rfl, fun _ _ _ => rfl, h2.2.2.1, h2.2.2.2.1⟩
      have hfin : ∀ s0 : Int32, ∀ g : Bool, s0 = bI g → ((nI len ≤ nI (com T len a).2.1 ∧ g = false) ∨ (¬ nI len ≤ nI (com T len a).2.1 ∧ g = true)) → ∃ M3, PRb M0 M3 true (com T len a).2.1 L ∧ ∀ (post : Off → Prop) (K : Off → Prop), (∀ o, wl_X5_parse_32 post (r + 1) o → K o) → post M3 → wp_X5_command K M := by
        intro s0 g hs hg
        obtain ⟨M3, h3', hp3⟩ := hend M2 true _ L2 s0 g hs h2
        refine ⟨M3, ⟨h3'.1, h3'.2.1, h3'.2.2.1, h3'.2.2.2.1, fun y => by cases y⟩, fun post K hK hp => hcm K (hK _ ?_)⟩
        rw [wl_X5_parse_32]
        refine r_mark hT (hx h2) hPm hcl ?_
        rw [if_neg (fun y => by cases y.1)]
        refine jF (by decide) ?_
        rw [(hx h2).1, h2.2.2.1]
        rcases hg with ⟨hle, hg⟩ | ⟨hle, hg⟩
        · subst hg; subst hs
          exact iT hle (hp3 post hp)
        · subst hg; subst hs
          exact iF hle (hp3 post hp)
      by_cases hle : nI len ≤ nI (com T len a).2.1
      · exact hfin 0 false rfl (Or.inl ⟨hle, rfl⟩)
      · exact hfin 1 true rfl (Or.inr ⟨hle, rfl⟩)
    case false =>
      have h2 := hgood hb
      rw [if_neg (by decide)]
      obtain ⟨c1, c2, c3, c4, c5, c6⟩ := com_ok hb
      have hPm : PRc M2 M2 false (com T len a).2.1 := ⟨fun _ _ => rfl, fun _ _ _ => rfl, h2.2.2.1, h2.2.2.2.1⟩
      by_cases hl : (com T len a).2.1 < len
      · rw [if_pos hl]
        by_cases h59 : T (com T len a).2.1 = 59
        · rw [if_pos h59]
          have hlen : (L ++ [(T a, (com T len a).2.2)]).length = L.length + 1 := by rw [List.length_append]; rfl
          obtain ⟨b1, b2, b3, b4, b5⟩ := id h2
          obtain ⟨g1, g2⟩ := b5 rfl
          obtain ⟨M3, h3', hp3⟩ := ih ((com T len a).2.1 + 1) (L ++ [(T a, (com T len a).2.2)]) (st M2 0 21 (nI ((com T len a).2.1 + 1))) (by rw [hlen]; omega) (by rw [hlen]; omega) (by omega) ⟨fun r r0 r8 r9 => by rw [st_r _ _ _ _ _ r0]; exact b1 r r0 r8 r9, fun q hq => by rw [st_at, if_neg (by omega)]; exact b2 q hq, by rw [st_at, if_pos ⟨rfl, rfl⟩], by rw [st_at, if_neg (by omega)]; exact b4, fun _ => ⟨by rw [st_at, if_neg (by omega)]; exact g1, fun q hq => by rw [st_r _ _ _ _ _ (by decide), st_r _ _ _ _ _ (by decide)]; exact g2 q hq⟩⟩ (len3_app hG (cmd_len c6))
          refine ⟨M3, h3', fun post K hK hp => hcm K (hK _ ?_)⟩
          rw [wl_X5_parse_32]
          refine r_mark hT (hx h2) hPm c5 ?_
          rw [if_pos ⟨rfl, hl⟩]
          refine jT h59 (fun o9 e9 => ?_)
          rw [h2.2.2.1, nI_add1] at e9
          subst e9
          exact hp3 post _ (fun o h => h) hp
        · rw [if_neg h59]
          obtain ⟨M3, h3', hp3⟩ := hend M2 false _ _ 1 true rfl h2
          refine ⟨M3, h3', fun post K hK hp => hcm K (hK _ ?_)⟩
          rw [wl_X5_parse_32]
          refine r_mark hT (hx h2) hPm c5 ?_
          rw [if_pos ⟨rfl, hl⟩, (hx h2).1, h2.2.2.1]
          exact jF h59 (iF (by rw [nI_lei (by omega) (by omega)]; omega) (hp3 post hp))
      · rw [if_neg hl]
        obtain ⟨M3, h3', hp3⟩ := hend M2 false _ _ 0 false rfl h2
        refine ⟨M3, h3', fun post K hK hp => hcm K (hK _ ?_)⟩
        rw [wl_X5_parse_32]
        refine r_mark hT (hx h2) hPm c5 ?_
        rw [if_neg (fun y => hl y.2), (hx h2).1, h2.2.2.1]
        exact jF (by decide) (iT (by rw [nI_lei (by omega) (by omega)]; omega) (hp3 post hp))
theorem r_parse {M : Off} {T : Nat → Int32} {len : Nat} (hT : okT T len) (hl : M 0 19 = nI len) (ht : ∀ i, i < len → M 7 i = T i) : ∃ M2, PRb (st (st M 0 20 (nI len)) 0 19 0) M2 (parS T len 21 0 []).1 (parS T len 21 0 []).2.1 (parS T len 21 0 []).2.2 ∧ ∀ post : Off → Prop, post M2 → wp_X5_parse post M := by
  obtain ⟨M2, h2, hp2⟩ := r_loop (M0 := st (st M 0 20 (nI len)) 0 19 0) hT ⟨by rw [st_at, if_neg (by omega), st_at, if_pos ⟨rfl, rfl⟩], fun i hi => by rw [st_r _ _ _ _ _ (by decide), st_r _ _ _ _ _ (by decide)]; exact ht i hi⟩ 21 0 [] (st (st (st (st (st M 0 20 (nI len)) 0 19 0) 0 21 0) 0 22 0) 0 23 0) rfl (Nat.le_refl _) (Nat.zero_le _) ⟨fun r r0 _ _ => by rw [st_r _ _ _ _ _ r0, st_r _ _ _ _ _ r0, st_r _ _ _ _ _ r0], fun q hq => by rw [st_at, if_neg (by omega), st_at, if_neg (by omega), st_at, if_neg (by omega)], by rw [st_at, if_neg (by omega), st_at, if_neg (by omega), st_at, if_pos ⟨rfl, rfl⟩]; rfl, by rw [st_at, if_pos ⟨rfl, rfl⟩]; rfl, fun _ => ⟨by rw [st_at, if_neg (by omega), st_at, if_pos ⟨rfl, rfl⟩]; rfl, fun q hq => absurd hq (Nat.not_lt_zero q)⟩⟩ (fun q hq => absurd hq (Nat.not_lt_zero q))
  refine ⟨M2, h2, fun post hp o1 e1 o2 e2 o3 e3 o4 e4 o5 e5 => ?_⟩
  rw [hl] at e1
  rw [e5, e4, e3, e2, e1]
  exact hp2 post _ (fun o h => ⟨21, h⟩) hp
