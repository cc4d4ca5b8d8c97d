/-! ===== execute: the call ===== -/
theorem op_53 {j : Nat} {E M : Off} {z : Nat → Int64} {zd : Nat → UInt64} {a1 a2 a3 : Int32} (hj : j < 512) (hI : inv j E M) : wc_53 (lwInv (j + 1)) E M z zd a1 a2 a3 := by
  obtain ⟨len, T, hT, hO, hH, hS, hL, ⟨n1, n2, n3, n4⟩, hX⟩ := id hI
  have hTx : okT (M 7) len := ⟨n3, fun i hi => (n4 i hi).2⟩
  -- the reference, up to its parse
  obtain ⟨M2, h2, hpar⟩ := r_parse (M := beg M) hTx (by rw [beg_0, if_neg (by decide)]; exact n2) (fun i hi => by rw [beg_r M 7 (by decide) (by decide)])
  have hrf : ∀ {Q : Int32 → Off → Prop}, ((M2 0 23 = 0 → (∃ m : Nat, wl_X5_execute_31 Q m M2 (0 : Int32))) ∧ (¬ M2 0 23 = 0 → (∀ o16 : Off, o16 = st M2 0 7 (M2 0 21) → wp_X5_fail (fun v18 o17 => Q v18 o17) o16 (1 : Int32)))) → wp_X5_execute Q M := fun h => s5_begin (hpar _ h)
  -- what the parse leaves
  have hrow : ∀ {M2 : Off} {b : Bool} {a : Nat} {L : Cmds}, PRb (st (st (beg M) 0 20 (nI len)) 0 19 0) M2 b a L → (∀ r, r ≠ 0 → r ≠ 2 → r ≠ 8 → r ≠ 9 → M2 r = M r) ∧ (∀ x, x < 160 → M2 2 x = M 1 x) ∧ (∀ q, q ≠ 5 → q < 19 → M2 0 q = M 0 q) ∧ M2 0 19 = 0 ∧ M2 0 5 = 0 := by
    intro M2 b a L h
    obtain ⟨b1, b2, -⟩ := h
    refine ⟨fun r h0 h2 h8 h9 => ?_, fun x hx => ?_, fun q h5 hq => ?_, ?_, ?_⟩
    · rw [b1 r h0 h8 h9, st_r _ _ _ _ _ h0, st_r _ _ _ _ _ h0, beg_r M r h0 h2]
    · rw [b1 2 (by decide) (by decide) (by decide), st_r _ _ _ _ _ (by decide), st_r _ _ _ _ _ (by decide), beg_2 M x hx]
    · rw [b2 q (by omega), st_at, if_neg (by omega), st_at, if_neg (by omega), beg_0, if_neg h5]
    · rw [b2 19 (by omega), st_at, if_pos ⟨rfl, rfl⟩]
    · rw [b2 5 (by omega), st_at, if_neg (by omega), st_at, if_neg (by omega), beg_0, if_pos rfl]
  have h403 : sh E 40 0 3 = nI len := n1
  have hale := parS_le (T := M 7) (len := len) 21 0 [] (Nat.zero_le _)
  refine x1_read hTx h403 (fun i hi => (n4 i hi).1) (fun hb o1 k3 o2 e2 => ?_) (fun hb o1 k3 k4 kG o2 e2 => ?_)
  · -- a syntax error
    refine iF (fun y => (nI_eqm (by omega)).mp y) (fun o15 e15 => jF (fun y => (nI_eqm (by omega)).mp y) (l01 (Or.inl ⟨rfl, hrf ?_⟩)))
    obtain ⟨w1, w2, w3, w19, w5⟩ := hrow h2
    rw [hb] at h2
    obtain ⟨b1, b2, b3, b4, b5⟩ := h2
    rw [b4, b3]
    refine b10 (fun o16 e16 o17 e17 => fin_x i1ne (by rw [e17, st_at, if_pos ⟨rfl, rfl⟩]) ?_)
    have eH : ∀ k, k ≠ 13 → (k < 40 ∨ 44 ≤ k) → o15 k = E k := fun k h13 hk => by rw [e15, st_r _ _ _ _ _ h13, e2, put_hi hk]
    have e13 : ∀ q, o15 13 q = if q = 9 then nI (parS (M 7) len 21 0 []).2.1 else E 13 q := fun q => by
      rw [e15, st_at]
      by_cases e : q = 9
      · rw [if_pos ⟨rfl, e⟩, if_pos e]
      · rw [if_neg (fun y => e y.2), if_neg e, e2, put_hi (by omega)]
    have f0 : ∀ q, q ≠ 5 → q ≠ 7 → o17 0 q = M2 0 q := fun q h5 h7 => by rw [e17, st_at, if_neg (fun y => h5 y.2), e16, st_at, if_neg (fun y => h7 y.2)]
    have fr : ∀ r, r ≠ 0 → o17 r = M2 r := fun r hr => by rw [e17, st_r _ _ _ _ _ hr, e16, st_r _ _ _ _ _ hr]
    obtain ⟨l1, l2, l3, l4, l5, l6⟩ := hL
    refine inv_mk hT hO hH hS hX (fun k hk => eH k (by omega) (by omega)) (eH 60 (by omega) (by omega)) (fun k h1 h2 => eH k (by omega) (by omega)) (eH 50 (by omega) (by omega)) (eH 51 (by omega) (by omega)) ?_ (fun x hx => ?_) ?_ ?_ ?_ ?_ ?_ ?_ ?_ ⟨?_, ?_, ?_, ?_, ?_, ?_⟩
    · rw [e15, st_r _ _ _ _ _ (by decide), e2, put_at, if_pos ⟨by omega, by omega⟩]
      exact k3
    · rw [fr 1 (by decide), w1 1 (by decide) (by decide) (by decide) (by decide)]
    · rw [fr 4 (by decide), w1 4 (by decide) (by decide) (by decide) (by decide)]
    · rw [fr 5 (by decide), w1 5 (by decide) (by decide) (by decide) (by decide)]
    · rw [fr 6 (by decide), w1 6 (by decide) (by decide) (by decide) (by decide)]
    · rw [f0 6 (by decide) (by decide), w3 6 (by decide) (by decide)]
    · rw [f0 13 (by decide) (by decide), w3 13 (by decide) (by decide)]
    · rw [f0 15 (by decide) (by decide), w3 15 (by decide) (by decide)]
    · rw [f0 19 (by decide) (by decide)]; exact w19
    · rw [e13, if_neg (by decide), f0 8 (by decide) (by decide), w3 8 (by decide) (by decide)]; exact l1
    · rw [e13, if_neg (by decide), f0 9 (by decide) (by decide), w3 9 (by decide) (by decide)]; exact l2
    · rw [e13, if_neg (by decide), f0 10 (by decide) (by decide), w3 10 (by decide) (by decide)]; exact l3
    · rw [e13, if_pos rfl, e17, st_at, if_neg (by omega), e16, st_at, if_pos ⟨rfl, rfl⟩]
    · rw [f0 8 (by decide) (by decide), w3 8 (by decide) (by decide)]; exact l5
    · right
      exact ⟨(parS (M 7) len 21 0 []).2.1, by omega, by rw [e17, st_at, if_neg (by omega), e16, st_at, if_pos ⟨rfl, rfl⟩]⟩
  · -- the commands
    obtain ⟨p1, p2, p3⟩ := parS_ok (T := M 7) (len := len) 21 0 [] (Nat.le_refl _) (Nat.zero_le _) (fun q hq => absurd hq (Nat.not_lt_zero q)) hb
    generalize hPL : (parS (M 7) len 21 0 []).2.2 = L at *
    generalize hPA : (parS (M 7) len 21 0 []).2.1 = a at *
    obtain ⟨w1, w2, w3, w19, w5⟩ := hrow h2
    rw [hb] at h2
    obtain ⟨b1, b2, b3, b4, b5⟩ := h2
    obtain ⟨g1, g2⟩ := b5 rfl
    have hcnt20 : L.length ≤ 20 := by omega
    have hpos : 0 < L.length := by simpa using p2
    have hcl : L.length ≤ len := by omega
    -- the class's state as it begins
    have eH : ∀ k, (k < 40 ∨ 44 ≤ k) → o2 k = E k := fun k hk => by rw [e2, put_hi hk]
    have e40 : ∀ k, k < 4 → o2 (40 + k) = o1 k := fun k hk => by rw [e2, put_at, if_pos ⟨by omega, by omega⟩, show 40 + k - 40 = k by omega]
    refine iT rfl (jT rfl (l11 (fun o5 e5 => ?_)))
    have f5 : ∀ k, (k < 20 ∨ 32 ≤ k) → o5 k = o2 k := fun k hk => by rw [e5, put_hi hk]
    have f20 : ∀ k, k < 12 → o5 (20 + k) = o2 k := fun k hk => by rw [e5, put_at, if_pos ⟨by omega, by omega⟩, show 20 + k - 20 = k by omega]
    have hO5 : oK o5 (M2 1) T := by
      rw [w1 1 (by decide) (by decide) (by decide) (by decide)]
      exact oK_rows (fun k hk => by rw [f5 k (by omega), eH k (by omega)]) hO
    have h54 : o5 40 4 = nI L.length := by rw [f5 40 (by omega), e40 0 (by omega)]; exact k4
    have h540 : o5 40 3 = 0 := by rw [f5 40 (by omega), e40 0 (by omega)]; exact k3
    have hEo : ∀ k, 12 ≤ k → (k < 20 ∨ 32 ≤ k) → (k < 40 ∨ 44 ≤ k) → o5 k = E k := fun k h12 h20 h40 => by rw [f5 k h20, eH k h40]
    have hloop := exLoop (E5 := o5) (MB := M2) (L := L) (cnt := L.length) rfl (fun q hq => by
      obtain ⟨g3, g4⟩ := g2 q hq
      obtain ⟨g5, g6⟩ := kG q hq
      exact ⟨h54, hq, hcnt20, by rw [f5 42 (by omega), e40 2 (by omega)]; exact g5, g3, fun i hi => ⟨by rw [f5 43 (by omega), e40 3 (by omega)]; exact g6 i hi, g4 i hi⟩⟩) p3 hcnt20 g1 h54 L.length 0 o5 M2 T (by omega) (fun _ _ => rfl) (fun _ _ => rfl) hO5 (by omega)
    have hrf2 : ∀ {Q : Int32 → Off → Prop}, wl_X5_execute_31 Q (L.length + 1) M2 (nI 0) → wp_X5_execute Q M := fun {Q} h => hrf (by rw [b4]; exact b00 ⟨_, h⟩)
    have hgeq : ∀ q2, q2 < L.length → ¬ nI L.length ≤ nI q2 := fun q2 hq2 => nI_ge (by omega) (by omega)
    obtain ⟨l1, l2, l3, l4, l5, l6⟩ := hL
    rcases hloop with ⟨EF, MF, T1, t1, t2, s3, s4, s5, s6, s7⟩ | ⟨q2, EF, MF, code, s1, s2, s3, s4, s5, s6, s7⟩ | ⟨q2, EF, MF, rr, d, s1, s2, s3, s4, s4', s5, s6, s7⟩
    · -- all of them
      obtain ⟨i, kept, i1, i2, i3, i4, i5, i6⟩ := id hH
      have hF60 : EF 60 = E 60 := by rw [s3 60 (by omega)]; exact hEo 60 (by omega) (by omega) (by omega)
      refine ⟨_, s6 _ ?_⟩
      have hF4 : EF 40 4 = nI L.length := by rw [s3 40 (by omega)]; exact h54
      rw [hF4]
      refine iT (Int32.le_refl _) ⟨i, i1, by rw [hF60]; exact i3, fun o8 e8 => ?_⟩
      have m6 : MF 0 6 = nI kept := by rw [s4 0 (by decide), w3 6 (by decide) (by decide)]; exact i5
      refine hrf2 (s7 _ (s5_commit (kept := kept) m6 i2 (fun M3 hc => fin_i ?_ rfl ?_)))
      · rw [hc.2.1 5 (by decide), s4 0 (by decide)]; exact w5
      -- the office before, with the commands away
      have hT2 : T ≤ T + 20 * L.length - 20 := by omega
      have hO' : oK o2 (M2 1) (T + 20 * L.length - 20) := oK_mono (oK_rows (fun k hk => by rw [f5 k (by omega)]) hO5) hT2
      have q1 : ∀ k, 12 ≤ k → (k < 40 ∨ 44 ≤ k) → o2 k = E k := fun k _ hk => eH k hk
      have hk := inv_keep (j := j) (E := o2) (M := M2) (M2 := MF) (M1 := M3) (O := EF) (i := i) (kept := kept) (T := T + 20 * L.length - 20) (T1 := T + 20 * L.length) (len := 0) (by omega) hO' (iH_mono (iH_rows (q1 60 (by omega) (by omega)) (fun k a b => q1 k (by omega) (by omega)) (w3 6 (by decide) (by decide)) (w1 5 (by decide) (by decide) (by decide) (by decide)) hH) hT2) (iS_mono (iS_rows (q1 60 (by omega) (by omega)) (fun k a b => q1 k (by omega) (by omega)) (w3 13 (by decide) (by decide)) (w1 4 (by decide) (by decide) (by decide) (by decide)) hS) hT2) ?_ ⟨by rw [e40 0 (by omega)]; exact k3, w19, by omega, fun i hi => absurd hi (Nat.not_lt_zero i)⟩ ?_ i1 (by rw [q1 60 (by omega) (by omega)]; exact i3) ⟨s4 4 (by decide), s4 5 (by decide), s4 6 (by decide), s4 7 (by decide), fun q _ _ _ => by rw [s4 0 (by decide)]⟩ (fun x hx => by rw [s4 2 (by decide), w2 x hx, w1 1 (by decide) (by decide) (by decide) (by decide)]) m6 i2 hc (by omega) (by omega) (oK_mono s5 (by omega))
      · refine inv_sE (fun k h12 hk' => ?_) hk
        rw [e8, put_at]
        by_cases h60 : k = 60
        · subst h60
          rw [if_neg (by omega)]
          unfold keepH
          funext x
          have eF : EF 60 = o2 60 := by rw [s3 60 (by omega), f5 60 (by omega)]
          have p1' : put EF (100 + 20 * i) 12 (sh EF 20) 60 = EF 60 := put_hi (by omega)
          have p2' : put o2 (100 + 20 * i) 12 o2 60 = o2 60 := put_hi (by omega)
          rw [st_at, st_at, st_at, st_at, p1', p2', eF]
        rw [keepH_r _ _ _ _ h60]
        by_cases hlt : k < 12
        · rw [put_hi (by omega), if_pos ⟨by omega, by omega⟩, Nat.sub_zero]
        · rw [if_neg (by omega), keepH_r _ _ _ _ h60, put_at, put_at]
          by_cases hin : 100 + 20 * i ≤ k ∧ k < 100 + 20 * i + 12
          · rw [if_pos hin, if_pos hin]
            show EF (20 + (k - (100 + 20 * i))) = o2 (k - (100 + 20 * i))
            rw [s3 _ (by omega), f20 _ (by omega)]
          · rw [if_neg hin, if_neg hin, s3 k (by omega), f5 k (by omega)]
      · unfold iL
        rw [q1 13 (by omega) (by omega), w3 7 (by decide) (by decide), w3 8 (by decide) (by decide), w3 9 (by decide) (by decide), w3 10 (by decide) (by decide)]
        exact ⟨l1, l2, l3, l4, l5, l6⟩
      · unfold iX
        rw [q1 50 (by omega) (by omega), q1 51 (by omega) (by omega), w3 15 (by decide) (by decide), w1 6 (by decide) (by decide) (by decide) (by decide)]
        exact hX
    · -- one that is no call
      refine ⟨_, s6 _ ?_⟩
      have hF4 : EF 40 4 = nI L.length := by rw [s2 40 (by omega)]; exact h54
      rw [hF4]
      refine iF (hgeq q2 s1) (s5 _ (fun o12 e12 => iT s4 (l01 (Or.inr (Or.inl ⟨rfl, hrf2 (s7 _ (fin_x i2ne (by rw [st_at, if_pos ⟨rfl, rfl⟩]) ?_))⟩)))))
      have r0 : ∀ k, k < 12 → o12 k = E k := fun k hk => by
        rw [e12, put_lo hk]
        show EF (20 + k) = E k
        rw [s2 _ (by omega), f20 k hk, eH k (by omega)]
      have r1 : ∀ k, 12 ≤ k → (k < 20 ∨ 32 ≤ k) → (k < 40 ∨ 44 ≤ k) → o12 k = E k := fun k h12 h20 h40 => by rw [e12, put_hi (by omega), s2 k h12]; exact hEo k h12 h20 h40
      have c0r : ∀ q, q ≠ 5 → st (cpO MF 2 1 0 0) 0 5 2 0 q = M2 0 q := fun q h5 => by rw [st_at, if_neg (fun y => h5 y.2), cpO_0 _ _ _ _ _ (by decide), s3 0 (by decide)]
      have crr : ∀ r, r ≠ 0 → r ≠ 1 → st (cpO MF 2 1 0 0) 0 5 2 r = M2 r := fun r h0 h1 => by rw [st_r _ _ _ _ _ h0, cpo_R _ _ _ _ h1, s3 r h1]
      refine inv_mk hT hO hH hS hX r0 (r1 60 (by omega) (by omega) (by omega)) (fun k a b => r1 k (by omega) (by omega) (by omega)) (r1 50 (by omega) (by omega) (by omega)) (r1 51 (by omega) (by omega) (by omega)) ?_ (fun x hx => ?_) ?_ ?_ ?_ ?_ ?_ ?_ ?_ ⟨?_, ?_, ?_, ?_, ?_, ?_⟩
      · rw [e12, put_hi (by omega), s2 40 (by omega)]; exact h540
      · rw [st_r _ _ _ _ _ (by decide), cpo_T _ _ _ hx, s3 2 (by decide), w2 x hx]
      · rw [crr 4 (by decide) (by decide), w1 4 (by decide) (by decide) (by decide) (by decide)]
      · rw [crr 5 (by decide) (by decide), w1 5 (by decide) (by decide) (by decide) (by decide)]
      · rw [crr 6 (by decide) (by decide), w1 6 (by decide) (by decide) (by decide) (by decide)]
      · rw [c0r 6 (by decide), w3 6 (by decide) (by decide)]
      · rw [c0r 13 (by decide), w3 13 (by decide) (by decide)]
      · rw [c0r 15 (by decide), w3 15 (by decide) (by decide)]
      · rw [c0r 19 (by decide)]; exact w19
      · rw [r1 13 (by omega) (by omega) (by omega), c0r 8 (by decide), w3 8 (by decide) (by decide)]; exact l1
      · rw [r1 13 (by omega) (by omega) (by omega), c0r 9 (by decide), w3 9 (by decide) (by decide)]; exact l2
      · rw [r1 13 (by omega) (by omega) (by omega), c0r 10 (by decide), w3 10 (by decide) (by decide)]; exact l3
      · rw [r1 13 (by omega) (by omega) (by omega), c0r 7 (by decide), w3 7 (by decide) (by decide)]; exact l4
      · rw [c0r 8 (by decide), w3 8 (by decide) (by decide)]; exact l5
      · rw [c0r 7 (by decide), w3 7 (by decide) (by decide)]; exact l6
    · -- one that is rejected
      refine ⟨_, s6 _ ?_⟩
      have hF4 : EF 40 4 = nI L.length := by rw [s2 40 (by omega)]; exact h54
      rw [hF4]
      have hrr : ¬ nI rr ≤ 0 := by
        rw [show (0 : Int32) = nI 0 from rfl, nI_lei (by omega) (by omega)]; omega
      refine iF (hgeq q2 s1) (s5 _ (fun o12 e12 => iF hrr (l11 (fun x1 y1 x2 y2 x3 y3 => Or.inr (Or.inr ⟨rfl, hrf2 (s7 _ (fin_x i3ne (by rw [st_at, if_pos ⟨rfl, rfl⟩]) ?_))⟩)))))
      have x3r : ∀ k, k ≠ 13 → x3 k = o12 k := fun k hk => by rw [y3, st_r _ _ _ _ _ hk, y2, st_r _ _ _ _ _ hk, y1, st_r _ _ _ _ _ hk]
      have r0 : ∀ k, k < 12 → x3 k = E k := fun k hk => by
        rw [x3r k (by omega), e12, put_lo hk]
        show EF (20 + k) = E k
        rw [s2 _ (by omega), f20 k hk, eH k (by omega)]
      have r1 : ∀ k, 12 < k → k ≠ 13 → (k < 20 ∨ 32 ≤ k) → (k < 40 ∨ 44 ≤ k) → x3 k = E k := fun k h12 h13 h20 h40 => by rw [x3r k h13, e12, put_hi (by omega), s2 k h12]; exact hEo k (by omega) h20 h40
      have r13 : ∀ q, x3 13 q = if q = 8 then nI rr else if q = 7 then nI q2 else if q = 6 then 17 else E 13 q := fun q => by
        rw [y3, st_at]
        by_cases q8 : q = 8
        · rw [if_pos ⟨rfl, q8⟩, if_pos q8]
        rw [if_neg (fun y => q8 y.2), if_neg q8, y2, st_at]
        by_cases q7 : q = 7
        · rw [if_pos ⟨rfl, q7⟩, if_pos q7]
        rw [if_neg (fun y => q7 y.2), if_neg q7, y1, st_at]
        by_cases q6 : q = 6
        · rw [if_pos ⟨rfl, q6⟩, if_pos q6]
        rw [if_neg (fun y => q6 y.2), if_neg q6, e12, put_hi (by omega), s2 13 (by omega)]
        rw [hEo 13 (by omega) (by omega) (by omega)]
      generalize hMZ : st (st (st (st (cpO (st (st MF 0 11 (nI rr)) 0 12 d) 2 1 0 0) 0 8 17) 0 9 (nI q2)) 0 10 (nI rr)) 0 5 3 = MZ
      have z0 : ∀ q, MZ 0 q = if q = 5 then 3 else if q = 10 then nI rr else if q = 9 then nI q2 else if q = 8 then 17 else if q = 12 then d else if q = 11 then nI rr else M2 0 q := fun q => by
        rw [← hMZ]
        simp only [st_at, cpO_0 _ _ _ _ _ (show (1 : Nat) ≠ 0 by decide), true_and]
        rw [s3 0 (by decide)]
      have zr : ∀ r, r ≠ 0 → r ≠ 1 → MZ r = M2 r := fun r h0 h1 => by
        rw [← hMZ, st_r _ _ _ _ _ h0, st_r _ _ _ _ _ h0, st_r _ _ _ _ _ h0, st_r _ _ _ _ _ h0, cpo_R _ _ _ _ h1, st_r _ _ _ _ _ h0, st_r _ _ _ _ _ h0, s3 r h1]
      refine inv_mk hT hO hH hS hX r0 (r1 60 (by omega) (by omega) (by omega) (by omega)) (fun k a b => r1 k (by omega) (by omega) (by omega) (by omega)) (r1 50 (by omega) (by omega) (by omega) (by omega)) (r1 51 (by omega) (by omega) (by omega) (by omega)) ?_ (fun x hx => ?_) ?_ ?_ ?_ ?_ ?_ ?_ ?_ ⟨?_, ?_, ?_, ?_, ?_, ?_⟩
      · rw [x3r 40 (by omega), e12, put_hi (by omega), s2 40 (by omega)]; exact h540
      · rw [← hMZ, st_r _ _ _ _ _ (by decide), st_r _ _ _ _ _ (by decide), st_r _ _ _ _ _ (by decide), st_r _ _ _ _ _ (by decide), cpo_T _ _ _ hx, st_r _ _ _ _ _ (by decide), st_r _ _ _ _ _ (by decide), s3 2 (by decide), w2 x hx]
      · rw [zr 4 (by decide) (by decide), w1 4 (by decide) (by decide) (by decide) (by decide)]
      · rw [zr 5 (by decide) (by decide), w1 5 (by decide) (by decide) (by decide) (by decide)]
      · rw [zr 6 (by decide) (by decide), w1 6 (by decide) (by decide) (by decide) (by decide)]
      · rw [z0]; exact w3 6 (by decide) (by decide)
      · rw [z0]; exact w3 13 (by decide) (by decide)
      · rw [z0]; exact w3 15 (by decide) (by decide)
      · rw [z0]; exact w19
      · rw [r13, z0]; rfl
      · rw [r13, z0]; rfl
      · rw [r13, z0]; rfl
      · rw [r13, z0]
        show E 13 9 = M2 0 7
        rw [w3 7 (by decide) (by decide)]; exact l4
      · rw [z0]
        exact ⟨17, Nat.le_refl _, rfl⟩
      · rw [z0]
        show M2 0 7 = -1 ∨ ∃ w, w ≤ 60 ∧ M2 0 7 = nI w
        rw [w3 7 (by decide) (by decide)]; exact l6
