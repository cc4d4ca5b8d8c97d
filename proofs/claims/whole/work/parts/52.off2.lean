/-! ===== the office's methods: letters, bans, decisions ===== -/
theorem i8_all : ∀ q, q < 256 → (nI q).toInt8.toInt32 = (if q < 128 then nI q else nI q - 256) := by decide +kernel
theorem u16 (x : Int32) : isC ((x.toUInt32 % 65536).toInt32) := by
  unfold isC
  show Value.int _ = Value.int _
  congr 1
  rw [UInt32.toUInt32_toInt32]
  have e : (x.toUInt32 % 65536).toUInt16.toUInt32 = x.toUInt32 % 65536 := by
    apply UInt32.toNat_inj.mp
    simp
  rw [e]
theorem i32_nat {p : Int32} (h0 : ¬ p < 0) : p = nI p.toInt.toNat := by
  rw [Int32.lt_iff_toInt_lt, Int32.toInt_zero] at h0
  have h1 := p.toInt_lt
  refine Int32.toInt_inj.mp ?_
  rw [nI_toInt (by omega)]
  omega
theorem i32_small {p : Int32} {m : Nat} (h0 : ¬ p < 0) (h1 : ¬ nI m < p) (hm : m < 2147483648) : ∃ q, q ≤ m ∧ p = nI q := by
  have e := i32_nat h0
  refine ⟨p.toInt.toNat, ?_, e⟩
  rw [e] at h1
  have h2 := p.toInt_lt
  rw [nI_lti hm (by omega)] at h1
  omega
theorem s_ix_l {post : Int32 → Prop} {bs : List Int32} {x : Int32} {p : Int32} (hx : ∀ b ∈ bs, b = x ↔ b = p) (hN : bs.length < 2147483648) : ∀ (suf pre : List Int32), bs = pre ++ suf → post (ixF p suf pre.length) → wl_J1_indexOfChar_4cfef_7 post bs (suf.length + 1) (nI bs.length) x (nI pre.length) := by
  intro suf
  induction suf with
  | nil =>
    intro pre e hp
    rw [wl_J1_indexOfChar_4cfef_7]
    have e2 : bs.length = pre.length := by rw [e, List.append_nil]
    rw [e2]
    exact ⟨fun _ => hp, fun h => absurd (Int32.le_refl _) h⟩
  | cons b suf ih =>
    intro pre e hp
    have hl : bs.length = pre.length + (suf.length + 1) := by rw [e, List.length_append, List.length_cons]
    have ih := ih (pre ++ [b]) (by rw [e, List.append_assoc]; rfl)
    rw [List.length_append, List.length_singleton] at ih
    rw [List.length_cons, wl_J1_indexOfChar_4cfef_7]
    refine ⟨fun h => absurd h (nI_ge (by omega) (by omega)), fun _ => ?_⟩
    simp (disch := omega) only [vp_in_i, nI_clampi, nI_add1, forall_eq]
    have hg : bs.getD pre.length 0 = b := by rw [e]; simp [List.getD]
    rw [hg]
    have hm : b ∈ bs := by rw [e]; exact List.mem_append_right _ List.mem_cons_self
    rw [ixF] at hp
    refine ⟨by omega, fun h => ?_, fun h => ?_⟩
    · rw [if_neg (fun z => h ((hx b hm).mpr z))] at hp
      exact ih hp
    · rw [if_pos ((hx b hm).mp h)] at hp
      exact hp
theorem ixF_no {p : Int32} : ∀ (bs : List Int32) (k : Nat), (∀ b ∈ bs, b ≠ p) → ixF p bs k = -1 := by
  intro bs
  induction bs with
  | nil => intro k _; rfl
  | cons b bs ih =>
    intro k h
    rw [ixF, if_neg (h b List.mem_cons_self)]
    exact ih (k + 1) (fun c hc => h c (List.mem_cons_of_mem _ hc))
theorem s_ix {post : Int32 → Prop} {bs : List Int32} {p : Int32} (hb : ∀ b ∈ bs, ∃ n, n < 128 ∧ b = nI n) (hN : bs.length < 1000) (hp : post (ixF p bs 0)) : wp_J0_indexOf_0f7a4 post bs p := by
  unfold wp_J0_indexOf_0f7a4 wp_J0_indexOf_7cf53 wp_J0_isLatin1_aae02 wp_J0_length_8abf5 wp_J0_coder_7d493 wp_J1_indexOf_4cfef wp_J1_canEncode_9a6ad
  simp only [i10, not_true_eq_false, not_false_eq_true, false_implies, true_implies, and_true, true_and, forall_const, reduceCtorEq, Bool.true_and, Bool.false_and, Bool.and_true, Bool.and_false, decide_true, decide_false, if_true, if_false, Bool.true_eq_false, Bool.false_eq_true, Bool.not_true, Bool.not_false, implies_true]
  have e0 : nI bs.length >>> ((0 : Int32) &&& 31) = nI bs.length := by
    rw [show ((0 : Int32) &&& 31) = 0 from by decide]
    exact Int32.shiftRight_zero
  have eif : (if (0 : Int32) < 0 then (0 : Int32) else 0) = 0 := by decide
  by_cases h0 : p < 0
  · have e1 : ixF p bs 0 = -1 := ixF_no bs 0 (fun b h e => by
      obtain ⟨n, hn, rfl⟩ := hb b h
      rw [← e] at h0
      exact nI_pos (by omega) h0)
    rw [e1] at hp
    simp only [h0, i10, not_true_eq_false, not_false_eq_true, false_implies, true_implies, and_true, true_and, forall_const, reduceCtorEq, Bool.true_and, Bool.false_and, Bool.and_true, Bool.and_false, decide_true, decide_false, if_true, if_false, Bool.true_eq_false, Bool.false_eq_true, Bool.not_true, Bool.not_false, implies_true]
    exact hp
  · by_cases h1 : (255 : Int32) < p
    · have e1 : ixF p bs 0 = -1 := ixF_no bs 0 (fun b h e => by
        obtain ⟨n, hn, rfl⟩ := hb b h
        rw [← e, show (255 : Int32) = nI 255 from rfl, nI_lti (by omega) (by omega)] at h1
        omega)
      rw [e1] at hp
      simp only [h0, h1, i10, not_true_eq_false, not_false_eq_true, false_implies, true_implies, and_true, true_and, forall_const, reduceCtorEq, Bool.true_and, Bool.false_and, Bool.and_true, Bool.and_false, decide_true, decide_false, if_true, if_false, Bool.true_eq_false, Bool.false_eq_true, Bool.not_true, Bool.not_false, implies_true]
      exact hp
    · obtain ⟨q, hq, rfl⟩ := i32_small (m := 255) h0 h1 (by omega)
      simp only [h0, h1, i10, not_true_eq_false, not_false_eq_true, false_implies, true_implies, and_true, true_and, forall_const, reduceCtorEq, Bool.true_and, Bool.false_and, Bool.and_true, Bool.and_false, decide_true, decide_false, if_true, if_false, Bool.true_eq_false, Bool.false_eq_true, Bool.not_true, Bool.not_false, implies_true]
      intro v1 e1 v2 e2
      subst e1; subst e2
      rw [e0, eif, if_neg (show ¬ nI bs.length < nI bs.length by rw [nI_lti (by omega) (by omega)]; omega)]
      refine ⟨fun _ => ?_, fun h => ?_⟩
      · unfold wp_J1_indexOfChar_4cfef
        intro v1 e1
        refine ⟨bs.length + 1, ?_⟩
        refine s_ix_l (p := nI q) ?_ (by omega) bs [] rfl hp
        intro b h
        obtain ⟨n, hn, rfl⟩ := hb b h
        rw [e1, i8_all q (by omega)]
        by_cases h5 : q < 128
        · rw [if_pos h5]
        · rw [if_neg h5, nI_eqi (by omega) (by omega)]
          constructor
          · intro e
            exfalso
            have e2 := congrArg Int32.toInt e
            rw [nI_toInt (by omega), Int32.toInt_sub, nI_toInt (by omega), show (256 : Int32).toInt = 256 from rfl, Int.bmod_eq_of_le (by omega) (by omega)] at e2
            omega
          · intro e; omega
      · have e3 : bs = [] := by
          cases bs with
          | nil => rfl
          | cons b bs =>
            exfalso
            refine h ?_
            rw [show (0 : Int32) = nI 0 from rfl, nI_lti (by omega) (by omega)]
            exact Nat.succ_pos _
        subst e3
        exact hp
def cols : List Int32 := [114, 103, 98, 119]
theorem s_col {post : Int32 → Prop} {p : Int32} (hp : post (ixF p cols 0)) : wp_J0_indexOf_0f7a4 post [114, 103, 98, 119] p :=
  s_ix (by intro b h; simp only [List.mem_cons, List.not_mem_nil, or_false] at h; rcases h with rfl | rfl | rfl | rfl; exact ⟨114, by omega, rfl⟩; exact ⟨103, by omega, rfl⟩; exact ⟨98, by omega, rfl⟩; exact ⟨119, by omega, rfl⟩) (by decide) hp
theorem s_cls {post : Int32 → Prop} {p : Int32} (hp : post (ixF p [111, 115, 120] 0)) : wp_J0_indexOf_0f7a4 post [111, 115, 120] p :=
  s_ix (by intro b h; simp only [List.mem_cons, List.not_mem_nil, or_false] at h; rcases h with rfl | rfl | rfl; exact ⟨111, by omega, rfl⟩; exact ⟨115, by omega, rfl⟩; exact ⟨120, by omega, rfl⟩) (by decide) hp
/-- a colour's bit among a drawer's bans -/
def banF (bits p : Int32) : Bool := decide (((bits >>> (ixF p cols 0 &&& 31)) &&& 1) = 1)
theorem s3_bans {post : Int32 → Prop} {o : Off} {d : Nat} {p : Int32} (hd : d < 5) (h : post (bI (banF (o 10 d) p))) : wp_X3_bans post o (nI d) p := by
  unfold wp_X3_bans
  simp (disch := omega) only [vp_in_i, nI_clampi]
  refine ⟨hd, s_col ?_⟩
  unfold wp_X3_hasBit
  unfold banF at h
  by_cases hb : ((o 10 d >>> (ixF p cols 0 &&& 31)) &&& 1) = 1
  · rw [decide_eq_true hb] at h
    exact ⟨fun z => absurd hb z, fun _ => ⟨Or.inr rfl, h⟩⟩
  · rw [decide_eq_false hb] at h
    exact ⟨fun _ => ⟨Or.inl rfl, h⟩, fun z => absurd z hb⟩
def u16F (x : Int32) : Int32 := (x.toUInt32 % 65536).toInt32
theorem s3_colourAt {post : Int32 → Prop} {o : Off} {k : Nat} (hk : k < 14) (h : post (u16F (o 1 k))) : wp_X3_colourAt post o (nI k) := by
  unfold wp_X3_colourAt
  simp (disch := omega) only [vp_in_i, nI_clampi]
  exact ⟨hk, u16 _, h⟩
theorem s3_hasRoom {post : Int32 → Prop} {o : Off} {d c : Nat} (hc : o 0 0 = nI c) (h14 : c ≤ 14) (hd : d < 5) (h : post (bI (decide (nI (cnt (inS (cV o) 3 (nI d)) c) < o 9 d)))) : wp_X3_hasRoom post o (nI d) := by
  unfold wp_X3_hasRoom
  refine s3_countOf hc h14 ?_
  simp (disch := omega) only [vp_in_i, nI_clampi, ile]
  by_cases hb : nI (cnt (inS (cV o) 3 (nI d)) c) < o 9 d <;> simp only [hb, not_true_eq_false, not_false_eq_true, false_implies, true_implies, and_true, true_and, forall_const, reduceCtorEq, Bool.true_and, Bool.false_and, Bool.and_true, Bool.and_false, decide_true, decide_false, if_true, if_false, Bool.true_eq_false, Bool.false_eq_true, Bool.not_true, Bool.not_false, implies_true] at h ⊢ <;> exact ⟨hd, h⟩
def dec1 (o : Off) (c k d : Nat) : Off :=
  if (decide (nI (cnt (inS (cV o) 3 (nI d)) c) < o 9 d) && !banF (o 10 d) (u16F (o 1 k))) = true then st (st (st o 3 k 3) 7 k (o 0 1 + 10)) 0 2 (o 0 2 + 1) else st (st o 3 k 2) 0 3 (o 0 3 + 1)
theorem s3_decideOne {post : Off → Prop} {o : Off} {k d c : Nat} (hc : o 0 0 = nI c) (h14 : c ≤ 14) (hd : d < 5) (hk : k < 14) (h : post (dec1 o c k d)) : wp_X3_decideOne post o (nI k) (nI d) := by
  unfold wp_X3_decideOne
  refine s3_hasRoom hc h14 hd ?_
  unfold dec1 at h
  unfold wj_X3_decideOne_54
  simp (disch := omega) only [vp_in_i, nI_clampi, forall_eq, bI_0]
  cases hr : decide (nI (cnt (inS (cV o) 3 (nI d)) c) < o 9 d)
  · rw [hr] at h
    simp only [not_true_eq_false, not_false_eq_true, false_implies, true_implies, and_true, true_and, forall_const, reduceCtorEq, Bool.true_and, Bool.false_and, Bool.and_true, Bool.and_false, decide_true, decide_false, if_true, if_false, Bool.true_eq_false, Bool.false_eq_true, Bool.not_true, Bool.not_false, implies_true] at h ⊢
    exact ⟨hk, h⟩
  · rw [hr] at h
    refine ⟨fun z => (by cases z), fun _ => s3_colourAt hk (s3_bans hd ?_)⟩
    cases hb : banF (o 10 d) (u16F (o 1 k))
    · rw [hb] at h
      simp only [not_true_eq_false, not_false_eq_true, false_implies, true_implies, and_true, true_and, forall_const, reduceCtorEq, Bool.true_and, Bool.false_and, Bool.and_true, Bool.and_false, decide_true, decide_false, if_true, if_false, Bool.true_eq_false, Bool.false_eq_true, Bool.not_true, Bool.not_false, implies_true, bI_0] at h ⊢
      exact ⟨hk, hk, h⟩
    · rw [hb] at h
      simp only [not_true_eq_false, not_false_eq_true, false_implies, true_implies, and_true, true_and, forall_const, reduceCtorEq, Bool.true_and, Bool.false_and, Bool.and_true, Bool.and_false, decide_true, decide_false, if_true, if_false, Bool.true_eq_false, Bool.false_eq_true, Bool.not_true, Bool.not_false, implies_true, bI_0] at h ⊢
      exact ⟨hk, h⟩
theorem fstF_cases {P : Nat → Bool} : ∀ r k : Nat, (fstF P r k = -1 ∧ ∀ j, k ≤ j → j < k + r → ¬ P j = true) ∨ ∃ j, k ≤ j ∧ j < k + r ∧ P j = true ∧ fstF P r k = nI j ∧ ∀ i, k ≤ i → i < j → ¬ P i = true := by
  intro r
  induction r with
  | zero => intro k; exact Or.inl ⟨rfl, fun j h1 h2 => by omega⟩
  | succ r ih =>
    intro k
    rw [fstF]
    by_cases h : P k = true
    · rw [if_pos h]
      exact Or.inr ⟨k, Nat.le_refl _, by omega, h, rfl, fun i h1 h2 => by omega⟩
    · rw [if_neg h]
      rcases ih (k + 1) with ⟨h1, h2⟩ | ⟨j, h1, h2, h3, h4, h5⟩
      · refine Or.inl ⟨h1, fun j hj1 hj2 => ?_⟩
        by_cases e : j = k
        · subst e; exact h
        · exact h2 j (by omega) (by omega)
      · refine Or.inr ⟨j, by omega, by omega, h3, h4, fun i hi1 hi2 => ?_⟩
        by_cases e : i = k
        · subst e; exact h
        · exact h5 i (by omega) hi2
/-- r decisions on a drawer -/
def decL (c d : Nat) : Nat → Off → Off
  | 0, o => o
  | r + 1, o => decL c d r (if que (cV o) c (nI d) 0 = -1 then o else dec1 o c (que (cV o) c (nI d) 0).toNatClampNeg d)
theorem dec1_0 {o : Off} {c k d : Nat} : dec1 o c k d 0 0 = o 0 0 := by
  unfold dec1
  split <;> simp [st_at]
theorem s3_decideAll {post : Int32 → Off → Prop} {o : Off} {d c : Nat} (hc : o 0 0 = nI c) (h14 : c ≤ 14) (hd : d < 5) (h : post (decL c d (cnt (inS (cV o) 1 (nI d)) c) o 0 2 - o 0 2) (decL c d (cnt (inS (cV o) 1 (nI d)) c) o)) : wp_X3_decideAll post o (nI d) := by
  unfold wp_X3_decideAll
  intro v1 e1
  subst e1
  refine s3_countOf hc h14 ?_
  generalize hA : cnt (inS (cV o) 1 (nI d)) c = A at h
  have hA14 : A ≤ 14 := by rw [← hA]; exact Nat.le_trans (cnt_le _ _) h14
  generalize hx : o 0 2 = x at h
  suffices hl : ∀ (r i : Nat) (q : Off), i + r = A → q 0 0 = nI c → post (decL c d r q 0 2 - x) (decL c d r q) → wl_X3_decideAll_15 post (r + 1) q (nI d) x (nI A) (nI i) from ⟨A + 1, hl A 0 o (by omega) hc h⟩
  intro r
  induction r with
  | zero =>
    intro i q hi hq hp
    rw [wl_X3_decideAll_15, show i = A by omega]
    exact ⟨fun _ => hp, fun h => absurd (Int32.le_refl _) h⟩
  | succ r ih =>
    intro i q hi hq hp
    rw [wl_X3_decideAll_15]
    refine ⟨fun h => absurd h (nI_ge (by omega) (by omega)), fun _ => s3_queued hq h14 ?_⟩
    rw [decL] at hp
    simp (disch := omega) only [nI_add1, forall_eq]
    by_cases hn : que (cV q) c (nI d) 0 = -1
    · rw [if_pos hn] at hp
      simp only [hn, not_true_eq_false, not_false_eq_true, false_implies, true_implies, and_true, true_and, forall_const, reduceCtorEq, Bool.true_and, Bool.false_and, Bool.and_true, Bool.and_false, decide_true, decide_false, if_true, if_false, Bool.true_eq_false, Bool.false_eq_true, Bool.not_true, Bool.not_false, implies_true]
      exact ih (i + 1) q (by omega) hq hp
    · rw [if_neg hn] at hp
      simp only [hn, not_true_eq_false, not_false_eq_true, false_implies, true_implies, and_true, true_and, forall_const, reduceCtorEq, Bool.true_and, Bool.false_and, Bool.and_true, Bool.and_false, decide_true, decide_false, if_true, if_false, Bool.true_eq_false, Bool.false_eq_true, Bool.not_true, Bool.not_false, implies_true]
      rcases fstF_cases (P := fun k => inS (cV q) 1 (nI d) k && decide (nI (ahd (cV q) c (nI d) k) = 0)) c 0 with ⟨h1, -⟩ | ⟨j, -, h2, -, h4, -⟩
      · exact absurd h1 hn
      · have e : que (cV q) c (nI d) 0 = nI j := h4
        rw [e] at hp ⊢
        rw [nI_clampi (by omega)] at hp
        exact s3_decideOne hq h14 hd (by omega) (ih (i + 1) _ (by omega) (by rw [dec1_0]; exact hq) hp)
