/-! ===== plain facts: ints by their numbers ===== -/
theorem nI_eqi {a b : Nat} (ha : a < 2147483648) (hb : b < 2147483648) : nI a = nI b ↔ a = b := by
  constructor
  · intro h
    have h1 := nI_clamp (n := a) (by omega)
    rw [h, nI_clamp (by omega)] at h1
    exact h1.symm
  · intro h; rw [h]
theorem nI_lei {a b : Nat} (ha : a < 2147483648) (hb : b < 2147483648) : nI a ≤ nI b ↔ a ≤ b := by
  rw [Int32.le_iff_toInt_le, nI_toInt (by omega), nI_toInt (by omega)]; omega
theorem nI_lti {a b : Nat} (ha : a < 2147483648) (hb : b < 2147483648) : nI a < nI b ↔ a < b := by
  rw [Int32.lt_iff_toInt_lt, nI_toInt (by omega), nI_toInt (by omega)]; omega
theorem neg1_toInt : (-1 : Int32).toInt = -1 := by decide
theorem nI_eqm {a : Nat} (ha : a < 2147483648) : nI a = -1 ↔ False := by
  refine ⟨fun h => ?_, False.elim⟩
  have h1 := nI_toInt (n := a) (by omega)
  rw [h, neg1_toInt] at h1
  omega
theorem nI_meq {a : Nat} (ha : a < 2147483648) : (-1 : Int32) = nI a ↔ False := by
  rw [eq_comm]; exact nI_eqm ha
theorem nI_ltm {a : Nat} (ha : a < 2147483648) : nI a < -1 ↔ False := by
  rw [Int32.lt_iff_toInt_lt, nI_toInt (by omega), neg1_toInt]
  exact ⟨fun h => by omega, False.elim⟩
theorem nI_mlt {a : Nat} (ha : a < 2147483648) : (-1 : Int32) < nI a ↔ True := by
  rw [Int32.lt_iff_toInt_lt, nI_toInt (by omega), neg1_toInt]
  exact ⟨fun _ => trivial, fun _ => by omega⟩
theorem nI_lem {a : Nat} (ha : a < 2147483648) : nI a ≤ -1 ↔ False := by
  rw [Int32.le_iff_toInt_le, nI_toInt (by omega), neg1_toInt]
  exact ⟨fun h => by omega, False.elim⟩
theorem nI_mle {a : Nat} (ha : a < 2147483648) : (-1 : Int32) ≤ nI a ↔ True := by
  rw [Int32.le_iff_toInt_le, nI_toInt (by omega), neg1_toInt]
  exact ⟨fun _ => trivial, fun _ => by omega⟩
theorem nI_clampi {a : Nat} (h : a < 2147483648) : (nI a).toNatClampNeg = a := nI_clamp (by omega)
theorem nI_mul (a b : Nat) : nI a * nI b = nI (a * b) := (Int32.ofNat_mul a b).symm
theorem nI_sub {a b : Nat} (h : b ≤ a) : nI a - nI b = nI (a - b) := by
  have e : nI a = nI (a - b) + nI b := by rw [nI_add, Nat.sub_add_cancel h]
  rw [e, Int32.add_sub_cancel]
theorem vp_in_i {a N : Nat} (h : a < 2147483648) : vp_in (nI a) N ↔ a < N := by
  unfold vp_in
  rw [nI_clampi h, show (0 : Int32) = nI 0 from rfl, nI_lti h (by omega)]
  omega
theorem st_at (o : Off) (k i : Nat) (v : Int32) (j q : Nat) : st o k i v j q = if j = k ∧ q = i then v else o j q := by
  unfold st
  by_cases h : j = k
  · subst h
    rw [if_pos rfl]
    unfold upd
    by_cases h2 : q = i
    · rw [if_pos h2, if_pos ⟨rfl, h2⟩]
    · rw [if_neg h2, if_neg (fun z => h2 z.2)]
  · rw [if_neg h, if_neg (fun z => h z.1)]
/-- how many below c have it -/
def cnt (P : Nat → Bool) : Nat → Nat
  | 0 => 0
  | c + 1 => cnt P c + (if P c = true then 1 else 0)
theorem cnt_le (P : Nat → Bool) (c : Nat) : cnt P c ≤ c := by
  induction c with
  | zero => exact Nat.le_refl _
  | succ c ih =>
    unfold cnt
    split <;> omega
theorem cnt_t {P : Nat → Bool} {c : Nat} (h : P c = true) : cnt P (c + 1) = cnt P c + 1 := by rw [cnt, if_pos h]
theorem cnt_f {P : Nat → Bool} {c : Nat} (h : ¬ P c = true) : cnt P (c + 1) = cnt P c := by rw [cnt, if_neg h]; rfl
theorem cnt_congr {P Q : Nat → Bool} {c : Nat} (h : ∀ k, k < c → P k = Q k) : cnt P c = cnt Q c := by
  induction c with
  | zero => rfl
  | succ c ih => rw [cnt, cnt, ih (fun k hk => h k (by omega)), h c (by omega)]
theorem n_0 : (0 : Int32) = nI 0 := rfl
theorem n_1 : (1 : Int32) = nI 1 := rfl
theorem n_2 : (2 : Int32) = nI 2 := rfl
theorem n_3 : (3 : Int32) = nI 3 := rfl
theorem n_4 : (4 : Int32) = nI 4 := rfl
theorem n_5 : (5 : Int32) = nI 5 := rfl
theorem n_6 : (6 : Int32) = nI 6 := rfl
theorem n_7 : (7 : Int32) = nI 7 := rfl
theorem n_8 : (8 : Int32) = nI 8 := rfl
theorem n_9 : (9 : Int32) = nI 9 := rfl
theorem n_10 : (10 : Int32) = nI 10 := rfl
theorem n_11 : (11 : Int32) = nI 11 := rfl
theorem n_12 : (12 : Int32) = nI 12 := rfl
theorem n_13 : (13 : Int32) = nI 13 := rfl
theorem n_14 : (14 : Int32) = nI 14 := rfl
theorem n_15 : (15 : Int32) = nI 15 := rfl
theorem n_16 : (16 : Int32) = nI 16 := rfl
theorem n_17 : (17 : Int32) = nI 17 := rfl
theorem n_18 : (18 : Int32) = nI 18 := rfl
theorem n_19 : (19 : Int32) = nI 19 := rfl
theorem n_20 : (20 : Int32) = nI 20 := rfl
theorem n_21 : (21 : Int32) = nI 21 := rfl
theorem n_22 : (22 : Int32) = nI 22 := rfl
theorem n_23 : (23 : Int32) = nI 23 := rfl
theorem n_24 : (24 : Int32) = nI 24 := rfl
theorem n_25 : (25 : Int32) = nI 25 := rfl
theorem n_26 : (26 : Int32) = nI 26 := rfl
theorem n_27 : (27 : Int32) = nI 27 := rfl
theorem n_28 : (28 : Int32) = nI 28 := rfl
theorem n_29 : (29 : Int32) = nI 29 := rfl
theorem n_30 : (30 : Int32) = nI 30 := rfl
theorem n_31 : (31 : Int32) = nI 31 := rfl
theorem n_32 : (32 : Int32) = nI 32 := rfl
theorem n_33 : (33 : Int32) = nI 33 := rfl
theorem n_34 : (34 : Int32) = nI 34 := rfl
theorem n_35 : (35 : Int32) = nI 35 := rfl
theorem n_36 : (36 : Int32) = nI 36 := rfl
theorem n_37 : (37 : Int32) = nI 37 := rfl
theorem n_38 : (38 : Int32) = nI 38 := rfl
theorem n_39 : (39 : Int32) = nI 39 := rfl
theorem n_40 : (40 : Int32) = nI 40 := rfl
theorem n_41 : (41 : Int32) = nI 41 := rfl
theorem n_42 : (42 : Int32) = nI 42 := rfl
theorem n_43 : (43 : Int32) = nI 43 := rfl
theorem n_44 : (44 : Int32) = nI 44 := rfl
theorem n_45 : (45 : Int32) = nI 45 := rfl
theorem n_46 : (46 : Int32) = nI 46 := rfl
theorem n_47 : (47 : Int32) = nI 47 := rfl
theorem n_48 : (48 : Int32) = nI 48 := rfl
theorem n_49 : (49 : Int32) = nI 49 := rfl
theorem n_50 : (50 : Int32) = nI 50 := rfl
theorem n_51 : (51 : Int32) = nI 51 := rfl
theorem n_52 : (52 : Int32) = nI 52 := rfl
theorem n_53 : (53 : Int32) = nI 53 := rfl
theorem n_54 : (54 : Int32) = nI 54 := rfl
theorem n_55 : (55 : Int32) = nI 55 := rfl
theorem n_56 : (56 : Int32) = nI 56 := rfl
theorem n_57 : (57 : Int32) = nI 57 := rfl
theorem n_58 : (58 : Int32) = nI 58 := rfl
theorem n_59 : (59 : Int32) = nI 59 := rfl
theorem n_60 : (60 : Int32) = nI 60 := rfl
theorem n_61 : (61 : Int32) = nI 61 := rfl
theorem n_62 : (62 : Int32) = nI 62 := rfl
theorem n_63 : (63 : Int32) = nI 63 := rfl
theorem n_64 : (64 : Int32) = nI 64 := rfl
theorem n_65 : (65 : Int32) = nI 65 := rfl
theorem n_66 : (66 : Int32) = nI 66 := rfl
theorem n_67 : (67 : Int32) = nI 67 := rfl
theorem n_68 : (68 : Int32) = nI 68 := rfl
theorem n_78 : (78 : Int32) = nI 78 := rfl
theorem n_84 : (84 : Int32) = nI 84 := rfl
theorem n_97 : (97 : Int32) = nI 97 := rfl
theorem n_98 : (98 : Int32) = nI 98 := rfl
theorem n_99 : (99 : Int32) = nI 99 := rfl
theorem n_100 : (100 : Int32) = nI 100 := rfl
theorem n_101 : (101 : Int32) = nI 101 := rfl
theorem n_102 : (102 : Int32) = nI 102 := rfl
theorem n_103 : (103 : Int32) = nI 103 := rfl
theorem n_105 : (105 : Int32) = nI 105 := rfl
theorem n_106 : (106 : Int32) = nI 106 := rfl
theorem n_107 : (107 : Int32) = nI 107 := rfl
theorem n_108 : (108 : Int32) = nI 108 := rfl
theorem n_109 : (109 : Int32) = nI 109 := rfl
theorem n_110 : (110 : Int32) = nI 110 := rfl
theorem n_111 : (111 : Int32) = nI 111 := rfl
theorem n_112 : (112 : Int32) = nI 112 := rfl
theorem n_113 : (113 : Int32) = nI 113 := rfl
theorem n_114 : (114 : Int32) = nI 114 := rfl
theorem n_115 : (115 : Int32) = nI 115 := rfl
theorem n_116 : (116 : Int32) = nI 116 := rfl
theorem n_117 : (117 : Int32) = nI 117 := rfl
theorem n_118 : (118 : Int32) = nI 118 := rfl
theorem n_119 : (119 : Int32) = nI 119 := rfl
theorem n_120 : (120 : Int32) = nI 120 := rfl
theorem n_121 : (121 : Int32) = nI 121 := rfl
theorem n_122 : (122 : Int32) = nI 122 := rfl
theorem n_123 : (123 : Int32) = nI 123 := rfl
theorem n_124 : (124 : Int32) = nI 124 := rfl
theorem n_125 : (125 : Int32) = nI 125 := rfl
theorem n_126 : (126 : Int32) = nI 126 := rfl
theorem n_127 : (127 : Int32) = nI 127 := rfl
theorem n_128 : (128 : Int32) = nI 128 := rfl
theorem n_130 : (130 : Int32) = nI 130 := rfl
theorem n_160 : (160 : Int32) = nI 160 := rfl
theorem n_1280 : (1280 : Int32) = nI 1280 := rfl
