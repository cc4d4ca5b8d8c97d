/-! ===== sets of socks as bits ===== -/
def gb (x : Int32) (i : Nat) : Bool := x.toBitVec.getLsbD i
theorem and_one (y : BitVec 32) : y &&& 1#32 = 1#32 ↔ y.getLsbD 0 = true := by
  rw [BitVec.and_one_eq_setWidth_ofBool_getLsbD]
  cases y.getLsbD 0 <;> decide
theorem sh_amt : ∀ i, i < 14 → ((nI i &&& 31).toBitVec.smod 32).toNat = i := by decide +kernel
theorem bt_iff (x : Int32) {i : Nat} (hi : i < 14) : ((x >>> (nI i &&& 31)) &&& 1) = 1 ↔ gb x i = true := by
  rw [← Int32.toBitVec_inj, Int32.toBitVec_and, Int32.toBitVec_shiftRight]
  show BitVec.sshiftRight' _ _ &&& 1#32 = 1#32 ↔ _
  rw [and_one, BitVec.sshiftRight', sh_amt i hi, BitVec.getLsbD_sshiftRight]
  unfold gb
  rw [if_pos (by omega), Nat.add_zero]
  simp
theorem s3_hasBit {post : Int32 → Prop} {x : Int32} {i : Nat} (hi : i < 14) (h : post (bI (gb x i))) : wp_X3_hasBit post x (nI i) := by
  unfold wp_X3_hasBit
  rw [bt_iff x hi]
  cases hb : gb x i
  · rw [hb] at h
    exact ⟨fun _ => h, fun y => by cases y⟩
  · rw [hb] at h
    exact ⟨fun y => absurd rfl y, fun _ => h⟩
def clr (x : Int32) (j : Nat) : Int32 := x &&& (((1 : Int32) <<< (nI j &&& 31)) ^^^ (-1 : Int32))
def put1 (x : Int32) (j : Nat) : Int32 := x ||| ((1 : Int32) <<< (nI j &&& 31))
theorem one_all : ∀ j, j < 14 → ∀ i, i < 32 → gb (((1 : Int32) <<< (nI j &&& 31)) ^^^ (-1 : Int32)) i = !decide (i = j) ∧ gb ((1 : Int32) <<< (nI j &&& 31)) i = decide (i = j) := by decide +kernel
theorem clr_b {x : Int32} {i j : Nat} (hj : j < 14) (hi : i < 32) : gb (clr x j) i = (gb x i && !decide (i = j)) := by
  have := (one_all j hj i hi).1
  unfold gb at this ⊢
  unfold clr
  rw [Int32.toBitVec_and, BitVec.getLsbD_and, this]
theorem put1_b {x : Int32} {i j : Nat} (hj : j < 14) (hi : i < 32) : gb (put1 x j) i = (gb x i || decide (i = j)) := by
  have := (one_all j hj i hi).2
  unfold gb at this ⊢
  unfold put1
  rw [Int32.toBitVec_or, BitVec.getLsbD_or, this]
def small (x : Int32) : Prop := ∀ i, 14 ≤ i → i < 32 → gb x i = false
theorem small_n {x : Int32} (h : small x) : ∃ m, m < 16384 ∧ x = nI m := by
  refine ⟨x.toBitVec.toNat, ?_, ?_⟩
  · refine Nat.lt_pow_two_of_testBit (n := 14) _ (fun i hi => ?_)
    by_cases h2 : i < 32
    · exact h i hi h2
    · exact BitVec.getLsbD_of_ge _ _ (by omega)
  · rw [← Int32.toBitVec_inj]
    show x.toBitVec = BitVec.ofNat 32 x.toBitVec.toNat
    rw [BitVec.ofNat_toNat, BitVec.setWidth_eq]
theorem small_clr {x : Int32} {j : Nat} (hj : j < 14) (h : small x) : small (clr x j) := fun i h1 h2 => by
  rw [clr_b hj h2, h i h1 h2]; rfl
def bcF (p0 : Int32) : Int32 :=
  let v1 := (p0 - ((((p0).toUInt32 >>> (((1 : Int32)).toUInt32 &&& Int32.toUInt32 31)).toInt32) &&& (1431655765 : Int32)))
  let v2 := ((v1 &&& (858993459 : Int32)) + ((((v1).toUInt32 >>> (((2 : Int32)).toUInt32 &&& Int32.toUInt32 31)).toInt32) &&& (858993459 : Int32)))
  let v3 := ((v2 + (((v2).toUInt32 >>> (((4 : Int32)).toUInt32 &&& Int32.toUInt32 31)).toInt32)) &&& (252645135 : Int32))
  let v4 := (v3 + (((v3).toUInt32 >>> (((8 : Int32)).toUInt32 &&& Int32.toUInt32 31)).toInt32))
  let v5 := (v4 + (((v4).toUInt32 >>> (((16 : Int32)).toUInt32 &&& Int32.toUInt32 31)).toInt32))
  v5 &&& (63 : Int32)
theorem bc_all : ∀ a, a < 128 → ∀ b, b < 128 → bcF (nI (128 * a + b)) = nI (cnt (gb (nI (128 * a + b))) 14) := by decide +kernel
theorem s_bitCount {post : Int32 → Prop} {x : Int32} (hx : small x) (h : post (nI (cnt (gb x) 14))) : wp_J6_bitCount_0f7a4 post x := by
  obtain ⟨m, hm, e⟩ := small_n hx
  have e2 : m = 128 * (m / 128) + m % 128 := by omega
  have := bc_all (m / 128) (by omega) (m % 128) (by omega)
  rw [← e2, ← e] at this
  rw [← this] at h
  intro v1 e1 v2 e2 v3 e3 v4 e4 v5 e5
  subst e1; subst e2; subst e3; subst e4; subst e5
  exact h
