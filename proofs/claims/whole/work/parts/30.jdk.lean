section GLITS
variable {x : gX} {l : Launch} {cc : ByteArray} {nL : Nat} {own : String} {g : gE} {fr lo mc ms k n pc : Nat} {ws : va_W} {lv : List (Nat × Value)} {st : List Value} {i ix : Nat} {ow tx : String} {bs : List Int32}
theorem gC.kc (hC : gC x l cc nL own g fr lo mc ms) : gKc g (x_A x) (x_s x) (x_s x).heap := hC.2.2.2.2.2.2.2.2.2.2
theorem gC.lit (hC : gC x l cc nL own g fr lo mc ms) (hq : gTx[i]? = some (ow, ix, tx, bs)) (hi : i < 16) : gKs g (x_A x) (x_s x) (x_s x).heap i bs := hC.kc.1.1 i _ hi hq
/-- a text's bytes, its coder, a byte, the length -/
theorem g_litv (hC : gC x l cc nL own g fr lo mc ms) (hq : gTx[i]? = some (ow, ix, tx, bs)) (hi : i < 16) {idx : Nat} (hl : Cond.fieldLink own idx "java/lang/String" "value" "[B" ∈ lw_all) (hd : decode cc pc = .ok (.getfield idx, 3)) (pc2 : Nat) (e : pc + 3 = pc2) (kk : G x g nL k n ws pc2 lv (.ref (g.2.2.2.1 i) :: st)) : G x g nL k n ws pc lv (.ref (g.2.2.1 i) :: st) := by
  subst e
  intro H locs ls hP hD hS h
  exact vk_getf hC.1 hC.2.1 (hC.lit hq hi).2.2.1 hS hC.2.2.2.1 (hC.2.2.2.2.1 _ hl) (fun _ h9 => h9) hd (kk H locs ls hP hD hS h)
theorem g_litc (hC : gC x l cc nL own g fr lo mc ms) (hq : gTx[i]? = some (ow, ix, tx, bs)) (hi : i < 16) {idx : Nat} (hl : Cond.fieldLink own idx "java/lang/String" "coder" "B" ∈ lw_all) (hd : decode cc pc = .ok (.getfield idx, 3)) (pc2 : Nat) (e : pc + 3 = pc2) (kk : G x g nL k n ws pc2 lv (.int 0 :: st)) : G x g nL k n ws pc lv (.ref (g.2.2.1 i) :: st) := by
  subst e
  intro H locs ls hP hD hS h
  exact vk_getf hC.1 hC.2.1 (hC.lit hq hi).2.1 hS hC.2.2.2.1 (hC.2.2.2.2.1 _ hl) (fun _ h9 => h9) hd (kk H locs ls hP hD hS h)
theorem g_litb (hC : gC x l cc nL own g fr lo mc ms) (hq : gTx[i]? = some (ow, ix, tx, bs)) (hi : i < 16) {j : Int32} (hd : decode cc pc = .ok (.baload, 1)) (pc2 : Nat) (e : pc + 1 = pc2) (hin : vp_in j bs.length) (kk : G x g nL k n ws pc2 lv (.int (bs.getD j.toNatClampNeg 0) :: st)) : G x g nL k n ws pc lv (.int j :: .ref (g.2.2.2.1 i) :: st) := by
  subst e
  intro H locs ls hP hD hS h
  exact va_tb hC.1 hC.2.1 (hC.lit hq hi).2.2.2 hS hin rfl hd (kk H locs ls hP hD hS h)
theorem g_litl (hC : gC x l cc nL own g fr lo mc ms) (hq : gTx[i]? = some (ow, ix, tx, bs)) (hi : i < 16) (hd : decode cc pc = .ok (.arraylength, 1)) (pc2 : Nat) (e : pc + 1 = pc2) (kk : G x g nL k n ws pc2 lv (.int (nI bs.length) :: st)) : G x g nL k n ws pc lv (.ref (g.2.2.2.1 i) :: st) := by
  subst e
  intro H locs ls hP hD hS h
  exact va_tlen hC.1 hC.2.1 (hC.lit hq hi).2.2.2 hS rfl hd (kk H locs ls hP hD hS h)
theorem g_litS (hC : gC x l cc nL own g fr lo mc ms) (hq : gTx[i]? = some (own, ix, tx, bs)) (hd : decode cc pc = .ok (.ldc ix, 2)) (pc2 : Nat) (e : pc + 2 = pc2) (kk : G x g nL k n ws pc2 lv (.ref (g.2.2.1 i) :: st)) : G x g nL k n ws pc lv st := by
  subst e
  intro H locs ls hP hD hS h
  exact va_ldcS hC.1 hC.2.1 hC.2.2.2.1 (hC.kc.2.1 i _ hq) hd (kk H locs ls hP hD hS h)
theorem g_getCS (hC : gC x l cc nL own g fr lo mc ms) {idx : Nat} (hl : Cond.fieldLink own idx "java/lang/String" "COMPACT_STRINGS" "Z" ∈ lw_all) (hd : decode cc pc = .ok (.getstatic idx, 3)) (pc2 : Nat) (e : pc + 3 = pc2) (kk : G x g nL k n ws pc2 lv (.int 1 :: st)) : G x g nL k n ws pc lv st := by
  subst e
  intro H locs ls hP hD hS h
  exact va_gets hC.1 hC.2.1 hC.kc.1.2.1 hS hC.2.2.2.1 (hC.2.2.2.2.1 _ hl) (fun _ h9 => h9) hd (kk H locs ls hP hD hS h)
theorem g_getDT (hC : gC x l cc nL own g fr lo mc ms) {idx : Nat} (hl : Cond.fieldLink own idx "java/lang/Integer" "DigitTens" "[B" ∈ lw_all) (hd : decode cc pc = .ok (.getstatic idx, 3)) (pc2 : Nat) (e : pc + 3 = pc2) (kk : G x g nL k n ws pc2 lv (.ref (g.2.2.2.2 0) :: st)) : G x g nL k n ws pc lv st := by
  subst e
  intro H locs ls hP hD hS h
  exact va_gets hC.1 hC.2.1 hC.kc.1.2.2.1.1 hS hC.2.2.2.1 (hC.2.2.2.2.1 _ hl) (fun _ h9 => h9) hd (kk H locs ls hP hD hS h)
theorem g_getDO (hC : gC x l cc nL own g fr lo mc ms) {idx : Nat} (hl : Cond.fieldLink own idx "java/lang/Integer" "DigitOnes" "[B" ∈ lw_all) (hd : decode cc pc = .ok (.getstatic idx, 3)) (pc2 : Nat) (e : pc + 3 = pc2) (kk : G x g nL k n ws pc2 lv (.ref (g.2.2.2.2 1) :: st)) : G x g nL k n ws pc lv st := by
  subst e
  intro H locs ls hP hD hS h
  exact va_gets hC.1 hC.2.1 hC.kc.1.2.2.2.1.1 hS hC.2.2.2.1 (hC.2.2.2.2.1 _ hl) (fun _ h9 => h9) hd (kk H locs ls hP hD hS h)
theorem g_bDT (hC : gC x l cc nL own g fr lo mc ms) {j : Int32} (hd : decode cc pc = .ok (.baload, 1)) (pc2 : Nat) (e : pc + 1 = pc2) (hin : vp_in j 100) (kk : G x g nL k n ws pc2 lv (.int (nI (48 + j.toNatClampNeg / 10)) :: st)) : G x g nL k n ws pc lv (.int j :: .ref (g.2.2.2.2 0) :: st) := by
  subst e
  intro H locs ls hP hD hS h
  exact va_tb hC.1 hC.2.1 hC.kc.1.2.2.1.2 hS hin rfl hd (kk H locs ls hP hD hS h)
theorem g_bDO (hC : gC x l cc nL own g fr lo mc ms) {j : Int32} (hd : decode cc pc = .ok (.baload, 1)) (pc2 : Nat) (e : pc + 1 = pc2) (hin : vp_in j 100) (kk : G x g nL k n ws pc2 lv (.int (nI (48 + j.toNatClampNeg % 10)) :: st)) : G x g nL k n ws pc lv (.int j :: .ref (g.2.2.2.2 1) :: st) := by
  subst e
  intro H locs ls hP hD hS h
  exact va_tb hC.1 hC.2.1 hC.kc.1.2.2.2.1.2 hS hin rfl hd (kk H locs ls hP hD hS h)
theorem g_getSF (hC : gC x l cc nL own g fr lo mc ms) {idx : Nat} (hl : Cond.fieldLink own idx "jdk/internal/util/Preconditions" "SIOOBE_FORMATTER" "Ljava/util/function/BiFunction;" ∈ lw_all) (hd : decode cc pc = .ok (.getstatic idx, 3)) (pc2 : Nat) (e : pc + 3 = pc2) (k0 : G x g nL k n ws pc2 lv (.null :: st)) (k1 : ∀ t : Nat, G x g nL k n ws pc2 lv (.ref t :: st)) : G x g nL k n ws pc lv st := by
  subst e
  intro H locs ls hP hD hS h
  rcases hC.kc.1.2.2.2.2.2.2 with hz | ⟨t, hz⟩
  · exact va_gets hC.1 hC.2.1 hz hS hC.2.2.2.1 (hC.2.2.2.2.1 _ hl) (fun _ h9 => h9) hd (k0 H locs ls hP hD hS h)
  · exact va_gets hC.1 hC.2.1 hz hS hC.2.2.2.1 (hC.2.2.2.2.1 _ hl) (fun _ h9 => h9) hd (k1 t H locs ls hP hD hS h)
/-- a call by a text -/
theorem g_callL (hC : gC x l cc nL own g fr lo mc ms) (hq : gTx[i]? = some (ow, ix, tx, bs)) (hi : i < 16)
    {y : MethodName} {b : ByteArray} {nM fr' lo' np : Nat} {ret : Option FieldType} {As As' : List Value} {post : Int32 → Prop} (hF : Fn l g y b nM ret fr' lo' 0 0 [] As' (pR [] post)) (hY : gYv y b nM ret np) {idx : Nat} (hd : decode cc pc = .ok (.invokevirtual idx, 3)) (pc2 : Nat) (e : pc + 3 = pc2) (hl : Cond.methodLink own idx y ∈ lw_all)
    (rest : List Value) (hAs : As' = .ref (g.2.2.1 i) :: As) (hst : st = As.reverse ++ .ref (g.2.2.1 i) :: rest) (hn : As.length = np) (hyc : y.cls = "java/lang/String")
    (hR : fr' + 1 ≤ fr ∧ 8 + (nM + 11) + lo' ≤ lo) (hcat : (rest.map fun v => v.category).sum ≤ 8) (hkn : k ≤ mc ∧ n ≤ ms) (kk : ∀ v : Int32, post v → G x g nL k n ws pc2 lv (.int v :: rest)) : G x g nL k n ws pc lv st := by
  subst hAs; subst hst
  intro H locs ls hP hD hS h
  obtain ⟨⟨y1, y2, y3⟩, y4, y5⟩ := hY
  have hM := hF H.size
  rw [← hC.2.2.2.2.2.2.2.2.1] at hM
  have hT : GoodIn lw_all (wsV own idx y.cls y (.code y b nM ret :: lw_all)) := fun w hw => lw_goodAll w (by
    rcases List.mem_append.mp hw with h1 | h1
    · simp only [List.mem_cons, List.not_mem_nil, or_false] at h1
      rcases h1 with rfl | rfl | rfl | rfl
      · exact hl
      · exact y4
      · exact y5
      · exact y1
    · rcases List.mem_cons.mp h1 with rfl | h1
      · exact y2
      · exact h1)
  have hrec : ∃ cell : Cell, H[g.2.2.1 i]? = some cell ∧ cell.vm.isStatics = false ∧ (x_s x).vm.findClass y.cls = some cell.cls := by
    obtain ⟨cell, h1, h2, h3, -⟩ := (hC.lit hq hi).1.kept hS.2.1
    exact ⟨cell, h1, h2, by rw [hyc]; exact h3⟩
  exact gBack (pre := []) (wc := []) (suf := ws) hC hP hD hS h e (va_runV (As := As) (rest := rest) ⟨hC.1, hC.2.1, hC.2.2.1, hC.2.2.2.1, hC.2.2.2.2.1⟩ hM (cwV np hC.2.2.2.2.1 hT rfl rfl rfl ⟨rfl, y3⟩ (gRoom2 hC hR))
    ⟨gBlind, hrec, fun U hU hW => ⟨rfl, gYes (pre := []) (wc := []) (suf := ws) hC hP hD hS hU hW⟩⟩ rfl hn h.1 rfl (lv_room hcat) hd (gRoom hC hkn)) (by
      rintro r w1 ⟨v, rfl, rfl, hp⟩
      exact kk v hp)
theorem g_ldcw (hC : gC x l cc nL own g fr lo mc ms) {idx : Nat} (v : Int32) (hd : decode cc pc = .ok (.ldc_w idx, 3)) (pc2 : Nat) (e : pc + 3 = pc2) (hw : Cond.constant own idx v ∈ lw_all) (kk : G x g nL k n ws pc2 lv (.int v :: st)) : G x g nL k n ws pc lv st := by
  subst e
  intro H locs ls hP hD hS h
  exact lv_ldcw hC.1 hC.2.1 hC.2.2.2.1 (hC.2.2.2.2.1 _ hw) hd (kk H locs ls hP hD hS h)
theorem g_nopS (hC : gC x l cc nL own g fr lo mc ms) {y : MethodName} {b : ByteArray} {nM fr' lo' np : Nat} {ret : Option FieldType} {As : List Value} (hF : Fn l g y b nM ret fr' lo' 0 0 [] As (fun r w => r = none ∧ w = [])) (hY : gYs y b nM ret np) {idx : Nat} (hd : decode cc pc = .ok (.invokestatic idx, 3)) (pc2 : Nat) (e : pc + 3 = pc2) (hl : Cond.methodLink own idx y ∈ lw_all)
    (rest : List Value) (hst : st = As.reverse ++ rest) (hn : As.length = np) (hR : fr' + 1 ≤ fr ∧ 8 + (nM + 11) + lo' ≤ lo) (hcat : (rest.map fun v => v.category).sum ≤ 8) (hkn : k ≤ mc ∧ n ≤ ms) (kk : G x g nL k n ws pc2 lv rest) : G x g nL k n ws pc lv st := by
  refine g_callS hC hF hY hd pc2 e hl [] ws rfl rest hst hn hR hcat hkn ?_
  rintro r w1 ⟨rfl, rfl⟩
  exact kk
end GLITS
set_option maxHeartbeats 4000000 in
theorem ct_J3_checkIndex (l : Launch) (g : gE) (p0 p1 : Int32) (fv : Value) (hfv : fv = .null ∨ ∃ t : Nat, fv = .ref t) (h0 : ¬ p0 < 0) (h1 : p0 < p1) : Fn l g yJ3_checkIndex_8e157 cJ3_checkIndex_8e157 3 (some .int) 0 0 0 0 [] [.int p0, .int p1, fv] (pR [] (fun r => r = p0)) := by
  have hlen : (lg_sl [Value.int p0, Value.int p1, fv]).length ≤ 3 := by rcases hfv with rfl | ⟨t, rfl⟩ <;> exact Nat.le_of_ble_eq_true rfl
  refine Fn.of (by decide) hlen (fun x hC hZ => ?_)
  show G x g 3 0 0 [] 0 [(0, .int p0), (1, .int p1), (2, fv)] []
  refine g_iload_n hC dJ3_checkIndex_8e157_0 1 rfl rfl 0 rfl ?_
  refine g_if_lt hC dJ3_checkIndex_8e157_1 9 (by decide) 4 rfl (fun c => absurd c h0) (fun _ => ?_)
  refine g_iload_n hC dJ3_checkIndex_8e157_4 5 rfl rfl 0 rfl ?_
  refine g_iload_n hC dJ3_checkIndex_8e157_5 6 rfl rfl 1 rfl ?_
  refine g_icmp_lt hC dJ3_checkIndex_8e157_6 16 (by decide) 9 rfl (fun _ => ?_) (fun c => absurd h1 c)
  refine g_iload_n hC dJ3_checkIndex_8e157_16 17 rfl rfl 0 rfl ?_
  exact g_iret hC hZ dJ3_checkIndex_8e157_17 ⟨_, rfl, rfl, rfl⟩
set_option maxHeartbeats 4000000 in
theorem ct_J0_checkIndex (l : Launch) (g : gE) (p0 p1 : Int32) (h0 : ¬ p0 < 0) (h1 : p0 < p1) : Fn l g yJ0_checkIndex_df160 cJ0_checkIndex_df160 2 none 1 22 0 0 [] [.int p0, .int p1] (fun r w => r = none ∧ w = []) := by
  refine Fn.of (by decide) (Nat.le_of_ble_eq_true rfl) (fun x hC hZ => ?_)
  show G x g 2 0 0 [] 0 [(0, .int p0), (1, .int p1)] []
  refine g_iload_n hC dJ0_checkIndex_df160_0 1 rfl rfl 0 rfl ?_
  refine g_iload_n hC dJ0_checkIndex_df160_1 2 rfl rfl 1 rfl ?_
  refine g_getSF hC (lw_inT 350 (by decide +kernel) rfl) dJ0_checkIndex_df160_2 5 rfl ?_ (fun t => ?_)
  · refine g_readS hC (ct_J3_checkIndex l g p0 p1 .null (Or.inl rfl) h0 h1) gY_J3_checkIndex_8e157 dJ0_checkIndex_df160_5 8 rfl ml_J0_1059 [] _ rfl [] rfl rfl ⟨Nat.le_of_ble_eq_true rfl, Nat.le_of_ble_eq_true rfl⟩ (Nat.le_of_ble_eq_true rfl) ⟨Nat.le_refl _, Nat.le_refl _⟩ (fun v h => ?_)
    refine g_pop hC dJ0_checkIndex_df160_8 9 rfl rfl ?_
    exact g_vret hC hZ dJ0_checkIndex_df160_9 ⟨rfl, rfl⟩
  · refine g_readS hC (ct_J3_checkIndex l g p0 p1 (.ref t) (Or.inr ⟨t, rfl⟩) h0 h1) gY_J3_checkIndex_8e157 dJ0_checkIndex_df160_5 8 rfl ml_J0_1059 [] _ rfl [] rfl rfl ⟨Nat.le_of_ble_eq_true rfl, Nat.le_of_ble_eq_true rfl⟩ (Nat.le_of_ble_eq_true rfl) ⟨Nat.le_refl _, Nat.le_refl _⟩ (fun v h => ?_)
    refine g_pop hC dJ0_checkIndex_df160_8 9 rfl rfl ?_
    exact g_vret hC hZ dJ0_checkIndex_df160_9 ⟨rfl, rfl⟩
/-- a place in a text; none: -1 -/
def ixF (c : Int32) : List Int32 → Nat → Int32
  | [], _ => -1
  | b :: l, k => if b = c then nI k else ixF c l (k + 1)

def wp_J6_bitCount_0f7a4 (post : Int32 → Prop) (p0 : Int32) : Prop := (∀ v1 : Int32, v1 = (p0 - ((((p0).toUInt32 >>> (((1 : Int32)).toUInt32 &&& Int32.toUInt32 31)).toInt32) &&& (1431655765 : Int32))) → (∀ v2 : Int32, v2 = ((v1 &&& (858993459 : Int32)) + ((((v1).toUInt32 >>> (((2 : Int32)).toUInt32 &&& Int32.toUInt32 31)).toInt32) &&& (858993459 : Int32))) → (∀ v3 : Int32, v3 = ((v2 + (((v2).toUInt32 >>> (((4 : Int32)).toUInt32 &&& Int32.toUInt32 31)).toInt32)) &&& (252645135 : Int32)) → (∀ v4 : Int32, v4 = (v3 + (((v3).toUInt32 >>> (((8 : Int32)).toUInt32 &&& Int32.toUInt32 31)).toInt32)) → (∀ v5 : Int32, v5 = (v4 + (((v4).toUInt32 >>> (((16 : Int32)).toUInt32 &&& Int32.toUInt32 31)).toInt32)) → post (v5 &&& (63 : Int32)))))))
set_option maxRecDepth 100000 in
set_option maxHeartbeats 4000000 in
theorem ct_J6_bitCount_0f7a4 (l : Launch) (g : gE) (p0 : Int32) (post : Int32 → Prop) (h : wp_J6_bitCount_0f7a4 post p0) : Fn l g yJ6_bitCount_0f7a4 cJ6_bitCount_0f7a4 1 (some .int) 0 0 0 0 [] [.int p0] (pR [] post) := by
  refine Fn.of (by decide) (Nat.le_of_ble_eq_true rfl) (fun x hC hZ => ?_)
  rw [wp_J6_bitCount_0f7a4] at h
  show G x g 1 0 0 [] 0 [(0, .int p0)] []
  refine g_iload_n hC dJ6_bitCount_0f7a4_0 1 rfl rfl 0 rfl ?_
  refine g_iload_n hC dJ6_bitCount_0f7a4_1 2 rfl rfl 0 rfl ?_
  refine g_iconst hC (1 : Int32) dJ6_bitCount_0f7a4_2 3 rfl iconst_1 ?_
  refine g_iushr hC dJ6_bitCount_0f7a4_3 4 rfl rfl ?_
  refine g_ldcw hC (1431655765 : Int32) dJ6_bitCount_0f7a4_4 7 rfl (lw_inT 308 (by decide +kernel) rfl) ?_
  refine g_iand hC dJ6_bitCount_0f7a4_7 8 rfl ?_
  refine g_isub hC dJ6_bitCount_0f7a4_8 9 rfl ?_
  refine g_topi (fun v1 ev1 => ?_)
  have h := h v1 ev1
  refine g_istore_n (lv2 := [(0, .int v1)]) hC dJ6_bitCount_0f7a4_9 10 rfl rfl (by decide) rfl ?_
  refine g_iload_n hC dJ6_bitCount_0f7a4_10 11 rfl rfl 0 rfl ?_
  refine g_ldcw hC (858993459 : Int32) dJ6_bitCount_0f7a4_11 14 rfl (lw_inT 309 (by decide +kernel) rfl) ?_
  refine g_iand hC dJ6_bitCount_0f7a4_14 15 rfl ?_
  refine g_iload_n hC dJ6_bitCount_0f7a4_15 16 rfl rfl 0 rfl ?_
  refine g_iconst hC (2 : Int32) dJ6_bitCount_0f7a4_16 17 rfl iconst_2 ?_
  refine g_iushr hC dJ6_bitCount_0f7a4_17 18 rfl rfl ?_
  refine g_ldcw hC (858993459 : Int32) dJ6_bitCount_0f7a4_18 21 rfl (lw_inT 309 (by decide +kernel) rfl) ?_
  refine g_iand hC dJ6_bitCount_0f7a4_21 22 rfl ?_
  refine g_iadd hC dJ6_bitCount_0f7a4_22 23 rfl ?_
  refine g_topi (fun v2 ev2 => ?_)
  have h := h v2 ev2
  refine g_istore_n (lv2 := [(0, .int v2)]) hC dJ6_bitCount_0f7a4_23 24 rfl rfl (by decide) rfl ?_
  refine g_iload_n hC dJ6_bitCount_0f7a4_24 25 rfl rfl 0 rfl ?_
  refine g_iload_n hC dJ6_bitCount_0f7a4_25 26 rfl rfl 0 rfl ?_
  refine g_iconst hC (4 : Int32) dJ6_bitCount_0f7a4_26 27 rfl iconst_4 ?_
  refine g_iushr hC dJ6_bitCount_0f7a4_27 28 rfl rfl ?_
  refine g_iadd hC dJ6_bitCount_0f7a4_28 29 rfl ?_
  refine g_ldcw hC (252645135 : Int32) dJ6_bitCount_0f7a4_29 32 rfl (lw_inT 310 (by decide +kernel) rfl) ?_
  refine g_iand hC dJ6_bitCount_0f7a4_32 33 rfl ?_
  refine g_topi (fun v3 ev3 => ?_)
  have h := h v3 ev3
  refine g_istore_n (lv2 := [(0, .int v3)]) hC dJ6_bitCount_0f7a4_33 34 rfl rfl (by decide) rfl ?_
  refine g_iload_n hC dJ6_bitCount_0f7a4_34 35 rfl rfl 0 rfl ?_
  refine g_iload_n hC dJ6_bitCount_0f7a4_35 36 rfl rfl 0 rfl ?_
  refine g_bipush hC (8 : Int32) dJ6_bitCount_0f7a4_36 38 rfl bipush_8 ?_
  refine g_iushr hC dJ6_bitCount_0f7a4_38 39 rfl rfl ?_
  refine g_iadd hC dJ6_bitCount_0f7a4_39 40 rfl ?_
  refine g_topi (fun v4 ev4 => ?_)
  have h := h v4 ev4
  refine g_istore_n (lv2 := [(0, .int v4)]) hC dJ6_bitCount_0f7a4_40 41 rfl rfl (by decide) rfl ?_
  refine g_iload_n hC dJ6_bitCount_0f7a4_41 42 rfl rfl 0 rfl ?_
  refine g_iload_n hC dJ6_bitCount_0f7a4_42 43 rfl rfl 0 rfl ?_
  refine g_bipush hC (16 : Int32) dJ6_bitCount_0f7a4_43 45 rfl bipush_16 ?_
  refine g_iushr hC dJ6_bitCount_0f7a4_45 46 rfl rfl ?_
  refine g_iadd hC dJ6_bitCount_0f7a4_46 47 rfl ?_
  refine g_topi (fun v5 ev5 => ?_)
  have h := h v5 ev5
  refine g_istore_n (lv2 := [(0, .int v5)]) hC dJ6_bitCount_0f7a4_47 48 rfl rfl (by decide) rfl ?_
  refine g_iload_n hC dJ6_bitCount_0f7a4_48 49 rfl rfl 0 rfl ?_
  refine g_bipush hC (63 : Int32) dJ6_bitCount_0f7a4_49 51 rfl bipush_63 ?_
  refine g_iand hC dJ6_bitCount_0f7a4_51 52 rfl ?_
  exact g_iret hC hZ dJ6_bitCount_0f7a4_52 ⟨_, rfl, rfl, h⟩
def wp_J0_isLatin1_aae02 (post : Int32 → Prop) (bs : List Int32) : Prop := (((1 : Int32) = 0 → post (0 : Int32)) ∧ (¬ (1 : Int32) = 0 → ((¬ (0 : Int32) = 0 → post (0 : Int32)) ∧ ((0 : Int32) = 0 → post (1 : Int32)))))
set_option maxRecDepth 100000 in
set_option maxHeartbeats 4000000 in
theorem ct_J0_isLatin1_aae02 (l : Launch) (g : gE) (i : Nat) {ix : Nat} {ow tx : String} (bs : List Int32) (hq : gTx[i]? = some (ow, ix, tx, bs)) (hi : i < 16) (post : Int32 → Prop) (h : wp_J0_isLatin1_aae02 post bs ) : Fn l g yJ0_isLatin1_aae02 cJ0_isLatin1_aae02 1 (some .boolean) 0 0 0 0 [] [.ref (g.2.2.1 i)] (pR [] post) := by
  refine Fn.of (by decide) (Nat.le_of_ble_eq_true rfl) (fun x hC hZ => ?_)
  rw [wp_J0_isLatin1_aae02] at h
  show G x g 1 0 0 [] 0 [(0, .ref (g.2.2.1 i))] []
  refine g_getCS hC (lw_inT 335 (by decide +kernel) rfl) dJ0_isLatin1_aae02_0 3 rfl ?_
  refine g_if_eq hC dJ0_isLatin1_aae02_3 17 (by decide) 6 rfl (fun c => ?_) (fun c => ?_)
  · have h := h.1 c
    refine g_iconst hC (0 : Int32) dJ0_isLatin1_aae02_17 18 rfl iconst_0 ?_
    exact g_zret hC hZ rfl dJ0_isLatin1_aae02_18 ⟨_, rfl, rfl, h⟩
  · have h := h.2 c
    refine g_aload_n hC dJ0_isLatin1_aae02_6 7 rfl rfl 0 rfl ?_
    refine g_litc hC hq hi (lw_inT 1408 (by decide +kernel) rfl) dJ0_isLatin1_aae02_7 10 rfl ?_
    refine g_if_ne hC dJ0_isLatin1_aae02_10 17 (by decide) 13 rfl (fun c => ?_) (fun c => ?_)
    · have h := h.1 c
      refine g_iconst hC (0 : Int32) dJ0_isLatin1_aae02_17 18 rfl iconst_0 ?_
      exact g_zret hC hZ rfl dJ0_isLatin1_aae02_18 ⟨_, rfl, rfl, h⟩
    · have h := h.2 c
      refine g_iconst hC (1 : Int32) dJ0_isLatin1_aae02_13 14 rfl iconst_1 ?_
      refine g_goto hC dJ0_isLatin1_aae02_14 18 (by decide) ?_
      exact g_zret hC hZ rfl dJ0_isLatin1_aae02_18 ⟨_, rfl, rfl, h⟩
def wp_J0_coder_7d493 (post : Int32 → Prop) (bs : List Int32) : Prop := (((1 : Int32) = 0 → post (1 : Int32)) ∧ (¬ (1 : Int32) = 0 → post (0 : Int32)))
set_option maxRecDepth 100000 in
set_option maxHeartbeats 4000000 in
theorem ct_J0_coder_7d493 (l : Launch) (g : gE) (i : Nat) {ix : Nat} {ow tx : String} (bs : List Int32) (hq : gTx[i]? = some (ow, ix, tx, bs)) (hi : i < 16) (post : Int32 → Prop) (h : wp_J0_coder_7d493 post bs ) : Fn l g yJ0_coder_7d493 cJ0_coder_7d493 1 (some .byte) 0 0 0 0 [] [.ref (g.2.2.1 i)] (pR [] post) := by
  refine Fn.of (by decide) (Nat.le_of_ble_eq_true rfl) (fun x hC hZ => ?_)
  rw [wp_J0_coder_7d493] at h
  show G x g 1 0 0 [] 0 [(0, .ref (g.2.2.1 i))] []
  refine g_getCS hC (lw_inT 335 (by decide +kernel) rfl) dJ0_coder_7d493_0 3 rfl ?_
  refine g_if_eq hC dJ0_coder_7d493_3 13 (by decide) 6 rfl (fun c => ?_) (fun c => ?_)
  · have h := h.1 c
    refine g_iconst hC (1 : Int32) dJ0_coder_7d493_13 14 rfl iconst_1 ?_
    exact g_zret hC hZ rfl dJ0_coder_7d493_14 ⟨_, rfl, rfl, h⟩
  · have h := h.2 c
    refine g_aload_n hC dJ0_coder_7d493_6 7 rfl rfl 0 rfl ?_
    refine g_litc hC hq hi (lw_inT 1408 (by decide +kernel) rfl) dJ0_coder_7d493_7 10 rfl ?_
    refine g_goto hC dJ0_coder_7d493_10 14 (by decide) ?_
    exact g_zret hC hZ rfl dJ0_coder_7d493_14 ⟨_, rfl, rfl, h⟩
def wp_J0_length_8abf5 (post : Int32 → Prop) (bs : List Int32) : Prop := wp_J0_coder_7d493 (fun v1 => post ((nI bs.length) >>> (v1 &&& 31))) bs 
set_option maxRecDepth 100000 in
set_option maxHeartbeats 4000000 in
theorem ct_J0_length_8abf5 (l : Launch) (g : gE) (i : Nat) {ix : Nat} {ow tx : String} (bs : List Int32) (hq : gTx[i]? = some (ow, ix, tx, bs)) (hi : i < 16) (post : Int32 → Prop) (h : wp_J0_length_8abf5 post bs ) : Fn l g yJ0_length_8abf5 cJ0_length_8abf5 1 (some .int) 1 20 0 0 [] [.ref (g.2.2.1 i)] (pR [] post) := by
  refine Fn.of (by decide) (Nat.le_of_ble_eq_true rfl) (fun x hC hZ => ?_)
  rw [wp_J0_length_8abf5] at h
  show G x g 1 0 0 [] 0 [(0, .ref (g.2.2.1 i))] []
  refine g_aload_n hC dJ0_length_8abf5_0 1 rfl rfl 0 rfl ?_
  refine g_litv hC hq hi (lw_inT 1407 (by decide +kernel) rfl) dJ0_length_8abf5_1 4 rfl ?_
  refine g_litl hC hq hi dJ0_length_8abf5_4 5 rfl ?_
  refine g_aload_n hC dJ0_length_8abf5_5 6 rfl rfl 0 rfl ?_
  refine g_callL hC hq hi (ct_J0_coder_7d493 l g i bs hq hi  _ h) gY_J0_coder_7d493 dJ0_length_8abf5_6 9 rfl ml_J0_335 [.int (nI bs.length)] rfl rfl rfl rfl ⟨Nat.le_of_ble_eq_true rfl, Nat.le_of_ble_eq_true rfl⟩ (Nat.le_of_ble_eq_true rfl) ⟨Nat.le_refl _, Nat.le_refl _⟩ (fun v1 h => ?_)
  refine g_ishr hC dJ0_length_8abf5_9 10 rfl ?_
  exact g_iret hC hZ dJ0_length_8abf5_10 ⟨_, rfl, rfl, h⟩
def wp_J0_isEmpty_aae02 (post : Int32 → Prop) (bs : List Int32) : Prop := ((¬ (nI bs.length) = 0 → post (0 : Int32)) ∧ ((nI bs.length) = 0 → post (1 : Int32)))
set_option maxRecDepth 100000 in
set_option maxHeartbeats 4000000 in
theorem ct_J0_isEmpty_aae02 (l : Launch) (g : gE) (i : Nat) {ix : Nat} {ow tx : String} (bs : List Int32) (hq : gTx[i]? = some (ow, ix, tx, bs)) (hi : i < 16) (post : Int32 → Prop) (h : wp_J0_isEmpty_aae02 post bs ) : Fn l g yJ0_isEmpty_aae02 cJ0_isEmpty_aae02 1 (some .boolean) 0 0 0 0 [] [.ref (g.2.2.1 i)] (pR [] post) := by
  refine Fn.of (by decide) (Nat.le_of_ble_eq_true rfl) (fun x hC hZ => ?_)
  rw [wp_J0_isEmpty_aae02] at h
  show G x g 1 0 0 [] 0 [(0, .ref (g.2.2.1 i))] []
  refine g_aload_n hC dJ0_isEmpty_aae02_0 1 rfl rfl 0 rfl ?_
  refine g_litv hC hq hi (lw_inT 1407 (by decide +kernel) rfl) dJ0_isEmpty_aae02_1 4 rfl ?_
  refine g_litl hC hq hi dJ0_isEmpty_aae02_4 5 rfl ?_
  refine g_if_ne hC dJ0_isEmpty_aae02_5 12 (by decide) 8 rfl (fun c => ?_) (fun c => ?_)
  · have h := h.1 c
    refine g_iconst hC (0 : Int32) dJ0_isEmpty_aae02_12 13 rfl iconst_0 ?_
    exact g_zret hC hZ rfl dJ0_isEmpty_aae02_13 ⟨_, rfl, rfl, h⟩
  · have h := h.2 c
    refine g_iconst hC (1 : Int32) dJ0_isEmpty_aae02_8 9 rfl iconst_1 ?_
    refine g_goto hC dJ0_isEmpty_aae02_9 13 (by decide) ?_
    exact g_zret hC hZ rfl dJ0_isEmpty_aae02_13 ⟨_, rfl, rfl, h⟩
def wp_J1_canEncode_9a6ad (post : Int32 → Prop) (p0 : Int32) : Prop := ((p0 < 0 → post (0 : Int32)) ∧ (¬ p0 < 0 → (((255 : Int32) < p0 → post (0 : Int32)) ∧ (¬ (255 : Int32) < p0 → post (1 : Int32)))))
set_option maxRecDepth 100000 in
set_option maxHeartbeats 4000000 in
theorem ct_J1_canEncode_9a6ad (l : Launch) (g : gE) (p0 : Int32) (post : Int32 → Prop) (h : wp_J1_canEncode_9a6ad post p0) : Fn l g yJ1_canEncode_9a6ad cJ1_canEncode_9a6ad 1 (some .boolean) 0 0 0 0 [] [.int p0] (pR [] post) := by
  refine Fn.of (by decide) (Nat.le_of_ble_eq_true rfl) (fun x hC hZ => ?_)
  rw [wp_J1_canEncode_9a6ad] at h
  show G x g 1 0 0 [] 0 [(0, .int p0)] []
  refine g_iload_n hC dJ1_canEncode_9a6ad_0 1 rfl rfl 0 rfl ?_
  refine g_if_lt hC dJ1_canEncode_9a6ad_1 15 (by decide) 4 rfl (fun c => ?_) (fun c => ?_)
  · have h := h.1 c
    refine g_iconst hC (0 : Int32) dJ1_canEncode_9a6ad_15 16 rfl iconst_0 ?_
    exact g_zret hC hZ rfl dJ1_canEncode_9a6ad_16 ⟨_, rfl, rfl, h⟩
  · have h := h.2 c
    refine g_iload_n hC dJ1_canEncode_9a6ad_4 5 rfl rfl 0 rfl ?_
    refine g_sipush hC (255 : Int32) dJ1_canEncode_9a6ad_5 8 rfl sipush_255 ?_
    refine g_icmp_gt hC dJ1_canEncode_9a6ad_8 15 (by decide) 11 rfl (fun c => ?_) (fun c => ?_)
    · have h := h.1 c
      refine g_iconst hC (0 : Int32) dJ1_canEncode_9a6ad_15 16 rfl iconst_0 ?_
      exact g_zret hC hZ rfl dJ1_canEncode_9a6ad_16 ⟨_, rfl, rfl, h⟩
    · have h := h.2 c
      refine g_iconst hC (1 : Int32) dJ1_canEncode_9a6ad_11 12 rfl iconst_1 ?_
      refine g_goto hC dJ1_canEncode_9a6ad_12 16 (by decide) ?_
      exact g_zret hC hZ rfl dJ1_canEncode_9a6ad_16 ⟨_, rfl, rfl, h⟩
def wl_J1_indexOfChar_4cfef_7 (post : Int32 → Prop) (bs : List Int32) : Nat → Int32 → Int32 → Int32 → Prop
  | 0, _, _, _ => False
  | n + 1, x3, x4, x5 => ((x3 ≤ x5 → post (-1 : Int32)) ∧ (¬ x3 ≤ x5 → (vp_in x5 bs.length ∧ ((¬ (bs.getD x5.toNatClampNeg 0) = x4 → (∀ v2 : Int32, v2 = x5 + (1 : Int32) → wl_J1_indexOfChar_4cfef_7 post bs n x3 x4 v2)) ∧ ((bs.getD x5.toNatClampNeg 0) = x4 → post x5)))))
def wp_J1_indexOfChar_4cfef (post : Int32 → Prop) (bs : List Int32) (p1 : Int32) (p2 : Int32) (p3 : Int32) : Prop := (∀ v1 : Int32, v1 = ((p1).toInt8.toInt32) → (∃ m : Nat, wl_J1_indexOfChar_4cfef_7 post bs m p3 v1 p2))
set_option maxRecDepth 100000 in
set_option maxHeartbeats 4000000 in
theorem lp_J1_indexOfChar_4cfef_7 {x : gX} {l : Launch} {g : gE} {i ix : Nat} {ow tx : String} {bs : List Int32} (hq : gTx[i]? = some (ow, ix, tx, bs)) (hi : i < 16) {post : Int32 → Prop} (hC : gC x l cJ1_indexOfChar_4cfef 6 RJ1 g 0 0 0 0) (hZ : gZ x g (some .int) [] (pR [] post) 0 0) : ∀ (n : Nat) (x3 : Int32) (x4 : Int32) (x5 : Int32) , wl_J1_indexOfChar_4cfef_7 post bs n x3 x4 x5 → G x g 6 0 0 [] 7 [(0, .ref (g.2.2.2.1 i)), (3, .int x3), (4, .int x4), (5, .int x5)] [] := by
  intro n
  induction n with
  | zero =>
    intro x3 x4 x5 h
    exact h.elim
  | succ n ih =>
    intro x3 x4 x5 h
    rw [wl_J1_indexOfChar_4cfef_7] at h
    refine g_iload hC dJ1_indexOfChar_4cfef_7 9 rfl 3 rfl ?_
    refine g_iload_n hC dJ1_indexOfChar_4cfef_9 10 rfl rfl 1 rfl ?_
    refine g_icmp_ge hC dJ1_indexOfChar_4cfef_10 31 (by decide) 13 rfl (fun c => ?_) (fun c => ?_)
    · have h := h.1 c
      refine g_iconst hC (-1 : Int32) dJ1_indexOfChar_4cfef_31 32 rfl iconst_m1 ?_
      exact g_iret hC hZ dJ1_indexOfChar_4cfef_32 ⟨_, rfl, rfl, h⟩
    · have h := h.2 c
      refine g_aload_n hC dJ1_indexOfChar_4cfef_13 14 rfl rfl 0 rfl ?_
      refine g_iload hC dJ1_indexOfChar_4cfef_14 16 rfl 3 rfl ?_
      obtain ⟨hv, h⟩ := h
      refine g_litb hC hq hi dJ1_indexOfChar_4cfef_16 17 rfl hv ?_
      refine g_iload hC dJ1_indexOfChar_4cfef_17 19 rfl 2 rfl ?_
      refine g_icmp_ne hC dJ1_indexOfChar_4cfef_19 25 (by decide) 22 rfl (fun c => ?_) (fun c => ?_)
      · have h := h.1 c
        obtain ⟨v2, ev2⟩ : ∃ y : Int32, y = x5 + (1 : Int32) := ⟨_, rfl⟩
        have h := h v2 ev2
        refine g_iinc (v2 := v2) (lv2 := [(5, .int v2), (0, .ref (g.2.2.2.1 i)), (3, .int x3), (4, .int x4)]) hC dJ1_indexOfChar_4cfef_25 28 rfl 3 rfl (by rw [iconst_1, ev2]) (by decide) rfl ?_
        refine g_goto hC dJ1_indexOfChar_4cfef_28 7 (by decide) ?_
        refine g_lv (lv2 := [(0, .ref (g.2.2.2.1 i)), (3, .int x3), (4, .int x4), (5, .int v2)]) [1, 2, 3, 0] rfl ?_
        exact ih x3 x4 v2 h
      · have h := h.2 c
        refine g_iload hC dJ1_indexOfChar_4cfef_22 24 rfl 3 rfl ?_
        exact g_iret hC hZ dJ1_indexOfChar_4cfef_24 ⟨_, rfl, rfl, h⟩
set_option maxRecDepth 100000 in
set_option maxHeartbeats 4000000 in
theorem ct_J1_indexOfChar_4cfef (l : Launch) (g : gE) (i : Nat) {ix : Nat} {ow tx : String} (bs : List Int32) (hq : gTx[i]? = some (ow, ix, tx, bs)) (hi : i < 16) (p1 : Int32) (p2 : Int32) (p3 : Int32) (post : Int32 → Prop) (h : wp_J1_indexOfChar_4cfef post bs p1 p2 p3) : Fn l g yJ1_indexOfChar_4cfef cJ1_indexOfChar_4cfef 6 (some .int) 0 0 0 0 [] [.ref (g.2.2.2.1 i), .int p1, .int p2, .int p3] (pR [] post) := by
  refine Fn.of (by decide) (Nat.le_of_ble_eq_true rfl) (fun x hC hZ => ?_)
  rw [wp_J1_indexOfChar_4cfef] at h
  show G x g 6 0 0 [] 0 [(0, .ref (g.2.2.2.1 i)), (1, .int p1), (2, .int p2), (3, .int p3)] []
  refine g_iload_n hC dJ1_indexOfChar_4cfef_0 1 rfl rfl 1 rfl ?_
  refine g_i2b hC dJ1_indexOfChar_4cfef_1 2 rfl ?_
  refine g_topi (fun v1 ev1 => ?_)
  have h := h v1 ev1
  refine g_istore (lv2 := [(4, .int v1), (0, .ref (g.2.2.2.1 i)), (1, .int p1), (2, .int p2), (3, .int p3)]) hC dJ1_indexOfChar_4cfef_2 4 rfl (by decide) rfl ?_
  refine g_iload_n hC dJ1_indexOfChar_4cfef_4 5 rfl rfl 3 rfl ?_
  refine g_istore (lv2 := [(5, .int p2), (4, .int v1), (0, .ref (g.2.2.2.1 i)), (1, .int p1), (2, .int p2), (3, .int p3)]) hC dJ1_indexOfChar_4cfef_5 7 rfl (by decide) rfl ?_
  refine g_lv (lv2 := [(0, .ref (g.2.2.2.1 i)), (3, .int p3), (4, .int v1), (5, .int p2)]) [2, 5, 1, 0] rfl ?_
  obtain ⟨m, h⟩ := h
  exact lp_J1_indexOfChar_4cfef_7 hq hi hC hZ m p3 v1 p2 h
def wp_J1_indexOf_4cfef (post : Int32 → Prop) (bs : List Int32) (p1 : Int32) (p2 : Int32) (p3 : Int32) : Prop := wp_J1_canEncode_9a6ad (fun v1 => ((¬ v1 = 0 → (∀ v2 : Int32, v2 = (if p2 < (0 : Int32) then (0 : Int32) else p2) → (∀ v3 : Int32, v3 = (if (nI bs.length) < p3 then (nI bs.length) else p3) → ((v2 < v3 → wp_J1_indexOfChar_4cfef (fun v4 => post v4) bs p1 v2 v3) ∧ (¬ v2 < v3 → post (-1 : Int32)))))) ∧ (v1 = 0 → post (-1 : Int32)))) p1
set_option maxRecDepth 100000 in
set_option maxHeartbeats 4000000 in
theorem ct_J1_indexOf_4cfef (l : Launch) (g : gE) (i : Nat) {ix : Nat} {ow tx : String} (bs : List Int32) (hq : gTx[i]? = some (ow, ix, tx, bs)) (hi : i < 16) (p1 : Int32) (p2 : Int32) (p3 : Int32) (post : Int32 → Prop) (h : wp_J1_indexOf_4cfef post bs p1 p2 p3) : Fn l g yJ1_indexOf_4cfef cJ1_indexOf_4cfef 4 (some .int) 1 25 0 0 [] [.ref (g.2.2.2.1 i), .int p1, .int p2, .int p3] (pR [] post) := by
  refine Fn.of (by decide) (Nat.le_of_ble_eq_true rfl) (fun x hC hZ => ?_)
  rw [wp_J1_indexOf_4cfef] at h
  show G x g 4 0 0 [] 0 [(0, .ref (g.2.2.2.1 i)), (1, .int p1), (2, .int p2), (3, .int p3)] []
  refine g_iload_n hC dJ1_indexOf_4cfef_0 1 rfl rfl 1 rfl ?_
  refine g_readS hC (ct_J1_canEncode_9a6ad l g p1 _ h) gY_J1_canEncode_9a6ad dJ1_indexOf_4cfef_1 4 rfl ml_J1_88 [] _ rfl [] rfl rfl ⟨Nat.le_of_ble_eq_true rfl, Nat.le_of_ble_eq_true rfl⟩ (Nat.le_of_ble_eq_true rfl) ⟨Nat.le_refl _, Nat.le_refl _⟩ (fun v1 h => ?_)
  refine g_if_ne hC dJ1_indexOf_4cfef_4 9 (by decide) 7 rfl (fun c => ?_) (fun c => ?_)
  · have h := h.1 c
    refine g_iload_n hC dJ1_indexOf_4cfef_9 10 rfl rfl 2 rfl ?_
    refine g_iconst hC (0 : Int32) dJ1_indexOf_4cfef_10 11 rfl iconst_0 ?_
    refine g_mmax hC dJ1_indexOf_4cfef_11 14 rfl mth_J1_92 mth_max.1 mth_max.2.1 mth_max.2.2 ⟨Nat.le_of_ble_eq_true rfl, Nat.le_of_ble_eq_true rfl, Nat.le_refl _, Nat.le_refl _⟩ (Nat.le_of_ble_eq_true rfl) ?_
    refine g_topi (fun v2 ev2 => ?_)
    have h := h v2 ev2
    refine g_istore_n (lv2 := [(2, .int v2), (0, .ref (g.2.2.2.1 i)), (1, .int p1), (3, .int p3)]) hC dJ1_indexOf_4cfef_14 15 rfl rfl (by decide) rfl ?_
    refine g_iload_n hC dJ1_indexOf_4cfef_15 16 rfl rfl 3 rfl ?_
    refine g_aload_n hC dJ1_indexOf_4cfef_16 17 rfl rfl 1 rfl ?_
    refine g_litl hC hq hi dJ1_indexOf_4cfef_17 18 rfl ?_
    refine g_mmin hC dJ1_indexOf_4cfef_18 21 rfl mth_J1_38 mth_min.1 mth_min.2.1 mth_min.2.2 ⟨Nat.le_of_ble_eq_true rfl, Nat.le_of_ble_eq_true rfl, Nat.le_refl _, Nat.le_refl _⟩ (Nat.le_of_ble_eq_true rfl) ?_
    refine g_topi (fun v3 ev3 => ?_)
    have h := h v3 ev3
    refine g_istore_n (lv2 := [(3, .int v3), (2, .int v2), (0, .ref (g.2.2.2.1 i)), (1, .int p1)]) hC dJ1_indexOf_4cfef_21 22 rfl rfl (by decide) rfl ?_
    refine g_iload_n hC dJ1_indexOf_4cfef_22 23 rfl rfl 1 rfl ?_
    refine g_iload_n hC dJ1_indexOf_4cfef_23 24 rfl rfl 0 rfl ?_
    refine g_icmp_lt hC dJ1_indexOf_4cfef_24 29 (by decide) 27 rfl (fun c => ?_) (fun c => ?_)
    · have h := h.1 c
      refine g_aload_n hC dJ1_indexOf_4cfef_29 30 rfl rfl 2 rfl ?_
      refine g_iload_n hC dJ1_indexOf_4cfef_30 31 rfl rfl 3 rfl ?_
      refine g_iload_n hC dJ1_indexOf_4cfef_31 32 rfl rfl 1 rfl ?_
      refine g_iload_n hC dJ1_indexOf_4cfef_32 33 rfl rfl 0 rfl ?_
      refine g_readS hC (ct_J1_indexOfChar_4cfef l g i bs hq hi p1 v2 v3 _ h) gY_J1_indexOfChar_4cfef dJ1_indexOf_4cfef_33 36 rfl ml_J1_95 [] _ rfl [] rfl rfl ⟨Nat.le_of_ble_eq_true rfl, Nat.le_of_ble_eq_true rfl⟩ (Nat.le_of_ble_eq_true rfl) ⟨Nat.le_refl _, Nat.le_refl _⟩ (fun v4 h => ?_)
      exact g_iret hC hZ dJ1_indexOf_4cfef_36 ⟨_, rfl, rfl, h⟩
    · have h := h.2 c
      refine g_iconst hC (-1 : Int32) dJ1_indexOf_4cfef_27 28 rfl iconst_m1 ?_
      exact g_iret hC hZ dJ1_indexOf_4cfef_28 ⟨_, rfl, rfl, h⟩
  · have h := h.2 c
    refine g_iconst hC (-1 : Int32) dJ1_indexOf_4cfef_7 8 rfl iconst_m1 ?_
    exact g_iret hC hZ dJ1_indexOf_4cfef_8 ⟨_, rfl, rfl, h⟩
def wp_J0_indexOf_7cf53 (post : Int32 → Prop) (bs : List Int32) (p0 : Int32) (p1 : Int32) : Prop := wp_J0_isLatin1_aae02 (fun v1 => ((v1 = 0 → False) ∧ (¬ v1 = 0 → wp_J0_length_8abf5 (fun v3 => wp_J1_indexOf_4cfef (fun v4 => post v4) bs p0 p1 v3) bs ))) bs 
set_option maxRecDepth 100000 in
set_option maxHeartbeats 4000000 in
theorem ct_J0_indexOf_7cf53 (l : Launch) (g : gE) (i : Nat) {ix : Nat} {ow tx : String} (bs : List Int32) (hq : gTx[i]? = some (ow, ix, tx, bs)) (hi : i < 16) (p0 : Int32) (p1 : Int32) (post : Int32 → Prop) (h : wp_J0_indexOf_7cf53 post bs p0 p1) : Fn l g yJ0_indexOf_7cf53 cJ0_indexOf_7cf53 3 (some .int) 2 48 0 0 [] [.ref (g.2.2.1 i), .int p0, .int p1] (pR [] post) := by
  refine Fn.of (by decide) (Nat.le_of_ble_eq_true rfl) (fun x hC hZ => ?_)
  rw [wp_J0_indexOf_7cf53] at h
  show G x g 3 0 0 [] 0 [(0, .ref (g.2.2.1 i)), (1, .int p0), (2, .int p1)] []
  refine g_aload_n hC dJ0_indexOf_7cf53_0 1 rfl rfl 0 rfl ?_
  refine g_callL hC hq hi (ct_J0_isLatin1_aae02 l g i bs hq hi  _ h) gY_J0_isLatin1_aae02 dJ0_indexOf_7cf53_1 4 rfl ml_J0_492 [] rfl rfl rfl rfl ⟨Nat.le_of_ble_eq_true rfl, Nat.le_of_ble_eq_true rfl⟩ (Nat.le_of_ble_eq_true rfl) ⟨Nat.le_refl _, Nat.le_refl _⟩ (fun v1 h => ?_)
  refine g_if_eq hC dJ0_indexOf_7cf53_4 23 (by decide) 7 rfl (fun c => ?_) (fun c => ?_)
  · have h := h.1 c
    exact h.elim
  · have h := h.2 c
    refine g_aload_n hC dJ0_indexOf_7cf53_7 8 rfl rfl 0 rfl ?_
    refine g_litv hC hq hi (lw_inT 1407 (by decide +kernel) rfl) dJ0_indexOf_7cf53_8 11 rfl ?_
    refine g_iload_n hC dJ0_indexOf_7cf53_11 12 rfl rfl 1 rfl ?_
    refine g_iload_n hC dJ0_indexOf_7cf53_12 13 rfl rfl 2 rfl ?_
    refine g_aload_n hC dJ0_indexOf_7cf53_13 14 rfl rfl 0 rfl ?_
    refine g_callL hC hq hi (ct_J0_length_8abf5 l g i bs hq hi  _ h) gY_J0_length_8abf5 dJ0_indexOf_7cf53_14 17 rfl ml_J0_505 [.int p1, .int p0, .ref (g.2.2.2.1 i)] rfl rfl rfl rfl ⟨Nat.le_of_ble_eq_true rfl, Nat.le_of_ble_eq_true rfl⟩ (Nat.le_of_ble_eq_true rfl) ⟨Nat.le_refl _, Nat.le_refl _⟩ (fun v3 h => ?_)
    refine g_readS hC (ct_J1_indexOf_4cfef l g i bs hq hi p0 p1 v3 _ h) gY_J1_indexOf_4cfef dJ0_indexOf_7cf53_17 20 rfl ml_J0_637 [] _ rfl [] rfl rfl ⟨Nat.le_of_ble_eq_true rfl, Nat.le_of_ble_eq_true rfl⟩ (Nat.le_of_ble_eq_true rfl) ⟨Nat.le_refl _, Nat.le_refl _⟩ (fun v4 h => ?_)
    refine g_goto hC dJ0_indexOf_7cf53_20 36 (by decide) ?_
    exact g_iret hC hZ dJ0_indexOf_7cf53_36 ⟨_, rfl, rfl, h⟩
def wp_J0_indexOf_0f7a4 (post : Int32 → Prop) (bs : List Int32) (p0 : Int32) : Prop := wp_J0_indexOf_7cf53 (fun v1 => post v1) bs p0 (0 : Int32)
set_option maxRecDepth 100000 in
set_option maxHeartbeats 4000000 in
theorem ct_J0_indexOf_0f7a4 (l : Launch) (g : gE) (i : Nat) {ix : Nat} {ow tx : String} (bs : List Int32) (hq : gTx[i]? = some (ow, ix, tx, bs)) (hi : i < 16) (p0 : Int32) (post : Int32 → Prop) (h : wp_J0_indexOf_0f7a4 post bs p0) : Fn l g yJ0_indexOf_0f7a4 cJ0_indexOf_0f7a4 2 (some .int) 3 70 0 0 [] [.ref (g.2.2.1 i), .int p0] (pR [] post) := by
  refine Fn.of (by decide) (Nat.le_of_ble_eq_true rfl) (fun x hC hZ => ?_)
  rw [wp_J0_indexOf_0f7a4] at h
  show G x g 2 0 0 [] 0 [(0, .ref (g.2.2.1 i)), (1, .int p0)] []
  refine g_aload_n hC dJ0_indexOf_0f7a4_0 1 rfl rfl 0 rfl ?_
  refine g_iload_n hC dJ0_indexOf_0f7a4_1 2 rfl rfl 1 rfl ?_
  refine g_iconst hC (0 : Int32) dJ0_indexOf_0f7a4_2 3 rfl iconst_0 ?_
  refine g_callL hC hq hi (ct_J0_indexOf_7cf53 l g i bs hq hi p0 (0 : Int32) _ h) gY_J0_indexOf_7cf53 dJ0_indexOf_0f7a4_3 6 rfl ml_J0_633 [] rfl rfl rfl rfl ⟨Nat.le_of_ble_eq_true rfl, Nat.le_of_ble_eq_true rfl⟩ (Nat.le_of_ble_eq_true rfl) ⟨Nat.le_refl _, Nat.le_refl _⟩ (fun v1 h => ?_)
  exact g_iret hC hZ dJ0_indexOf_0f7a4_6 ⟨_, rfl, rfl, h⟩
def wp_J1_charAt_3b067 (post : Int32 → Prop) (bs : List Int32) (p1 : Int32) : Prop := (¬ p1 < 0 ∧ p1 < (nI bs.length) ∧ (vp_in p1 bs.length ∧ (isC (((((bs.getD p1.toNatClampNeg 0) &&& (255 : Int32))).toUInt32 % 65536).toInt32) ∧ post (((((bs.getD p1.toNatClampNeg 0) &&& (255 : Int32))).toUInt32 % 65536).toInt32))))
set_option maxRecDepth 100000 in
set_option maxHeartbeats 4000000 in
theorem ct_J1_charAt_3b067 (l : Launch) (g : gE) (i : Nat) {ix : Nat} {ow tx : String} (bs : List Int32) (hq : gTx[i]? = some (ow, ix, tx, bs)) (hi : i < 16) (p1 : Int32) (post : Int32 → Prop) (h : wp_J1_charAt_3b067 post bs p1) : Fn l g yJ1_charAt_3b067 cJ1_charAt_3b067 2 (some .char) 2 43 0 0 [] [.ref (g.2.2.2.1 i), .int p1] (pR [] post) := by
  refine Fn.of (by decide) (Nat.le_of_ble_eq_true rfl) (fun x hC hZ => ?_)
  rw [wp_J1_charAt_3b067] at h
  show G x g 2 0 0 [] 0 [(0, .ref (g.2.2.2.1 i)), (1, .int p1)] []
  refine g_iload_n hC dJ1_charAt_3b067_0 1 rfl rfl 1 rfl ?_
  refine g_aload_n hC dJ1_charAt_3b067_1 2 rfl rfl 0 rfl ?_
  refine g_litl hC hq hi dJ1_charAt_3b067_2 3 rfl ?_
  obtain ⟨h8, h9, h⟩ := h
  refine g_nopS hC (ct_J0_checkIndex l g p1 (nI bs.length) h8 h9) gY_J0_checkIndex_df160 dJ1_charAt_3b067_3 6 rfl ml_J1_9 [] rfl rfl ⟨Nat.le_of_ble_eq_true rfl, Nat.le_of_ble_eq_true rfl⟩ (Nat.le_of_ble_eq_true rfl) ⟨Nat.le_refl _, Nat.le_refl _⟩ ?_
  refine g_aload_n hC dJ1_charAt_3b067_6 7 rfl rfl 0 rfl ?_
  refine g_iload_n hC dJ1_charAt_3b067_7 8 rfl rfl 1 rfl ?_
  obtain ⟨hv, h⟩ := h
  refine g_litb hC hq hi dJ1_charAt_3b067_8 9 rfl hv ?_
  refine g_sipush hC (255 : Int32) dJ1_charAt_3b067_9 12 rfl sipush_255 ?_
  refine g_iand hC dJ1_charAt_3b067_12 13 rfl ?_
  refine g_i2c hC dJ1_charAt_3b067_13 14 rfl ?_
  obtain ⟨hb, h⟩ := h
  exact g_zret hC hZ (hb) dJ1_charAt_3b067_14 ⟨_, rfl, rfl, h⟩
def wp_J0_charAt_5068e (post : Int32 → Prop) (bs : List Int32) (p0 : Int32) : Prop := wp_J0_isLatin1_aae02 (fun v1 => ((v1 = 0 → False) ∧ (¬ v1 = 0 → wp_J1_charAt_3b067 (fun v2 => (isC v2 ∧ post v2)) bs p0))) bs 
set_option maxRecDepth 100000 in
set_option maxHeartbeats 4000000 in
theorem ct_J0_charAt_5068e (l : Launch) (g : gE) (i : Nat) {ix : Nat} {ow tx : String} (bs : List Int32) (hq : gTx[i]? = some (ow, ix, tx, bs)) (hi : i < 16) (p0 : Int32) (post : Int32 → Prop) (h : wp_J0_charAt_5068e post bs p0) : Fn l g yJ0_charAt_5068e cJ0_charAt_5068e 2 (some .char) 3 64 0 0 [] [.ref (g.2.2.1 i), .int p0] (pR [] post) := by
  refine Fn.of (by decide) (Nat.le_of_ble_eq_true rfl) (fun x hC hZ => ?_)
  rw [wp_J0_charAt_5068e] at h
  show G x g 2 0 0 [] 0 [(0, .ref (g.2.2.1 i)), (1, .int p0)] []
  refine g_aload_n hC dJ0_charAt_5068e_0 1 rfl rfl 0 rfl ?_
  refine g_callL hC hq hi (ct_J0_isLatin1_aae02 l g i bs hq hi  _ h) gY_J0_isLatin1_aae02 dJ0_charAt_5068e_1 4 rfl ml_J0_492 [] rfl rfl rfl rfl ⟨Nat.le_of_ble_eq_true rfl, Nat.le_of_ble_eq_true rfl⟩ (Nat.le_of_ble_eq_true rfl) ⟨Nat.le_refl _, Nat.le_refl _⟩ (fun v1 h => ?_)
  refine g_if_eq hC dJ0_charAt_5068e_4 16 (by decide) 7 rfl (fun c => ?_) (fun c => ?_)
  · have h := h.1 c
    exact h.elim
  · have h := h.2 c
    refine g_aload_n hC dJ0_charAt_5068e_7 8 rfl rfl 0 rfl ?_
    refine g_litv hC hq hi (lw_inT 1407 (by decide +kernel) rfl) dJ0_charAt_5068e_8 11 rfl ?_
    refine g_iload_n hC dJ0_charAt_5068e_11 12 rfl rfl 1 rfl ?_
    refine g_readS hC (ct_J1_charAt_3b067 l g i bs hq hi p0 _ h) gY_J1_charAt_3b067 dJ0_charAt_5068e_12 15 rfl ml_J0_495 [] _ rfl [] rfl rfl ⟨Nat.le_of_ble_eq_true rfl, Nat.le_of_ble_eq_true rfl⟩ (Nat.le_of_ble_eq_true rfl) ⟨Nat.le_refl _, Nat.le_refl _⟩ (fun v2 h => ?_)
    obtain ⟨hb, h⟩ := h
    exact g_zret hC hZ (hb) dJ0_charAt_5068e_15 ⟨_, rfl, rfl, h⟩
