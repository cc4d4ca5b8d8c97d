/-! ===== the law's loop, its start, its end ===== -/
theorem law_cmp {L j : Nat} (hL : L ≤ 2048) (hj : 4 * j ≤ L + 3) : (Int32.ofNat L - 4 < nI (4 * j)) ↔ L < 4 * j + 4 := by
  rw [Int32.lt_iff_toInt_lt, nI_toInt (by omega), Int32.toInt_sub, show (Int32.ofNat L).toInt = (L : Int) from nI_toInt (by omega), show (4 : Int32).toInt = 4 from rfl]
  rw [Int.bmod_eq_of_le (by omega) (by omega)]
  omega
set_option maxRecDepth 100000 in
set_option maxHeartbeats 4000000 in
theorem law_loop {x : gX} {l : Launch} {g : gE} {A : Nat → Nat → Nat} {a : Nat → Nat} {v u b L : Nat} {xs : Nat → Int32} (hC : gC x l cL_law 9 RL g 2048 94400 603072 7207018) (hNw : gNw (x_s x)) (hst : l.stackTraces = false) (hS : gScr x b L xs) (hL : L ≤ 2048)
    (hE : ∀ (k n : Nat) (ws : va_W) (lv : List (Nat × Value)), k ≤ 603072 → n ≤ 7207018 → G x g 9 k n ws 3597 lv [.int 1])
    (Inv : Nat → lwK) (hstep : ∀ (j : Nat) (E M : Off) (z : Nat → Int64) (zd : Nat → UInt64), 4 * j + 4 ≤ L → Inv j E M z zd → ∀ op a1 a2 a3 : Int32, stepW (Inv (j + 1)) E M z zd op a1 a2 a3) :
    ∀ (r j : Nat) (E M : Off) (z : Nat → Int64) (zd : Nat → UInt64), 4 * j ≤ L + 3 → L < 4 * (j + r) + 4 → Inv j E M z zd → G x g 9 (154 + 8 * j) (4159 + 48 * j) (lawW g A a v u E M z zd) 28 [(0, .ref b), (1, .ref (A 0 0)), (2, .ref (a 0)), (3, .ref u), (4, .ref v), (5, .int (nI (4 * j)))] [] := by
  intro r
  induction r with
  | zero =>
    intro j E M z zd hj hr hI
    refine g_iload hC dL_law_28 30 rfl 5 rfl ?_
    refine g_aload_n hC dL_law_30 31 rfl rfl 0 rfl ?_
    refine g_slen hC hS dL_law_31 32 rfl ?_
    refine g_iconst hC (4 : Int32) dL_law_32 33 rfl iconst_4 ?_
    refine g_isub hC dL_law_33 34 rfl ?_
    refine g_icmp_gt hC dL_law_34 3596 (by decide) 37 rfl (fun c => ?_) (fun c => absurd ((law_cmp hL hj).mpr (by omega)) c)
    refine g_iconst hC (1 : Int32) dL_law_3596 3597 rfl iconst_1 ?_
    exact hE _ _ _ _ (by omega) (by omega)
  | succ r ih =>
    intro j E M z zd hj hr hI
    refine g_iload hC dL_law_28 30 rfl 5 rfl ?_
    refine g_aload_n hC dL_law_30 31 rfl rfl 0 rfl ?_
    refine g_slen hC hS dL_law_31 32 rfl ?_
    refine g_iconst hC (4 : Int32) dL_law_32 33 rfl iconst_4 ?_
    refine g_isub hC dL_law_33 34 rfl ?_
    refine g_icmp_gt hC dL_law_34 3596 (by decide) 37 rfl (fun c => ?_) (fun c => ?_)
    · refine g_iconst hC (1 : Int32) dL_law_3596 3597 rfl iconst_1 ?_
      exact hE _ _ _ _ (by omega) (by omega)
    · have h4 : 4 * j + 4 ≤ L := Nat.not_lt.mp fun q => c ((law_cmp hL hj).mpr q)
      have e1 : nI (4 * j) + 1 = nI (4 * j + 1) := nI_add _ 1
      have e2 : nI (4 * j) + 2 = nI (4 * j + 2) := nI_add _ 2
      have e3 : nI (4 * j) + 3 = nI (4 * j + 3) := nI_add _ 3
      have e4 : nI (4 * j) + Int32.ofInt 4 = nI (4 * (j + 1)) := nI_add _ 4
      refine g_aload_n hC dL_law_37 38 rfl rfl 0 rfl ?_
      refine g_iload hC dL_law_38 40 rfl 5 rfl ?_
      refine g_sld hC hS dL_law_40 41 rfl (nI_in (by omega) (by omega)) ?_
      refine g_bipush hC (63 : Int32) dL_law_41 43 rfl bipush_63 ?_
      refine g_iand hC dL_law_43 44 rfl ?_
      refine cs_sw hC hNw hst hS (K := Inv (j + 1)) (i := nI (4 * j)) (by rw [e1]; exact nI_in (by omega) (by omega)) (by rw [e2]; exact nI_in (by omega) (by omega)) (by rw [e3]; exact nI_in (by omega) (by omega)) (by omega) (by omega) ?_ (hstep j E M z zd h4 hI _ _ _ _)
      intro E1 M1 z1 zd1 hI1
      refine g_iinc (v2 := nI (4 * (j + 1))) (lv2 := [(5, .int (nI (4 * (j + 1)))), (0, .ref b), (1, .ref (A 0 0)), (2, .ref (a 0)), (3, .ref u), (4, .ref v)]) hC dL_law_3590 3593 rfl 5 rfl e4 (by decide) rfl ?_
      refine g_goto hC dL_law_3593 28 (by decide) ?_
      refine g_lv (lv2 := [(0, .ref b), (1, .ref (A 0 0)), (2, .ref (a 0)), (3, .ref u), (4, .ref v), (5, .int (nI (4 * (j + 1))))]) [1, 2, 3, 4, 5, 0] rfl ?_
      exact ih (j + 1) E1 M1 z1 zd1 (by omega) (by omega) hI1
set_option maxRecDepth 100000 in
set_option maxHeartbeats 4000000 in
theorem law_walk {x : gX} {l : Launch} {g : gE} {b L : Nat} {xs : Nat → Int32} (hC : gC x l cL_law 9 RL g 2048 94400 603072 7207018) (hNw : gNw (x_s x)) (hst : l.stackTraces = false) (hS : gScr x b L xs) (hL : L ≤ 2048)
    (hE : ∀ (k n : Nat) (ws : va_W) (lv : List (Nat × Value)), k ≤ 603072 → n ≤ 7207018 → G x g 9 k n ws 3597 lv [.int 1])
    (Inv : Nat → lwK) (h0 : Inv 0 emb0 mod0 (fun _ => 0) (fun _ => 0)) (hstep : ∀ (j : Nat) (E M : Off) (z : Nat → Int64) (zd : Nat → UInt64), 4 * j + 4 ≤ L → Inv j E M z zd → ∀ op a1 a2 a3 : Int32, stepW (Inv (j + 1)) E M z zd op a1 a2 a3) :
    G x g 9 0 0 [] 0 [(0, .ref b)] [] := by
  refine g_new hC (C := RX4) (ci := 8) (T := TX4) (N := 10) rfl tyX4 tyX4_ok uw_X4 cl_L_8 (lw_inT 32 (by decide +kernel) rfl) (lw_inT 1 (by decide +kernel) rfl) (fs := [.null, .null, .null, .null, .null, .null, .int 0, .int 0, .int 0, .int 0]) (by decide +kernel) ⟨Nat.le_of_ble_eq_true rfl, Nat.le_of_ble_eq_true rfl⟩ dL_law_0 3 rfl (fun q => ?_)
  refine g_dup hC dL_law_3 4 rfl rfl ?_
  refine g_callIW hC hNw (ct_X4_init l g q) gY_X4_init dL_law_4 7 rfl ml_L_193 [] [] rfl [.ref q] rfl rfl rfl ⟨Nat.le_of_ble_eq_true rfl, Nat.le_of_ble_eq_true rfl⟩ (Nat.le_of_ble_eq_true rfl) ⟨Nat.le_of_ble_eq_true rfl, Nat.le_of_ble_eq_true rfl⟩ ?_
  rintro r w1 ⟨A, rfl, rfl, rfl⟩
  refine g_ws (ws2 := embW g A emb0) (by rw [List.nil_append, List.append_nil]) ?_
  refine g_astore_n (lv2 := [(1, .ref (A 0 0)), (0, .ref b)]) hC dL_law_7 8 rfl rfl (by decide) rfl ?_
  refine g_new hC (C := RX5) (ci := 9) (T := TX5) (N := 24) rfl tyX5 tyX5_ok uw_X5 cl_L_194 (lw_inT 1665 (by decide +kernel) rfl) (lw_inT 10 (by decide +kernel) rfl) (fs := [.null, .null, .null, .null, .null, .int 0, .int 0, .int 0, .int 0, .int 0, .int 0, .int 0, .int 0, .int 0, .null, .int 0, .null, .null, .null, .int 0, .int 0, .int 0, .int 0, .int 0]) (by decide +kernel) ⟨Nat.le_of_ble_eq_true rfl, Nat.le_of_ble_eq_true rfl⟩ dL_law_8 11 rfl (fun q => ?_)
  refine g_dup hC dL_law_11 12 rfl rfl ?_
  refine g_callI hC (ct_X5_init l g q) gY_X5_init dL_law_12 15 rfl ml_L_196 (embW g A emb0) [] rfl [.ref q] rfl rfl rfl ⟨Nat.le_of_ble_eq_true rfl, Nat.le_of_ble_eq_true rfl⟩ (Nat.le_of_ble_eq_true rfl) ⟨Nat.le_of_ble_eq_true rfl, Nat.le_of_ble_eq_true rfl⟩ ?_
  rintro r w1 ⟨a, rfl, rfl, rfl⟩
  refine g_ws (ws2 := embW g A emb0 ++ modW g a mod0) (by rw [List.append_nil]) ?_
  refine g_astore_n (lv2 := [(2, .ref (a 0)), (1, .ref (A 0 0)), (0, .ref b)]) hC dL_law_15 16 rfl rfl (by decide) rfl ?_
  refine g_iconst hC (1 : Int32) dL_law_16 17 rfl iconst_1 ?_
  refine g_newa hC 4 (ty := .long) rfl rfl (lw_inT 2288 (by decide +kernel) rfl) 1 (a0 := (1, .inr (.inl (fun _ => 0)))) (fun _ => rfl) (by decide) (by decide) (Nat.le_of_ble_eq_true rfl) ⟨Nat.le_of_ble_eq_true rfl, Nat.le_of_ble_eq_true rfl⟩ dL_law_17 19 rfl (fun u => ?_)
  refine g_astore_n (lv2 := [(3, .ref u), (2, .ref (a 0)), (1, .ref (A 0 0)), (0, .ref b)]) hC dL_law_19 20 rfl rfl (by decide) rfl ?_
  refine g_iconst hC (1 : Int32) dL_law_20 21 rfl iconst_1 ?_
  refine g_newa hC 5 (ty := .double) rfl rfl (lw_inT 2289 (by decide +kernel) rfl) 1 (a0 := (1, .inr (.inr (.inr (.inl (fun _ => 0)))))) (fun _ => rfl) (by decide) (by decide) (Nat.le_of_ble_eq_true rfl) ⟨Nat.le_of_ble_eq_true rfl, Nat.le_of_ble_eq_true rfl⟩ dL_law_21 23 rfl (fun v => ?_)
  refine g_astore (lv2 := [(4, .ref v), (3, .ref u), (2, .ref (a 0)), (1, .ref (A 0 0)), (0, .ref b)]) hC dL_law_23 25 rfl (by decide) rfl ?_
  refine g_iconst hC (0 : Int32) dL_law_25 26 rfl iconst_0 ?_
  refine g_istore (lv2 := [(5, .int (0 : Int32)), (4, .ref v), (3, .ref u), (2, .ref (a 0)), (1, .ref (A 0 0)), (0, .ref b)]) hC dL_law_26 28 rfl (by decide) rfl ?_
  refine g_lv (lv2 := [(0, .ref b), (1, .ref (A 0 0)), (2, .ref (a 0)), (3, .ref u), (4, .ref v), (5, .int (nI (4 * 0)))]) [5, 4, 3, 2, 1, 0] rfl ?_
  have p1 : (((embW g A emb0 ++ modW g a mod0) ++ ([(u, .inl (g.2.1 4, 1, .inr (.inl (fun _ => 0))))] : va_W)) ++ ([(v, .inl (g.2.1 5, 1, .inr (.inr (.inr (.inl (fun _ => 0))))))] : va_W)).Perm (lawW g A a v u emb0 mod0 (fun _ => 0) (fun _ => 0)) := by
    have s1 : (((embW g A emb0 ++ modW g a mod0) ++ ([(u, .inl (g.2.1 4, 1, .inr (.inl (fun _ => 0))))] : va_W)) ++ ([(v, .inl (g.2.1 5, 1, .inr (.inr (.inr (.inl (fun _ => 0))))))] : va_W)) = embW g A emb0 ++ (modW g a mod0 ++ ([(u, .inl (g.2.1 4, 1, .inr (.inl (fun _ => 0)))), (v, .inl (g.2.1 5, 1, .inr (.inr (.inr (.inl (fun _ => 0))))))] : va_W)) := by
      rw [List.append_assoc, List.append_assoc]; rfl
    rw [s1]
    refine (List.perm_append_comm_assoc _ _ _).trans (List.Perm.append_left _ ?_)
    refine List.perm_append_comm.trans ?_
    exact List.Perm.swap _ _ _
  refine g_perm p1 ?_
  refine g_widen (k2 := 154 + 8 * 0) (n2 := 4159 + 48 * 0) (Nat.le_of_ble_eq_true rfl) (Nat.le_of_ble_eq_true rfl) ?_
  exact law_loop hC hNw hst hS hL hE Inv hstep 512 0 emb0 mod0 _ _ (by omega) (by omega) h0
