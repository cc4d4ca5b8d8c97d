/-! ===== the law's own method: a case a lemma, then its loop ===== -/
def lawW (g : gE) (A : Nat → Nat → Nat) (a : Nat → Nat) (v u : Nat) (E M : Off) (z : Nat → Int64) (zd : Nat → UInt64) : va_W := modW g a M ++ dutW g A v u z E zd
def gScr (x : gX) (b L : Nat) (xs : Nat → Int32) : Prop := va_X b L xs (x_s x) (x_s x).heap ∧ b < (x_s x).heap.size ∧ ¬ x_A x b
abbrev lwK : Type := Off → Off → (Nat → Int64) → (Nat → UInt64) → Prop
theorem law_out (g : gE) (A : Nat → Nat → Nat) (a : Nat → Nat) (v u : Nat) (E M : Off) (z : Nat → Int64) (zd : Nat → UInt64) : lawW g A a v u E M z zd = (modW g a M ++ [(v, .inl (g.2.1 5, 1, .inr (.inr (.inr (.inl zd)))))]) ++ (outW g A u E z ++ []) := by rw [List.append_nil]; rfl
theorem law_out1 (g : gE) (A : Nat → Nat → Nat) (a : Nat → Nat) (v u : Nat) (M : Off) (zd : Nat → UInt64) (E1 : Off) (z1 : Nat → Int64) : (modW g a M ++ [(v, .inl (g.2.1 5, 1, .inr (.inr (.inr (.inl zd)))))]) ++ (outW g A u E1 z1 ++ []) = lawW g A a v u E1 M z1 zd := by rw [List.append_nil]; rfl
theorem law_dut (g : gE) (A : Nat → Nat → Nat) (a : Nat → Nat) (v u : Nat) (E M : Off) (z : Nat → Int64) (zd : Nat → UInt64) : lawW g A a v u E M z zd = modW g a M ++ (dutW g A v u z E zd ++ []) := by rw [List.append_nil]; rfl
theorem law_dut1 (g : gE) (A : Nat → Nat → Nat) (a : Nat → Nat) (v u : Nat) (M : Off) (z : Nat → Int64) (E1 : Off) (zd1 : Nat → UInt64) : modW g a M ++ (dutW g A v u z E1 zd1 ++ []) = lawW g A a v u E1 M z zd1 := by rw [List.append_nil]; rfl
theorem law_emb (g : gE) (A : Nat → Nat → Nat) (a : Nat → Nat) (v u : Nat) (E M : Off) (z : Nat → Int64) (zd : Nat → UInt64) : lawW g A a v u E M z zd = (modW g a M ++ [(v, .inl (g.2.1 5, 1, .inr (.inr (.inr (.inl zd))))), (u, .inl (g.2.1 4, 1, .inr (.inl z)))]) ++ (embW g A E ++ []) := by rw [List.append_nil]; rfl
theorem law_emb1 (g : gE) (A : Nat → Nat → Nat) (a : Nat → Nat) (v u : Nat) (M : Off) (z : Nat → Int64) (zd : Nat → UInt64) : ∀ E1 : Off, (modW g a M ++ [(v, .inl (g.2.1 5, 1, .inr (.inr (.inr (.inl zd))))), (u, .inl (g.2.1 4, 1, .inr (.inl z)))]) ++ (embW g A E1 ++ []) = lawW g A a v u E1 M z zd := fun E1 => by rw [List.append_nil]; rfl
theorem law_mod (g : gE) (A : Nat → Nat → Nat) (a : Nat → Nat) (v u : Nat) (E M : Off) (z : Nat → Int64) (zd : Nat → UInt64) : lawW g A a v u E M z zd = [] ++ (modW g a M ++ dutW g A v u z E zd) := rfl
theorem law_mod1 (g : gE) (A : Nat → Nat → Nat) (a : Nat → Nat) (v u : Nat) (E : Off) (z : Nat → Int64) (zd : Nat → UInt64) : ∀ M1 : Off, [] ++ (modW g a M1 ++ dutW g A v u z E zd) = lawW g A a v u E M1 z zd := fun _ => rfl
section GCASE
variable {x : gX} {l : Launch} {cc : ByteArray} {nL : Nat} {own : String} {g : gE} {fr lo mc ms k n pc : Nat} {ws : va_W} {lv : List (Nat × Value)} {st : List Value}
theorem g_sld (hC : gC x l cc nL own g fr lo mc ms) {b L : Nat} {xs : Nat → Int32} (hS : gScr x b L xs) {i : Int32} (hd : decode cc pc = .ok (.iaload, 1)) (pc2 : Nat) (e : pc + 1 = pc2) (hin : vp_in i L) (kk : G x g nL k n ws pc2 lv (.int (xs i.toNatClampNeg) :: st)) : G x g nL k n ws pc lv (.int i :: .ref b :: st) := by
  subst e
  intro H locs ls hP hD hS9 h
  exact va_sld hC.1 hC.2.1 hS.1 hS.2.1 hS.2.2 hS9 hin hd (kk H locs ls hP hD hS9 h)
theorem g_slen (hC : gC x l cc nL own g fr lo mc ms) {b L : Nat} {xs : Nat → Int32} (hS : gScr x b L xs) (hd : decode cc pc = .ok (.arraylength, 1)) (pc2 : Nat) (e : pc + 1 = pc2) (kk : G x g nL k n ws pc2 lv (.int (Int32.ofNat L) :: st)) : G x g nL k n ws pc lv (.ref b :: st) := by
  subst e
  intro H locs ls hP hD hS9 h
  exact va_slen hC.1 hC.2.1 hS.1 hS.2.1 hS.2.2 hS9 hd (kk H locs ls hP hD hS9 h)
theorem g_subD {W : Off → va_W} {s : Off} (hC : gC x l cc nL own g fr lo mc ms) {y : MethodName} {b : ByteArray} {nM fr' lo' np : Nat} {ret : Option FieldType} {As As' : List Value} {post : UInt64 → Off → Prop} (hF : Fn l g y b nM ret fr' lo' 0 0 (W s) As' (pDw W post)) (hY : gYv y b nM ret np) {idx : Nat} (hd : decode cc pc = .ok (.invokevirtual idx, 3)) (pc2 : Nat) (e : pc + 3 = pc2) (hl : Cond.methodLink own idx y ∈ lw_all)
    {pre suf : va_W} (hw : ws = pre ++ (W s ++ suf)) {V : Off → va_W} (hw2 : ∀ o1, pre ++ (W o1 ++ suf) = V o1) {a : Nat} (rest : List Value) (hAs : As' = .ref a :: As) (hst : st = As.reverse ++ .ref a :: rest) (hn : As.length = np) (q0 ci : Nat) {fs : List Value} {T : u_T} {N : Nat} (hci : vwCl[ci]? = some (y.cls, T, N)) (hq0 : (W s)[q0]? = some (a, .inr (ci, fs)))
    (hR : fr' + 1 ≤ fr ∧ 8 + (nM + 11) + lo' ≤ lo) (hcat : (rest.map fun v => v.category).sum ≤ 8) (hkn : k ≤ mc ∧ n ≤ ms) (kk : ∀ (v : UInt64) (o1 : Off), post v o1 → G x g nL k n (V o1) pc2 lv (.double v :: rest)) : G x g nL k n ws pc lv st := by
  refine g_callV hC hF hY hd pc2 e hl pre suf hw rest hAs hst hn q0 ci hci hq0 hR hcat hkn ?_
  rintro r w1 ⟨v, s', rfl, rfl, hp⟩
  rw [hw2]
  exact kk v s' hp
theorem g_subF {W : Off → va_W} {s : Off} (hC : gC x l cc nL own g fr lo mc ms) {y : MethodName} {b : ByteArray} {nM fr' lo' np : Nat} {ret : Option FieldType} {As As' : List Value} {post : UInt32 → Off → Prop} (hF : Fn l g y b nM ret fr' lo' 0 0 (W s) As' (pFw W post)) (hY : gYv y b nM ret np) {idx : Nat} (hd : decode cc pc = .ok (.invokevirtual idx, 3)) (pc2 : Nat) (e : pc + 3 = pc2) (hl : Cond.methodLink own idx y ∈ lw_all)
    {pre suf : va_W} (hw : ws = pre ++ (W s ++ suf)) {V : Off → va_W} (hw2 : ∀ o1, pre ++ (W o1 ++ suf) = V o1) {a : Nat} (rest : List Value) (hAs : As' = .ref a :: As) (hst : st = As.reverse ++ .ref a :: rest) (hn : As.length = np) (q0 ci : Nat) {fs : List Value} {T : u_T} {N : Nat} (hci : vwCl[ci]? = some (y.cls, T, N)) (hq0 : (W s)[q0]? = some (a, .inr (ci, fs)))
    (hR : fr' + 1 ≤ fr ∧ 8 + (nM + 11) + lo' ≤ lo) (hcat : (rest.map fun v => v.category).sum ≤ 8) (hkn : k ≤ mc ∧ n ≤ ms) (kk : ∀ (v : UInt32) (o1 : Off), post v o1 → G x g nL k n (V o1) pc2 lv (.float v :: rest)) : G x g nL k n ws pc lv st := by
  refine g_callV hC hF hY hd pc2 e hl pre suf hw rest hAs hst hn q0 ci hci hq0 hR hcat hkn ?_
  rintro r w1 ⟨v, s', rfl, rfl, hp⟩
  rw [hw2]
  exact kk v s' hp
end GCASE

def wc_0 (K : lwK) (E M : Off) (z : Nat → Int64) (zd : Nat → UInt64) (a1 a2 a3 : Int32) : Prop := ww_addSock (fun kx E1 z1 => wp_X5_addSock (fun bx M1 => wp_X5_thrown (fun t => (t = kx ∧ ((kx = 0 → lg_cmp (z1 (0 : Int32).toNatClampNeg) (bx).toInt64 = 0) ∧ K E1 M1 z1 zd))) M1) M (((a1).toUInt32 % 65536).toInt32) a2) E z (((a1).toUInt32 % 65536).toInt32) a2
set_option maxRecDepth 100000 in
set_option maxHeartbeats 4000000 in
theorem cs_0 {x : gX} {l : Launch} {g : gE} {A : Nat → Nat → Nat} {a : Nat → Nat} {v u b L : Nat} {xs : Nat → Int32} (hC : gC x l cL_law 9 RL g 2048 94400 603072 7207018) (hNw : gNw (x_s x)) (hst : l.stackTraces = false) (hS : gScr x b L xs) {K : lwK} {i : Int32} (h1 : vp_in (i + 1) L) (h2 : vp_in (i + 2) L) (h3 : vp_in (i + 3) L) {k n : Nat} (hk : k + 8 ≤ 603072) (hn : n + 48 ≤ 7207018) (hK : ∀ (E M : Off) (z : Nat → Int64) (zd : Nat → UInt64), K E M z zd → G x g 9 (k + 8) (n + 48) (lawW g A a v u E M z zd) 3590 [(0, .ref b), (1, .ref (A 0 0)), (2, .ref (a 0)), (3, .ref u), (4, .ref v), (5, .int i)] []) {E M : Off} {z : Nat → Int64} {zd : Nat → UInt64} (h : wc_0 K E M z zd (xs (i + 1).toNatClampNeg) (xs (i + 2).toNatClampNeg) (xs (i + 3).toNatClampNeg)) : G x g 9 k n (lawW g A a v u E M z zd) 304 [(0, .ref b), (1, .ref (A 0 0)), (2, .ref (a 0)), (3, .ref u), (4, .ref v), (5, .int i)] [] := by
  unfold wc_0 at h
  refine g_aload_n hC dL_law_304 305 rfl rfl 1 rfl ?_
  refine g_aload_n hC dL_law_305 306 rfl rfl 0 rfl ?_
  refine g_iload hC dL_law_306 308 rfl 5 rfl ?_
  refine g_iconst hC (1 : Int32) dL_law_308 309 rfl iconst_1 ?_
  refine g_iadd hC dL_law_309 310 rfl ?_
  refine g_sld hC hS dL_law_310 311 rfl h1 ?_
  refine g_i2c hC dL_law_311 312 rfl ?_
  refine g_aload_n hC dL_law_312 313 rfl rfl 0 rfl ?_
  refine g_iload hC dL_law_313 315 rfl 5 rfl ?_
  refine g_iconst hC (2 : Int32) dL_law_315 316 rfl iconst_2 ?_
  refine g_iadd hC dL_law_316 317 rfl ?_
  refine g_sld hC hS dL_law_317 318 rfl h2 ?_
  refine g_aload_n hC dL_law_318 319 rfl rfl 3 rfl ?_
  refine g_callW hC hNw hst (cw_addSock l g A u E z ((((xs (i + 1).toNatClampNeg)).toUInt32 % 65536).toInt32) (xs (i + 2).toNatClampNeg) _ h) gY_L_addSock dL_law_319 322 rfl ml_L_197 _ _ (law_out g A a v u E M z zd) [] rfl rfl ⟨Nat.le_of_ble_eq_true rfl, Nat.le_of_ble_eq_true rfl⟩ (Nat.le_of_ble_eq_true rfl) ⟨by omega, by omega⟩ ?_
  rintro r w1 ⟨kx, E1, z1, rfl, rfl, h⟩
  rw [law_out1]
  show G x g 9 (k + 4) (n + 24) (lawW g A a v u E1 M z1 zd) 322 [(0, .ref b), (1, .ref (A 0 0)), (2, .ref (a 0)), (3, .ref u), (4, .ref v), (5, .int i)] [.int kx]
  refine g_istore (lv2 := [(6, .int kx), (0, .ref b), (1, .ref (A 0 0)), (2, .ref (a 0)), (3, .ref u), (4, .ref v), (5, .int i)]) hC dL_law_322 324 rfl (by decide) rfl ?_
  refine g_aload_n hC dL_law_324 325 rfl rfl 3 rfl ?_
  refine g_aload_n hC dL_law_325 326 rfl rfl 1 rfl ?_
  refine g_iload hC dL_law_326 328 rfl 6 rfl ?_
  refine g_iconst hC (1 : Int32) dL_law_328 329 rfl iconst_1 ?_
  refine g_iadd hC dL_law_329 330 rfl ?_
  refine g_sld hC hS dL_law_330 331 rfl h1 ?_
  refine g_i2c hC dL_law_331 332 rfl ?_
  refine g_aload_n hC dL_law_332 333 rfl rfl 1 rfl ?_
  refine g_iload hC dL_law_333 335 rfl 6 rfl ?_
  refine g_iconst hC (2 : Int32) dL_law_335 336 rfl iconst_2 ?_
  refine g_iadd hC dL_law_336 337 rfl ?_
  refine g_sld hC hS dL_law_337 338 rfl h2 ?_
  refine g_subI hC (ct_X5_addSock l g a M ((((xs (i + 1).toNatClampNeg)).toUInt32 % 65536).toInt32) (xs (i + 2).toNatClampNeg) _ h) gY_X5_addSock dL_law_338 341 rfl ml_L_202 (law_mod g A a v u E1 M z1 zd) (law_mod1 g A a v u E1 z1 zd) [] rfl rfl rfl 0 9 rfl rfl ⟨Nat.le_of_ble_eq_true rfl, Nat.le_of_ble_eq_true rfl⟩ (Nat.le_of_ble_eq_true rfl) ⟨by omega, by omega⟩ (fun bx M1 h => ?_)
  refine g_istore (lv2 := [(7, .int bx), (6, .int kx), (0, .ref b), (1, .ref (A 0 0)), (2, .ref (a 0)), (3, .ref u), (4, .ref v), (5, .int i)]) hC dL_law_341 343 rfl (by decide) rfl ?_
  refine g_aload_n hC dL_law_343 344 rfl rfl 4 rfl ?_
  refine g_readV hC (ct_X5_thrown l g a M1 _ h) gY_X5_thrown dL_law_344 347 rfl ml_L_203 _ _ (law_mod g A a v u E1 M1 z1 zd) [] rfl rfl rfl 0 9 rfl rfl ⟨Nat.le_of_ble_eq_true rfl, Nat.le_of_ble_eq_true rfl⟩ (Nat.le_of_ble_eq_true rfl) ⟨by omega, by omega⟩ (fun t h => ?_)
  refine g_iload hC dL_law_347 349 rfl 1 rfl ?_
  obtain ⟨h9, h⟩ := h
  refine g_icmp_eq hC dL_law_349 354 (by decide) 352 rfl (fun _ => ?_) (fun c9 => absurd h9 c9)
  refine g_iload hC dL_law_354 356 rfl 1 rfl ?_
  obtain ⟨hz9, hK9⟩ := h
  refine g_if_ne hC dL_law_356 371 (by decide) 359 rfl (fun _ => ?_) (fun c9 => ?_)
  · skip
    refine g_goto hC dL_law_371 3590 (by decide) ?_
    refine g_lv (lv2 := [(0, .ref b), (1, .ref (A 0 0)), (2, .ref (a 0)), (3, .ref u), (4, .ref v), (5, .int i)]) [2, 3, 4, 5, 6, 7] rfl ?_
    refine g_widen (k2 := k + 8) (n2 := n + 48) (by omega) (by omega) ?_
    exact hK _ _ _ _ hK9
  · have hz9 := hz9 c9
    refine g_aload_n hC dL_law_359 360 rfl rfl 5 rfl ?_
    refine g_iconst hC (0 : Int32) dL_law_360 361 rfl iconst_0 ?_
    refine g_lald hC dL_law_361 362 rfl 11 rfl (vp_in_d (by decide)) ?_
    refine g_iload hC dL_law_362 364 rfl 0 rfl ?_
    refine g_i2l hC dL_law_364 365 rfl ?_
    refine g_lcmp hC dL_law_365 366 rfl ?_
    refine g_if_eq hC dL_law_366 371 (by decide) 369 rfl (fun _ => ?_) (fun c7 => absurd hz9 c7)
    refine g_goto hC dL_law_371 3590 (by decide) ?_
    refine g_lv (lv2 := [(0, .ref b), (1, .ref (A 0 0)), (2, .ref (a 0)), (3, .ref u), (4, .ref v), (5, .int i)]) [2, 3, 4, 5, 6, 7] rfl ?_
    refine g_widen (k2 := k + 8) (n2 := n + 48) (by omega) (by omega) ?_
    exact hK _ _ _ _ hK9
def wc_1 (K : lwK) (E M : Off) (z : Nat → Int64) (zd : Nat → UInt64) (a1 a2 a3 : Int32) : Prop := wp_X4_sockCount (fun kx E1 => wp_X5_sockCount (fun bx M1 => (kx = bx ∧ K E1 M1 z zd)) M ) E
set_option maxRecDepth 100000 in
set_option maxHeartbeats 4000000 in
theorem cs_1 {x : gX} {l : Launch} {g : gE} {A : Nat → Nat → Nat} {a : Nat → Nat} {v u b L : Nat} {xs : Nat → Int32} (hC : gC x l cL_law 9 RL g 2048 94400 603072 7207018) (hNw : gNw (x_s x)) (hst : l.stackTraces = false) (hS : gScr x b L xs) {K : lwK} {i : Int32} (h1 : vp_in (i + 1) L) (h2 : vp_in (i + 2) L) (h3 : vp_in (i + 3) L) {k n : Nat} (hk : k + 8 ≤ 603072) (hn : n + 48 ≤ 7207018) (hK : ∀ (E M : Off) (z : Nat → Int64) (zd : Nat → UInt64), K E M z zd → G x g 9 (k + 8) (n + 48) (lawW g A a v u E M z zd) 3590 [(0, .ref b), (1, .ref (A 0 0)), (2, .ref (a 0)), (3, .ref u), (4, .ref v), (5, .int i)] []) {E M : Off} {z : Nat → Int64} {zd : Nat → UInt64} (h : wc_1 K E M z zd (xs (i + 1).toNatClampNeg) (xs (i + 2).toNatClampNeg) (xs (i + 3).toNatClampNeg)) : G x g 9 k n (lawW g A a v u E M z zd) 374 [(0, .ref b), (1, .ref (A 0 0)), (2, .ref (a 0)), (3, .ref u), (4, .ref v), (5, .int i)] [] := by
  unfold wc_1 at h
  refine g_aload_n hC dL_law_374 375 rfl rfl 1 rfl ?_
  refine g_subI hC (ct_X4_sockCount l g A E _ h) gY_X4_sockCount dL_law_375 378 rfl ml_L_206 (law_emb g A a v u E M z zd) (law_emb1 g A a v u M z zd) [] rfl rfl rfl 0 8 rfl rfl ⟨Nat.le_of_ble_eq_true rfl, Nat.le_of_ble_eq_true rfl⟩ (Nat.le_of_ble_eq_true rfl) ⟨by omega, by omega⟩ (fun kx E1 h => ?_)
  refine g_aload_n hC dL_law_378 379 rfl rfl 2 rfl ?_
  refine g_subI hC (ct_X5_sockCount l g a M  _ h) gY_X5_sockCount dL_law_379 382 rfl ml_L_209 (law_mod g A a v u E1 M z zd) (law_mod1 g A a v u E1 z zd) [.int kx] rfl rfl rfl 0 9 rfl rfl ⟨Nat.le_of_ble_eq_true rfl, Nat.le_of_ble_eq_true rfl⟩ (Nat.le_of_ble_eq_true rfl) ⟨by omega, by omega⟩ (fun bx M1 h => ?_)
  obtain ⟨h9, h⟩ := h
  refine g_icmp_eq hC dL_law_382 3590 (by decide) 385 rfl (fun _ => ?_) (fun c9 => absurd h9 c9)
  refine g_widen (k2 := k + 8) (n2 := n + 48) (by omega) (by omega) ?_
  exact hK _ _ _ _ h
def wc_2 (K : lwK) (E M : Off) (z : Nat → Int64) (zd : Nat → UInt64) (a1 a2 a3 : Int32) : Prop := ww_colourOf (fun kx E1 z1 => wp_X5_colourOf (fun bx M1 => wp_X5_thrown (fun t => (t = kx ∧ ((kx = 0 → lg_cmp (z1 (0 : Int32).toNatClampNeg) (bx).toInt64 = 0) ∧ K E1 M1 z1 zd))) M1) M a1) E z a1
set_option maxRecDepth 100000 in
set_option maxHeartbeats 4000000 in
theorem cs_2 {x : gX} {l : Launch} {g : gE} {A : Nat → Nat → Nat} {a : Nat → Nat} {v u b L : Nat} {xs : Nat → Int32} (hC : gC x l cL_law 9 RL g 2048 94400 603072 7207018) (hNw : gNw (x_s x)) (hst : l.stackTraces = false) (hS : gScr x b L xs) {K : lwK} {i : Int32} (h1 : vp_in (i + 1) L) (h2 : vp_in (i + 2) L) (h3 : vp_in (i + 3) L) {k n : Nat} (hk : k + 8 ≤ 603072) (hn : n + 48 ≤ 7207018) (hK : ∀ (E M : Off) (z : Nat → Int64) (zd : Nat → UInt64), K E M z zd → G x g 9 (k + 8) (n + 48) (lawW g A a v u E M z zd) 3590 [(0, .ref b), (1, .ref (A 0 0)), (2, .ref (a 0)), (3, .ref u), (4, .ref v), (5, .int i)] []) {E M : Off} {z : Nat → Int64} {zd : Nat → UInt64} (h : wc_2 K E M z zd (xs (i + 1).toNatClampNeg) (xs (i + 2).toNatClampNeg) (xs (i + 3).toNatClampNeg)) : G x g 9 k n (lawW g A a v u E M z zd) 387 [(0, .ref b), (1, .ref (A 0 0)), (2, .ref (a 0)), (3, .ref u), (4, .ref v), (5, .int i)] [] := by
  unfold wc_2 at h
  refine g_aload_n hC dL_law_387 388 rfl rfl 1 rfl ?_
  refine g_aload_n hC dL_law_388 389 rfl rfl 0 rfl ?_
  refine g_iload hC dL_law_389 391 rfl 5 rfl ?_
  refine g_iconst hC (1 : Int32) dL_law_391 392 rfl iconst_1 ?_
  refine g_iadd hC dL_law_392 393 rfl ?_
  refine g_sld hC hS dL_law_393 394 rfl h1 ?_
  refine g_aload_n hC dL_law_394 395 rfl rfl 3 rfl ?_
  refine g_callW hC hNw hst (cw_colourOf l g A u E z (xs (i + 1).toNatClampNeg) _ h) gY_L_colourOf dL_law_395 398 rfl ml_L_210 _ _ (law_out g A a v u E M z zd) [] rfl rfl ⟨Nat.le_of_ble_eq_true rfl, Nat.le_of_ble_eq_true rfl⟩ (Nat.le_of_ble_eq_true rfl) ⟨by omega, by omega⟩ ?_
  rintro r w1 ⟨kx, E1, z1, rfl, rfl, h⟩
  rw [law_out1]
  show G x g 9 (k + 1) (n + 6) (lawW g A a v u E1 M z1 zd) 398 [(0, .ref b), (1, .ref (A 0 0)), (2, .ref (a 0)), (3, .ref u), (4, .ref v), (5, .int i)] [.int kx]
  refine g_istore (lv2 := [(6, .int kx), (0, .ref b), (1, .ref (A 0 0)), (2, .ref (a 0)), (3, .ref u), (4, .ref v), (5, .int i)]) hC dL_law_398 400 rfl (by decide) rfl ?_
  refine g_aload_n hC dL_law_400 401 rfl rfl 3 rfl ?_
  refine g_aload_n hC dL_law_401 402 rfl rfl 1 rfl ?_
  refine g_iload hC dL_law_402 404 rfl 6 rfl ?_
  refine g_iconst hC (1 : Int32) dL_law_404 405 rfl iconst_1 ?_
  refine g_iadd hC dL_law_405 406 rfl ?_
  refine g_sld hC hS dL_law_406 407 rfl h1 ?_
  refine g_subI hC (ct_X5_colourOf l g a M (xs (i + 1).toNatClampNeg) _ h) gY_X5_colourOf dL_law_407 410 rfl ml_L_213 (law_mod g A a v u E1 M z1 zd) (law_mod1 g A a v u E1 z1 zd) [] rfl rfl rfl 0 9 rfl rfl ⟨Nat.le_of_ble_eq_true rfl, Nat.le_of_ble_eq_true rfl⟩ (Nat.le_of_ble_eq_true rfl) ⟨by omega, by omega⟩ (fun bx M1 h => ?_)
  refine g_istore (lv2 := [(7, .int bx), (6, .int kx), (0, .ref b), (1, .ref (A 0 0)), (2, .ref (a 0)), (3, .ref u), (4, .ref v), (5, .int i)]) hC dL_law_410 412 rfl (by decide) rfl ?_
  refine g_aload_n hC dL_law_412 413 rfl rfl 4 rfl ?_
  refine g_readV hC (ct_X5_thrown l g a M1 _ h) gY_X5_thrown dL_law_413 416 rfl ml_L_203 _ _ (law_mod g A a v u E1 M1 z1 zd) [] rfl rfl rfl 0 9 rfl rfl ⟨Nat.le_of_ble_eq_true rfl, Nat.le_of_ble_eq_true rfl⟩ (Nat.le_of_ble_eq_true rfl) ⟨by omega, by omega⟩ (fun t h => ?_)
  refine g_iload hC dL_law_416 418 rfl 1 rfl ?_
  obtain ⟨h9, h⟩ := h
  refine g_icmp_eq hC dL_law_418 423 (by decide) 421 rfl (fun _ => ?_) (fun c9 => absurd h9 c9)
  refine g_iload hC dL_law_423 425 rfl 1 rfl ?_
  obtain ⟨hz9, hK9⟩ := h
  refine g_if_ne hC dL_law_425 440 (by decide) 428 rfl (fun _ => ?_) (fun c9 => ?_)
  · skip
    refine g_goto hC dL_law_440 3590 (by decide) ?_
    refine g_lv (lv2 := [(0, .ref b), (1, .ref (A 0 0)), (2, .ref (a 0)), (3, .ref u), (4, .ref v), (5, .int i)]) [2, 3, 4, 5, 6, 7] rfl ?_
    refine g_widen (k2 := k + 8) (n2 := n + 48) (by omega) (by omega) ?_
    exact hK _ _ _ _ hK9
  · have hz9 := hz9 c9
    refine g_aload_n hC dL_law_428 429 rfl rfl 5 rfl ?_
    refine g_iconst hC (0 : Int32) dL_law_429 430 rfl iconst_0 ?_
    refine g_lald hC dL_law_430 431 rfl 11 rfl (vp_in_d (by decide)) ?_
    refine g_iload hC dL_law_431 433 rfl 0 rfl ?_
    refine g_i2l hC dL_law_433 434 rfl ?_
    refine g_lcmp hC dL_law_434 435 rfl ?_
    refine g_if_eq hC dL_law_435 440 (by decide) 438 rfl (fun _ => ?_) (fun c7 => absurd hz9 c7)
    refine g_goto hC dL_law_440 3590 (by decide) ?_
    refine g_lv (lv2 := [(0, .ref b), (1, .ref (A 0 0)), (2, .ref (a 0)), (3, .ref u), (4, .ref v), (5, .int i)]) [2, 3, 4, 5, 6, 7] rfl ?_
    refine g_widen (k2 := k + 8) (n2 := n + 48) (by omega) (by omega) ?_
    exact hK _ _ _ _ hK9
def wc_3 (K : lwK) (E M : Off) (z : Nat → Int64) (zd : Nat → UInt64) (a1 a2 a3 : Int32) : Prop := ww_sizeOf (fun kx E1 z1 => wp_X5_sizeOf (fun bx M1 => wp_X5_thrown (fun t => (t = kx ∧ ((kx = 0 → lg_cmp (z1 (0 : Int32).toNatClampNeg) (bx).toInt64 = 0) ∧ K E1 M1 z1 zd))) M1) M a1) E z a1
set_option maxRecDepth 100000 in
set_option maxHeartbeats 4000000 in
theorem cs_3 {x : gX} {l : Launch} {g : gE} {A : Nat → Nat → Nat} {a : Nat → Nat} {v u b L : Nat} {xs : Nat → Int32} (hC : gC x l cL_law 9 RL g 2048 94400 603072 7207018) (hNw : gNw (x_s x)) (hst : l.stackTraces = false) (hS : gScr x b L xs) {K : lwK} {i : Int32} (h1 : vp_in (i + 1) L) (h2 : vp_in (i + 2) L) (h3 : vp_in (i + 3) L) {k n : Nat} (hk : k + 8 ≤ 603072) (hn : n + 48 ≤ 7207018) (hK : ∀ (E M : Off) (z : Nat → Int64) (zd : Nat → UInt64), K E M z zd → G x g 9 (k + 8) (n + 48) (lawW g A a v u E M z zd) 3590 [(0, .ref b), (1, .ref (A 0 0)), (2, .ref (a 0)), (3, .ref u), (4, .ref v), (5, .int i)] []) {E M : Off} {z : Nat → Int64} {zd : Nat → UInt64} (h : wc_3 K E M z zd (xs (i + 1).toNatClampNeg) (xs (i + 2).toNatClampNeg) (xs (i + 3).toNatClampNeg)) : G x g 9 k n (lawW g A a v u E M z zd) 443 [(0, .ref b), (1, .ref (A 0 0)), (2, .ref (a 0)), (3, .ref u), (4, .ref v), (5, .int i)] [] := by
  unfold wc_3 at h
  refine g_aload_n hC dL_law_443 444 rfl rfl 1 rfl ?_
  refine g_aload_n hC dL_law_444 445 rfl rfl 0 rfl ?_
  refine g_iload hC dL_law_445 447 rfl 5 rfl ?_
  refine g_iconst hC (1 : Int32) dL_law_447 448 rfl iconst_1 ?_
  refine g_iadd hC dL_law_448 449 rfl ?_
  refine g_sld hC hS dL_law_449 450 rfl h1 ?_
  refine g_aload_n hC dL_law_450 451 rfl rfl 3 rfl ?_
  refine g_callW hC hNw hst (cw_sizeOf l g A u E z (xs (i + 1).toNatClampNeg) _ h) gY_L_sizeOf dL_law_451 454 rfl ml_L_214 _ _ (law_out g A a v u E M z zd) [] rfl rfl ⟨Nat.le_of_ble_eq_true rfl, Nat.le_of_ble_eq_true rfl⟩ (Nat.le_of_ble_eq_true rfl) ⟨by omega, by omega⟩ ?_
  rintro r w1 ⟨kx, E1, z1, rfl, rfl, h⟩
  rw [law_out1]
  show G x g 9 (k + 1) (n + 6) (lawW g A a v u E1 M z1 zd) 454 [(0, .ref b), (1, .ref (A 0 0)), (2, .ref (a 0)), (3, .ref u), (4, .ref v), (5, .int i)] [.int kx]
  refine g_istore (lv2 := [(6, .int kx), (0, .ref b), (1, .ref (A 0 0)), (2, .ref (a 0)), (3, .ref u), (4, .ref v), (5, .int i)]) hC dL_law_454 456 rfl (by decide) rfl ?_
  refine g_aload_n hC dL_law_456 457 rfl rfl 3 rfl ?_
  refine g_aload_n hC dL_law_457 458 rfl rfl 1 rfl ?_
  refine g_iload hC dL_law_458 460 rfl 6 rfl ?_
  refine g_iconst hC (1 : Int32) dL_law_460 461 rfl iconst_1 ?_
  refine g_iadd hC dL_law_461 462 rfl ?_
  refine g_sld hC hS dL_law_462 463 rfl h1 ?_
  refine g_subI hC (ct_X5_sizeOf l g a M (xs (i + 1).toNatClampNeg) _ h) gY_X5_sizeOf dL_law_463 466 rfl ml_L_216 (law_mod g A a v u E1 M z1 zd) (law_mod1 g A a v u E1 z1 zd) [] rfl rfl rfl 0 9 rfl rfl ⟨Nat.le_of_ble_eq_true rfl, Nat.le_of_ble_eq_true rfl⟩ (Nat.le_of_ble_eq_true rfl) ⟨by omega, by omega⟩ (fun bx M1 h => ?_)
  refine g_istore (lv2 := [(7, .int bx), (6, .int kx), (0, .ref b), (1, .ref (A 0 0)), (2, .ref (a 0)), (3, .ref u), (4, .ref v), (5, .int i)]) hC dL_law_466 468 rfl (by decide) rfl ?_
  refine g_aload_n hC dL_law_468 469 rfl rfl 4 rfl ?_
  refine g_readV hC (ct_X5_thrown l g a M1 _ h) gY_X5_thrown dL_law_469 472 rfl ml_L_203 _ _ (law_mod g A a v u E1 M1 z1 zd) [] rfl rfl rfl 0 9 rfl rfl ⟨Nat.le_of_ble_eq_true rfl, Nat.le_of_ble_eq_true rfl⟩ (Nat.le_of_ble_eq_true rfl) ⟨by omega, by omega⟩ (fun t h => ?_)
  refine g_iload hC dL_law_472 474 rfl 1 rfl ?_
  obtain ⟨h9, h⟩ := h
  refine g_icmp_eq hC dL_law_474 479 (by decide) 477 rfl (fun _ => ?_) (fun c9 => absurd h9 c9)
  refine g_iload hC dL_law_479 481 rfl 1 rfl ?_
  obtain ⟨hz9, hK9⟩ := h
  refine g_if_ne hC dL_law_481 496 (by decide) 484 rfl (fun _ => ?_) (fun c9 => ?_)
  · skip
    refine g_goto hC dL_law_496 3590 (by decide) ?_
    refine g_lv (lv2 := [(0, .ref b), (1, .ref (A 0 0)), (2, .ref (a 0)), (3, .ref u), (4, .ref v), (5, .int i)]) [2, 3, 4, 5, 6, 7] rfl ?_
    refine g_widen (k2 := k + 8) (n2 := n + 48) (by omega) (by omega) ?_
    exact hK _ _ _ _ hK9
  · have hz9 := hz9 c9
    refine g_aload_n hC dL_law_484 485 rfl rfl 5 rfl ?_
    refine g_iconst hC (0 : Int32) dL_law_485 486 rfl iconst_0 ?_
    refine g_lald hC dL_law_486 487 rfl 11 rfl (vp_in_d (by decide)) ?_
    refine g_iload hC dL_law_487 489 rfl 0 rfl ?_
    refine g_i2l hC dL_law_489 490 rfl ?_
    refine g_lcmp hC dL_law_490 491 rfl ?_
    refine g_if_eq hC dL_law_491 496 (by decide) 494 rfl (fun _ => ?_) (fun c7 => absurd hz9 c7)
    refine g_goto hC dL_law_496 3590 (by decide) ?_
    refine g_lv (lv2 := [(0, .ref b), (1, .ref (A 0 0)), (2, .ref (a 0)), (3, .ref u), (4, .ref v), (5, .int i)]) [2, 3, 4, 5, 6, 7] rfl ?_
    refine g_widen (k2 := k + 8) (n2 := n + 48) (by omega) (by omega) ?_
    exact hK _ _ _ _ hK9
def wc_4 (K : lwK) (E M : Off) (z : Nat → Int64) (zd : Nat → UInt64) (a1 a2 a3 : Int32) : Prop := ww_isAway (fun kx E1 z1 => wp_X5_isAway (fun bx M1 => wp_X5_thrown (fun t => (t = kx ∧ ((kx = 0 → ((bx = 0 → lg_cmp (z1 (0 : Int32).toNatClampNeg) 0 = 0) ∧ (¬ bx = 0 → lg_cmp (z1 (0 : Int32).toNatClampNeg) 1 = 0))) ∧ K E1 M1 z1 zd))) M1) M a1) E z a1
set_option maxRecDepth 100000 in
set_option maxHeartbeats 4000000 in
theorem cs_4 {x : gX} {l : Launch} {g : gE} {A : Nat → Nat → Nat} {a : Nat → Nat} {v u b L : Nat} {xs : Nat → Int32} (hC : gC x l cL_law 9 RL g 2048 94400 603072 7207018) (hNw : gNw (x_s x)) (hst : l.stackTraces = false) (hS : gScr x b L xs) {K : lwK} {i : Int32} (h1 : vp_in (i + 1) L) (h2 : vp_in (i + 2) L) (h3 : vp_in (i + 3) L) {k n : Nat} (hk : k + 8 ≤ 603072) (hn : n + 48 ≤ 7207018) (hK : ∀ (E M : Off) (z : Nat → Int64) (zd : Nat → UInt64), K E M z zd → G x g 9 (k + 8) (n + 48) (lawW g A a v u E M z zd) 3590 [(0, .ref b), (1, .ref (A 0 0)), (2, .ref (a 0)), (3, .ref u), (4, .ref v), (5, .int i)] []) {E M : Off} {z : Nat → Int64} {zd : Nat → UInt64} (h : wc_4 K E M z zd (xs (i + 1).toNatClampNeg) (xs (i + 2).toNatClampNeg) (xs (i + 3).toNatClampNeg)) : G x g 9 k n (lawW g A a v u E M z zd) 499 [(0, .ref b), (1, .ref (A 0 0)), (2, .ref (a 0)), (3, .ref u), (4, .ref v), (5, .int i)] [] := by
  unfold wc_4 at h
  refine g_aload_n hC dL_law_499 500 rfl rfl 1 rfl ?_
  refine g_aload_n hC dL_law_500 501 rfl rfl 0 rfl ?_
  refine g_iload hC dL_law_501 503 rfl 5 rfl ?_
  refine g_iconst hC (1 : Int32) dL_law_503 504 rfl iconst_1 ?_
  refine g_iadd hC dL_law_504 505 rfl ?_
  refine g_sld hC hS dL_law_505 506 rfl h1 ?_
  refine g_aload_n hC dL_law_506 507 rfl rfl 3 rfl ?_
  refine g_callW hC hNw hst (cw_isAway l g A u E z (xs (i + 1).toNatClampNeg) _ h) gY_L_isAway dL_law_507 510 rfl ml_L_217 _ _ (law_out g A a v u E M z zd) [] rfl rfl ⟨Nat.le_of_ble_eq_true rfl, Nat.le_of_ble_eq_true rfl⟩ (Nat.le_of_ble_eq_true rfl) ⟨by omega, by omega⟩ ?_
  rintro r w1 ⟨kx, E1, z1, rfl, rfl, h⟩
  rw [law_out1]
  show G x g 9 (k + 1) (n + 6) (lawW g A a v u E1 M z1 zd) 510 [(0, .ref b), (1, .ref (A 0 0)), (2, .ref (a 0)), (3, .ref u), (4, .ref v), (5, .int i)] [.int kx]
  refine g_istore (lv2 := [(6, .int kx), (0, .ref b), (1, .ref (A 0 0)), (2, .ref (a 0)), (3, .ref u), (4, .ref v), (5, .int i)]) hC dL_law_510 512 rfl (by decide) rfl ?_
  refine g_aload_n hC dL_law_512 513 rfl rfl 3 rfl ?_
  refine g_aload_n hC dL_law_513 514 rfl rfl 1 rfl ?_
  refine g_iload hC dL_law_514 516 rfl 6 rfl ?_
  refine g_iconst hC (1 : Int32) dL_law_516 517 rfl iconst_1 ?_
  refine g_iadd hC dL_law_517 518 rfl ?_
  refine g_sld hC hS dL_law_518 519 rfl h1 ?_
  refine g_subI hC (ct_X5_isAway l g a M (xs (i + 1).toNatClampNeg) _ h) gY_X5_isAway dL_law_519 522 rfl ml_L_219 (law_mod g A a v u E1 M z1 zd) (law_mod1 g A a v u E1 z1 zd) [] rfl rfl rfl 0 9 rfl rfl ⟨Nat.le_of_ble_eq_true rfl, Nat.le_of_ble_eq_true rfl⟩ (Nat.le_of_ble_eq_true rfl) ⟨by omega, by omega⟩ (fun bx M1 h => ?_)
  refine g_istore (lv2 := [(7, .int bx), (6, .int kx), (0, .ref b), (1, .ref (A 0 0)), (2, .ref (a 0)), (3, .ref u), (4, .ref v), (5, .int i)]) hC dL_law_522 524 rfl (by decide) rfl ?_
  refine g_aload_n hC dL_law_524 525 rfl rfl 4 rfl ?_
  refine g_readV hC (ct_X5_thrown l g a M1 _ h) gY_X5_thrown dL_law_525 528 rfl ml_L_203 _ _ (law_mod g A a v u E1 M1 z1 zd) [] rfl rfl rfl 0 9 rfl rfl ⟨Nat.le_of_ble_eq_true rfl, Nat.le_of_ble_eq_true rfl⟩ (Nat.le_of_ble_eq_true rfl) ⟨by omega, by omega⟩ (fun t h => ?_)
  refine g_iload hC dL_law_528 530 rfl 1 rfl ?_
  obtain ⟨h9, h⟩ := h
  refine g_icmp_eq hC dL_law_530 535 (by decide) 533 rfl (fun _ => ?_) (fun c9 => absurd h9 c9)
  refine g_iload hC dL_law_535 537 rfl 1 rfl ?_
  obtain ⟨hz9, hK9⟩ := h
  refine g_if_ne hC dL_law_537 559 (by decide) 540 rfl (fun _ => ?_) (fun c9 => ?_)
  · skip
    refine g_goto hC dL_law_559 3590 (by decide) ?_
    refine g_lv (lv2 := [(0, .ref b), (1, .ref (A 0 0)), (2, .ref (a 0)), (3, .ref u), (4, .ref v), (5, .int i)]) [2, 3, 4, 5, 6, 7] rfl ?_
    refine g_widen (k2 := k + 8) (n2 := n + 48) (by omega) (by omega) ?_
    exact hK _ _ _ _ hK9
  · have hz9 := hz9 c9
    refine g_aload_n hC dL_law_540 541 rfl rfl 5 rfl ?_
    refine g_iconst hC (0 : Int32) dL_law_541 542 rfl iconst_0 ?_
    refine g_lald hC dL_law_542 543 rfl 11 rfl (vp_in_d (by decide)) ?_
    refine g_iload hC dL_law_543 545 rfl 0 rfl ?_
    refine g_if_eq hC dL_law_545 552 (by decide) 548 rfl (fun c8 => ?_) (fun c8 => ?_)
    · have hz9 := hz9.1 c8
      refine g_lconst hC (0 : Int64) dL_law_552 553 rfl rfl ?_
      refine g_lcmp hC dL_law_553 554 rfl ?_
      refine g_if_eq hC dL_law_554 559 (by decide) 557 rfl (fun _ => ?_) (fun c7 => absurd hz9 c7)
      refine g_goto hC dL_law_559 3590 (by decide) ?_
      refine g_lv (lv2 := [(0, .ref b), (1, .ref (A 0 0)), (2, .ref (a 0)), (3, .ref u), (4, .ref v), (5, .int i)]) [2, 3, 4, 5, 6, 7] rfl ?_
      refine g_widen (k2 := k + 8) (n2 := n + 48) (by omega) (by omega) ?_
      exact hK _ _ _ _ hK9
    · have hz9 := hz9.2 c8
      refine g_lconst hC (1 : Int64) dL_law_548 549 rfl rfl ?_
      refine g_goto hC dL_law_549 553 (by decide) ?_
      refine g_lcmp hC dL_law_553 554 rfl ?_
      refine g_if_eq hC dL_law_554 559 (by decide) 557 rfl (fun _ => ?_) (fun c7 => absurd hz9 c7)
      refine g_goto hC dL_law_559 3590 (by decide) ?_
      refine g_lv (lv2 := [(0, .ref b), (1, .ref (A 0 0)), (2, .ref (a 0)), (3, .ref u), (4, .ref v), (5, .int i)]) [2, 3, 4, 5, 6, 7] rfl ?_
      refine g_widen (k2 := k + 8) (n2 := n + 48) (by omega) (by omega) ?_
      exact hK _ _ _ _ hK9
def wc_5 (K : lwK) (E M : Off) (z : Nat → Int64) (zd : Nat → UInt64) (a1 a2 a3 : Int32) : Prop := ww_isPending (fun kx E1 z1 => wp_X5_isPending (fun bx M1 => wp_X5_thrown (fun t => (t = kx ∧ ((kx = 0 → ((bx = 0 → lg_cmp (z1 (0 : Int32).toNatClampNeg) 0 = 0) ∧ (¬ bx = 0 → lg_cmp (z1 (0 : Int32).toNatClampNeg) 1 = 0))) ∧ K E1 M1 z1 zd))) M1) M a1) E z a1
set_option maxRecDepth 100000 in
set_option maxHeartbeats 4000000 in
theorem cs_5 {x : gX} {l : Launch} {g : gE} {A : Nat → Nat → Nat} {a : Nat → Nat} {v u b L : Nat} {xs : Nat → Int32} (hC : gC x l cL_law 9 RL g 2048 94400 603072 7207018) (hNw : gNw (x_s x)) (hst : l.stackTraces = false) (hS : gScr x b L xs) {K : lwK} {i : Int32} (h1 : vp_in (i + 1) L) (h2 : vp_in (i + 2) L) (h3 : vp_in (i + 3) L) {k n : Nat} (hk : k + 8 ≤ 603072) (hn : n + 48 ≤ 7207018) (hK : ∀ (E M : Off) (z : Nat → Int64) (zd : Nat → UInt64), K E M z zd → G x g 9 (k + 8) (n + 48) (lawW g A a v u E M z zd) 3590 [(0, .ref b), (1, .ref (A 0 0)), (2, .ref (a 0)), (3, .ref u), (4, .ref v), (5, .int i)] []) {E M : Off} {z : Nat → Int64} {zd : Nat → UInt64} (h : wc_5 K E M z zd (xs (i + 1).toNatClampNeg) (xs (i + 2).toNatClampNeg) (xs (i + 3).toNatClampNeg)) : G x g 9 k n (lawW g A a v u E M z zd) 562 [(0, .ref b), (1, .ref (A 0 0)), (2, .ref (a 0)), (3, .ref u), (4, .ref v), (5, .int i)] [] := by
  unfold wc_5 at h
  refine g_aload_n hC dL_law_562 563 rfl rfl 1 rfl ?_
  refine g_aload_n hC dL_law_563 564 rfl rfl 0 rfl ?_
  refine g_iload hC dL_law_564 566 rfl 5 rfl ?_
  refine g_iconst hC (1 : Int32) dL_law_566 567 rfl iconst_1 ?_
  refine g_iadd hC dL_law_567 568 rfl ?_
  refine g_sld hC hS dL_law_568 569 rfl h1 ?_
  refine g_aload_n hC dL_law_569 570 rfl rfl 3 rfl ?_
  refine g_callW hC hNw hst (cw_isPending l g A u E z (xs (i + 1).toNatClampNeg) _ h) gY_L_isPending dL_law_570 573 rfl ml_L_220 _ _ (law_out g A a v u E M z zd) [] rfl rfl ⟨Nat.le_of_ble_eq_true rfl, Nat.le_of_ble_eq_true rfl⟩ (Nat.le_of_ble_eq_true rfl) ⟨by omega, by omega⟩ ?_
  rintro r w1 ⟨kx, E1, z1, rfl, rfl, h⟩
  rw [law_out1]
  show G x g 9 (k + 1) (n + 6) (lawW g A a v u E1 M z1 zd) 573 [(0, .ref b), (1, .ref (A 0 0)), (2, .ref (a 0)), (3, .ref u), (4, .ref v), (5, .int i)] [.int kx]
  refine g_istore (lv2 := [(6, .int kx), (0, .ref b), (1, .ref (A 0 0)), (2, .ref (a 0)), (3, .ref u), (4, .ref v), (5, .int i)]) hC dL_law_573 575 rfl (by decide) rfl ?_
  refine g_aload_n hC dL_law_575 576 rfl rfl 3 rfl ?_
  refine g_aload_n hC dL_law_576 577 rfl rfl 1 rfl ?_
  refine g_iload hC dL_law_577 579 rfl 6 rfl ?_
  refine g_iconst hC (1 : Int32) dL_law_579 580 rfl iconst_1 ?_
  refine g_iadd hC dL_law_580 581 rfl ?_
  refine g_sld hC hS dL_law_581 582 rfl h1 ?_
  refine g_subI hC (ct_X5_isPending l g a M (xs (i + 1).toNatClampNeg) _ h) gY_X5_isPending dL_law_582 585 rfl ml_L_222 (law_mod g A a v u E1 M z1 zd) (law_mod1 g A a v u E1 z1 zd) [] rfl rfl rfl 0 9 rfl rfl ⟨Nat.le_of_ble_eq_true rfl, Nat.le_of_ble_eq_true rfl⟩ (Nat.le_of_ble_eq_true rfl) ⟨by omega, by omega⟩ (fun bx M1 h => ?_)
  refine g_istore (lv2 := [(7, .int bx), (6, .int kx), (0, .ref b), (1, .ref (A 0 0)), (2, .ref (a 0)), (3, .ref u), (4, .ref v), (5, .int i)]) hC dL_law_585 587 rfl (by decide) rfl ?_
  refine g_aload_n hC dL_law_587 588 rfl rfl 4 rfl ?_
  refine g_readV hC (ct_X5_thrown l g a M1 _ h) gY_X5_thrown dL_law_588 591 rfl ml_L_203 _ _ (law_mod g A a v u E1 M1 z1 zd) [] rfl rfl rfl 0 9 rfl rfl ⟨Nat.le_of_ble_eq_true rfl, Nat.le_of_ble_eq_true rfl⟩ (Nat.le_of_ble_eq_true rfl) ⟨by omega, by omega⟩ (fun t h => ?_)
  refine g_iload hC dL_law_591 593 rfl 1 rfl ?_
  obtain ⟨h9, h⟩ := h
  refine g_icmp_eq hC dL_law_593 598 (by decide) 596 rfl (fun _ => ?_) (fun c9 => absurd h9 c9)
  refine g_iload hC dL_law_598 600 rfl 1 rfl ?_
  obtain ⟨hz9, hK9⟩ := h
  refine g_if_ne hC dL_law_600 622 (by decide) 603 rfl (fun _ => ?_) (fun c9 => ?_)
  · skip
    refine g_goto hC dL_law_622 3590 (by decide) ?_
    refine g_lv (lv2 := [(0, .ref b), (1, .ref (A 0 0)), (2, .ref (a 0)), (3, .ref u), (4, .ref v), (5, .int i)]) [2, 3, 4, 5, 6, 7] rfl ?_
    refine g_widen (k2 := k + 8) (n2 := n + 48) (by omega) (by omega) ?_
    exact hK _ _ _ _ hK9
  · have hz9 := hz9 c9
    refine g_aload_n hC dL_law_603 604 rfl rfl 5 rfl ?_
    refine g_iconst hC (0 : Int32) dL_law_604 605 rfl iconst_0 ?_
    refine g_lald hC dL_law_605 606 rfl 11 rfl (vp_in_d (by decide)) ?_
    refine g_iload hC dL_law_606 608 rfl 0 rfl ?_
    refine g_if_eq hC dL_law_608 615 (by decide) 611 rfl (fun c8 => ?_) (fun c8 => ?_)
    · have hz9 := hz9.1 c8
      refine g_lconst hC (0 : Int64) dL_law_615 616 rfl rfl ?_
      refine g_lcmp hC dL_law_616 617 rfl ?_
      refine g_if_eq hC dL_law_617 622 (by decide) 620 rfl (fun _ => ?_) (fun c7 => absurd hz9 c7)
      refine g_goto hC dL_law_622 3590 (by decide) ?_
      refine g_lv (lv2 := [(0, .ref b), (1, .ref (A 0 0)), (2, .ref (a 0)), (3, .ref u), (4, .ref v), (5, .int i)]) [2, 3, 4, 5, 6, 7] rfl ?_
      refine g_widen (k2 := k + 8) (n2 := n + 48) (by omega) (by omega) ?_
      exact hK _ _ _ _ hK9
    · have hz9 := hz9.2 c8
      refine g_lconst hC (1 : Int64) dL_law_611 612 rfl rfl ?_
      refine g_goto hC dL_law_612 616 (by decide) ?_
      refine g_lcmp hC dL_law_616 617 rfl ?_
      refine g_if_eq hC dL_law_617 622 (by decide) 620 rfl (fun _ => ?_) (fun c7 => absurd hz9 c7)
      refine g_goto hC dL_law_622 3590 (by decide) ?_
      refine g_lv (lv2 := [(0, .ref b), (1, .ref (A 0 0)), (2, .ref (a 0)), (3, .ref u), (4, .ref v), (5, .int i)]) [2, 3, 4, 5, 6, 7] rfl ?_
      refine g_widen (k2 := k + 8) (n2 := n + 48) (by omega) (by omega) ?_
      exact hK _ _ _ _ hK9
def wc_6 (K : lwK) (E M : Off) (z : Nat → Int64) (zd : Nat → UInt64) (a1 a2 a3 : Int32) : Prop := ww_isRefused (fun kx E1 z1 => wp_X5_isRefused (fun bx M1 => wp_X5_thrown (fun t => (t = kx ∧ ((kx = 0 → ((bx = 0 → lg_cmp (z1 (0 : Int32).toNatClampNeg) 0 = 0) ∧ (¬ bx = 0 → lg_cmp (z1 (0 : Int32).toNatClampNeg) 1 = 0))) ∧ K E1 M1 z1 zd))) M1) M a1) E z a1
set_option maxRecDepth 100000 in
set_option maxHeartbeats 4000000 in
theorem cs_6 {x : gX} {l : Launch} {g : gE} {A : Nat → Nat → Nat} {a : Nat → Nat} {v u b L : Nat} {xs : Nat → Int32} (hC : gC x l cL_law 9 RL g 2048 94400 603072 7207018) (hNw : gNw (x_s x)) (hst : l.stackTraces = false) (hS : gScr x b L xs) {K : lwK} {i : Int32} (h1 : vp_in (i + 1) L) (h2 : vp_in (i + 2) L) (h3 : vp_in (i + 3) L) {k n : Nat} (hk : k + 8 ≤ 603072) (hn : n + 48 ≤ 7207018) (hK : ∀ (E M : Off) (z : Nat → Int64) (zd : Nat → UInt64), K E M z zd → G x g 9 (k + 8) (n + 48) (lawW g A a v u E M z zd) 3590 [(0, .ref b), (1, .ref (A 0 0)), (2, .ref (a 0)), (3, .ref u), (4, .ref v), (5, .int i)] []) {E M : Off} {z : Nat → Int64} {zd : Nat → UInt64} (h : wc_6 K E M z zd (xs (i + 1).toNatClampNeg) (xs (i + 2).toNatClampNeg) (xs (i + 3).toNatClampNeg)) : G x g 9 k n (lawW g A a v u E M z zd) 625 [(0, .ref b), (1, .ref (A 0 0)), (2, .ref (a 0)), (3, .ref u), (4, .ref v), (5, .int i)] [] := by
  unfold wc_6 at h
  refine g_aload_n hC dL_law_625 626 rfl rfl 1 rfl ?_
  refine g_aload_n hC dL_law_626 627 rfl rfl 0 rfl ?_
  refine g_iload hC dL_law_627 629 rfl 5 rfl ?_
  refine g_iconst hC (1 : Int32) dL_law_629 630 rfl iconst_1 ?_
  refine g_iadd hC dL_law_630 631 rfl ?_
  refine g_sld hC hS dL_law_631 632 rfl h1 ?_
  refine g_aload_n hC dL_law_632 633 rfl rfl 3 rfl ?_
  refine g_callW hC hNw hst (cw_isRefused l g A u E z (xs (i + 1).toNatClampNeg) _ h) gY_L_isRefused dL_law_633 636 rfl ml_L_223 _ _ (law_out g A a v u E M z zd) [] rfl rfl ⟨Nat.le_of_ble_eq_true rfl, Nat.le_of_ble_eq_true rfl⟩ (Nat.le_of_ble_eq_true rfl) ⟨by omega, by omega⟩ ?_
  rintro r w1 ⟨kx, E1, z1, rfl, rfl, h⟩
  rw [law_out1]
  show G x g 9 (k + 1) (n + 6) (lawW g A a v u E1 M z1 zd) 636 [(0, .ref b), (1, .ref (A 0 0)), (2, .ref (a 0)), (3, .ref u), (4, .ref v), (5, .int i)] [.int kx]
  refine g_istore (lv2 := [(6, .int kx), (0, .ref b), (1, .ref (A 0 0)), (2, .ref (a 0)), (3, .ref u), (4, .ref v), (5, .int i)]) hC dL_law_636 638 rfl (by decide) rfl ?_
  refine g_aload_n hC dL_law_638 639 rfl rfl 3 rfl ?_
  refine g_aload_n hC dL_law_639 640 rfl rfl 1 rfl ?_
  refine g_iload hC dL_law_640 642 rfl 6 rfl ?_
  refine g_iconst hC (1 : Int32) dL_law_642 643 rfl iconst_1 ?_
  refine g_iadd hC dL_law_643 644 rfl ?_
  refine g_sld hC hS dL_law_644 645 rfl h1 ?_
  refine g_subI hC (ct_X5_isRefused l g a M (xs (i + 1).toNatClampNeg) _ h) gY_X5_isRefused dL_law_645 648 rfl ml_L_225 (law_mod g A a v u E1 M z1 zd) (law_mod1 g A a v u E1 z1 zd) [] rfl rfl rfl 0 9 rfl rfl ⟨Nat.le_of_ble_eq_true rfl, Nat.le_of_ble_eq_true rfl⟩ (Nat.le_of_ble_eq_true rfl) ⟨by omega, by omega⟩ (fun bx M1 h => ?_)
  refine g_istore (lv2 := [(7, .int bx), (6, .int kx), (0, .ref b), (1, .ref (A 0 0)), (2, .ref (a 0)), (3, .ref u), (4, .ref v), (5, .int i)]) hC dL_law_648 650 rfl (by decide) rfl ?_
  refine g_aload_n hC dL_law_650 651 rfl rfl 4 rfl ?_
  refine g_readV hC (ct_X5_thrown l g a M1 _ h) gY_X5_thrown dL_law_651 654 rfl ml_L_203 _ _ (law_mod g A a v u E1 M1 z1 zd) [] rfl rfl rfl 0 9 rfl rfl ⟨Nat.le_of_ble_eq_true rfl, Nat.le_of_ble_eq_true rfl⟩ (Nat.le_of_ble_eq_true rfl) ⟨by omega, by omega⟩ (fun t h => ?_)
  refine g_iload hC dL_law_654 656 rfl 1 rfl ?_
  obtain ⟨h9, h⟩ := h
  refine g_icmp_eq hC dL_law_656 661 (by decide) 659 rfl (fun _ => ?_) (fun c9 => absurd h9 c9)
  refine g_iload hC dL_law_661 663 rfl 1 rfl ?_
  obtain ⟨hz9, hK9⟩ := h
  refine g_if_ne hC dL_law_663 685 (by decide) 666 rfl (fun _ => ?_) (fun c9 => ?_)
  · skip
    refine g_goto hC dL_law_685 3590 (by decide) ?_
    refine g_lv (lv2 := [(0, .ref b), (1, .ref (A 0 0)), (2, .ref (a 0)), (3, .ref u), (4, .ref v), (5, .int i)]) [2, 3, 4, 5, 6, 7] rfl ?_
    refine g_widen (k2 := k + 8) (n2 := n + 48) (by omega) (by omega) ?_
    exact hK _ _ _ _ hK9
  · have hz9 := hz9 c9
    refine g_aload_n hC dL_law_666 667 rfl rfl 5 rfl ?_
    refine g_iconst hC (0 : Int32) dL_law_667 668 rfl iconst_0 ?_
    refine g_lald hC dL_law_668 669 rfl 11 rfl (vp_in_d (by decide)) ?_
    refine g_iload hC dL_law_669 671 rfl 0 rfl ?_
    refine g_if_eq hC dL_law_671 678 (by decide) 674 rfl (fun c8 => ?_) (fun c8 => ?_)
    · have hz9 := hz9.1 c8
      refine g_lconst hC (0 : Int64) dL_law_678 679 rfl rfl ?_
      refine g_lcmp hC dL_law_679 680 rfl ?_
      refine g_if_eq hC dL_law_680 685 (by decide) 683 rfl (fun _ => ?_) (fun c7 => absurd hz9 c7)
      refine g_goto hC dL_law_685 3590 (by decide) ?_
      refine g_lv (lv2 := [(0, .ref b), (1, .ref (A 0 0)), (2, .ref (a 0)), (3, .ref u), (4, .ref v), (5, .int i)]) [2, 3, 4, 5, 6, 7] rfl ?_
      refine g_widen (k2 := k + 8) (n2 := n + 48) (by omega) (by omega) ?_
      exact hK _ _ _ _ hK9
    · have hz9 := hz9.2 c8
      refine g_lconst hC (1 : Int64) dL_law_674 675 rfl rfl ?_
      refine g_goto hC dL_law_675 679 (by decide) ?_
      refine g_lcmp hC dL_law_679 680 rfl ?_
      refine g_if_eq hC dL_law_680 685 (by decide) 683 rfl (fun _ => ?_) (fun c7 => absurd hz9 c7)
      refine g_goto hC dL_law_685 3590 (by decide) ?_
      refine g_lv (lv2 := [(0, .ref b), (1, .ref (A 0 0)), (2, .ref (a 0)), (3, .ref u), (4, .ref v), (5, .int i)]) [2, 3, 4, 5, 6, 7] rfl ?_
      refine g_widen (k2 := k + 8) (n2 := n + 48) (by omega) (by omega) ?_
      exact hK _ _ _ _ hK9
def wc_7 (K : lwK) (E M : Off) (z : Nat → Int64) (zd : Nat → UInt64) (a1 a2 a3 : Int32) : Prop := ww_isResident (fun kx E1 z1 => wp_X5_isResident (fun bx M1 => wp_X5_thrown (fun t => (t = kx ∧ ((kx = 0 → ((bx = 0 → lg_cmp (z1 (0 : Int32).toNatClampNeg) 0 = 0) ∧ (¬ bx = 0 → lg_cmp (z1 (0 : Int32).toNatClampNeg) 1 = 0))) ∧ K E1 M1 z1 zd))) M1) M a1) E z a1
set_option maxRecDepth 100000 in
set_option maxHeartbeats 4000000 in
theorem cs_7 {x : gX} {l : Launch} {g : gE} {A : Nat → Nat → Nat} {a : Nat → Nat} {v u b L : Nat} {xs : Nat → Int32} (hC : gC x l cL_law 9 RL g 2048 94400 603072 7207018) (hNw : gNw (x_s x)) (hst : l.stackTraces = false) (hS : gScr x b L xs) {K : lwK} {i : Int32} (h1 : vp_in (i + 1) L) (h2 : vp_in (i + 2) L) (h3 : vp_in (i + 3) L) {k n : Nat} (hk : k + 8 ≤ 603072) (hn : n + 48 ≤ 7207018) (hK : ∀ (E M : Off) (z : Nat → Int64) (zd : Nat → UInt64), K E M z zd → G x g 9 (k + 8) (n + 48) (lawW g A a v u E M z zd) 3590 [(0, .ref b), (1, .ref (A 0 0)), (2, .ref (a 0)), (3, .ref u), (4, .ref v), (5, .int i)] []) {E M : Off} {z : Nat → Int64} {zd : Nat → UInt64} (h : wc_7 K E M z zd (xs (i + 1).toNatClampNeg) (xs (i + 2).toNatClampNeg) (xs (i + 3).toNatClampNeg)) : G x g 9 k n (lawW g A a v u E M z zd) 688 [(0, .ref b), (1, .ref (A 0 0)), (2, .ref (a 0)), (3, .ref u), (4, .ref v), (5, .int i)] [] := by
  unfold wc_7 at h
  refine g_aload_n hC dL_law_688 689 rfl rfl 1 rfl ?_
  refine g_aload_n hC dL_law_689 690 rfl rfl 0 rfl ?_
  refine g_iload hC dL_law_690 692 rfl 5 rfl ?_
  refine g_iconst hC (1 : Int32) dL_law_692 693 rfl iconst_1 ?_
  refine g_iadd hC dL_law_693 694 rfl ?_
  refine g_sld hC hS dL_law_694 695 rfl h1 ?_
  refine g_aload_n hC dL_law_695 696 rfl rfl 3 rfl ?_
  refine g_callW hC hNw hst (cw_isResident l g A u E z (xs (i + 1).toNatClampNeg) _ h) gY_L_isResident dL_law_696 699 rfl ml_L_226 _ _ (law_out g A a v u E M z zd) [] rfl rfl ⟨Nat.le_of_ble_eq_true rfl, Nat.le_of_ble_eq_true rfl⟩ (Nat.le_of_ble_eq_true rfl) ⟨by omega, by omega⟩ ?_
  rintro r w1 ⟨kx, E1, z1, rfl, rfl, h⟩
  rw [law_out1]
  show G x g 9 (k + 1) (n + 6) (lawW g A a v u E1 M z1 zd) 699 [(0, .ref b), (1, .ref (A 0 0)), (2, .ref (a 0)), (3, .ref u), (4, .ref v), (5, .int i)] [.int kx]
  refine g_istore (lv2 := [(6, .int kx), (0, .ref b), (1, .ref (A 0 0)), (2, .ref (a 0)), (3, .ref u), (4, .ref v), (5, .int i)]) hC dL_law_699 701 rfl (by decide) rfl ?_
  refine g_aload_n hC dL_law_701 702 rfl rfl 3 rfl ?_
  refine g_aload_n hC dL_law_702 703 rfl rfl 1 rfl ?_
  refine g_iload hC dL_law_703 705 rfl 6 rfl ?_
  refine g_iconst hC (1 : Int32) dL_law_705 706 rfl iconst_1 ?_
  refine g_iadd hC dL_law_706 707 rfl ?_
  refine g_sld hC hS dL_law_707 708 rfl h1 ?_
  refine g_subI hC (ct_X5_isResident l g a M (xs (i + 1).toNatClampNeg) _ h) gY_X5_isResident dL_law_708 711 rfl ml_L_228 (law_mod g A a v u E1 M z1 zd) (law_mod1 g A a v u E1 z1 zd) [] rfl rfl rfl 0 9 rfl rfl ⟨Nat.le_of_ble_eq_true rfl, Nat.le_of_ble_eq_true rfl⟩ (Nat.le_of_ble_eq_true rfl) ⟨by omega, by omega⟩ (fun bx M1 h => ?_)
  refine g_istore (lv2 := [(7, .int bx), (6, .int kx), (0, .ref b), (1, .ref (A 0 0)), (2, .ref (a 0)), (3, .ref u), (4, .ref v), (5, .int i)]) hC dL_law_711 713 rfl (by decide) rfl ?_
  refine g_aload_n hC dL_law_713 714 rfl rfl 4 rfl ?_
  refine g_readV hC (ct_X5_thrown l g a M1 _ h) gY_X5_thrown dL_law_714 717 rfl ml_L_203 _ _ (law_mod g A a v u E1 M1 z1 zd) [] rfl rfl rfl 0 9 rfl rfl ⟨Nat.le_of_ble_eq_true rfl, Nat.le_of_ble_eq_true rfl⟩ (Nat.le_of_ble_eq_true rfl) ⟨by omega, by omega⟩ (fun t h => ?_)
  refine g_iload hC dL_law_717 719 rfl 1 rfl ?_
  obtain ⟨h9, h⟩ := h
  refine g_icmp_eq hC dL_law_719 724 (by decide) 722 rfl (fun _ => ?_) (fun c9 => absurd h9 c9)
  refine g_iload hC dL_law_724 726 rfl 1 rfl ?_
  obtain ⟨hz9, hK9⟩ := h
  refine g_if_ne hC dL_law_726 748 (by decide) 729 rfl (fun _ => ?_) (fun c9 => ?_)
  · skip
    refine g_goto hC dL_law_748 3590 (by decide) ?_
    refine g_lv (lv2 := [(0, .ref b), (1, .ref (A 0 0)), (2, .ref (a 0)), (3, .ref u), (4, .ref v), (5, .int i)]) [2, 3, 4, 5, 6, 7] rfl ?_
    refine g_widen (k2 := k + 8) (n2 := n + 48) (by omega) (by omega) ?_
    exact hK _ _ _ _ hK9
  · have hz9 := hz9 c9
    refine g_aload_n hC dL_law_729 730 rfl rfl 5 rfl ?_
    refine g_iconst hC (0 : Int32) dL_law_730 731 rfl iconst_0 ?_
    refine g_lald hC dL_law_731 732 rfl 11 rfl (vp_in_d (by decide)) ?_
    refine g_iload hC dL_law_732 734 rfl 0 rfl ?_
    refine g_if_eq hC dL_law_734 741 (by decide) 737 rfl (fun c8 => ?_) (fun c8 => ?_)
    · have hz9 := hz9.1 c8
      refine g_lconst hC (0 : Int64) dL_law_741 742 rfl rfl ?_
      refine g_lcmp hC dL_law_742 743 rfl ?_
      refine g_if_eq hC dL_law_743 748 (by decide) 746 rfl (fun _ => ?_) (fun c7 => absurd hz9 c7)
      refine g_goto hC dL_law_748 3590 (by decide) ?_
      refine g_lv (lv2 := [(0, .ref b), (1, .ref (A 0 0)), (2, .ref (a 0)), (3, .ref u), (4, .ref v), (5, .int i)]) [2, 3, 4, 5, 6, 7] rfl ?_
      refine g_widen (k2 := k + 8) (n2 := n + 48) (by omega) (by omega) ?_
      exact hK _ _ _ _ hK9
    · have hz9 := hz9.2 c8
      refine g_lconst hC (1 : Int64) dL_law_737 738 rfl rfl ?_
      refine g_goto hC dL_law_738 742 (by decide) ?_
      refine g_lcmp hC dL_law_742 743 rfl ?_
      refine g_if_eq hC dL_law_743 748 (by decide) 746 rfl (fun _ => ?_) (fun c7 => absurd hz9 c7)
      refine g_goto hC dL_law_748 3590 (by decide) ?_
      refine g_lv (lv2 := [(0, .ref b), (1, .ref (A 0 0)), (2, .ref (a 0)), (3, .ref u), (4, .ref v), (5, .int i)]) [2, 3, 4, 5, 6, 7] rfl ?_
      refine g_widen (k2 := k + 8) (n2 := n + 48) (by omega) (by omega) ?_
      exact hK _ _ _ _ hK9
def wc_8 (K : lwK) (E M : Off) (z : Nat → Int64) (zd : Nat → UInt64) (a1 a2 a3 : Int32) : Prop := ww_drawerOf (fun kx E1 z1 => wp_X5_drawerOf (fun bx M1 => wp_X5_thrown (fun t => (t = kx ∧ ((kx = 0 → lg_cmp (z1 (0 : Int32).toNatClampNeg) (bx).toInt64 = 0) ∧ K E1 M1 z1 zd))) M1) M a1) E z a1
set_option maxRecDepth 100000 in
set_option maxHeartbeats 4000000 in
theorem cs_8 {x : gX} {l : Launch} {g : gE} {A : Nat → Nat → Nat} {a : Nat → Nat} {v u b L : Nat} {xs : Nat → Int32} (hC : gC x l cL_law 9 RL g 2048 94400 603072 7207018) (hNw : gNw (x_s x)) (hst : l.stackTraces = false) (hS : gScr x b L xs) {K : lwK} {i : Int32} (h1 : vp_in (i + 1) L) (h2 : vp_in (i + 2) L) (h3 : vp_in (i + 3) L) {k n : Nat} (hk : k + 8 ≤ 603072) (hn : n + 48 ≤ 7207018) (hK : ∀ (E M : Off) (z : Nat → Int64) (zd : Nat → UInt64), K E M z zd → G x g 9 (k + 8) (n + 48) (lawW g A a v u E M z zd) 3590 [(0, .ref b), (1, .ref (A 0 0)), (2, .ref (a 0)), (3, .ref u), (4, .ref v), (5, .int i)] []) {E M : Off} {z : Nat → Int64} {zd : Nat → UInt64} (h : wc_8 K E M z zd (xs (i + 1).toNatClampNeg) (xs (i + 2).toNatClampNeg) (xs (i + 3).toNatClampNeg)) : G x g 9 k n (lawW g A a v u E M z zd) 751 [(0, .ref b), (1, .ref (A 0 0)), (2, .ref (a 0)), (3, .ref u), (4, .ref v), (5, .int i)] [] := by
  unfold wc_8 at h
  refine g_aload_n hC dL_law_751 752 rfl rfl 1 rfl ?_
  refine g_aload_n hC dL_law_752 753 rfl rfl 0 rfl ?_
  refine g_iload hC dL_law_753 755 rfl 5 rfl ?_
  refine g_iconst hC (1 : Int32) dL_law_755 756 rfl iconst_1 ?_
  refine g_iadd hC dL_law_756 757 rfl ?_
  refine g_sld hC hS dL_law_757 758 rfl h1 ?_
  refine g_aload_n hC dL_law_758 759 rfl rfl 3 rfl ?_
  refine g_callW hC hNw hst (cw_drawerOf l g A u E z (xs (i + 1).toNatClampNeg) _ h) gY_L_drawerOf dL_law_759 762 rfl ml_L_229 _ _ (law_out g A a v u E M z zd) [] rfl rfl ⟨Nat.le_of_ble_eq_true rfl, Nat.le_of_ble_eq_true rfl⟩ (Nat.le_of_ble_eq_true rfl) ⟨by omega, by omega⟩ ?_
  rintro r w1 ⟨kx, E1, z1, rfl, rfl, h⟩
  rw [law_out1]
  show G x g 9 (k + 2) (n + 12) (lawW g A a v u E1 M z1 zd) 762 [(0, .ref b), (1, .ref (A 0 0)), (2, .ref (a 0)), (3, .ref u), (4, .ref v), (5, .int i)] [.int kx]
  refine g_istore (lv2 := [(6, .int kx), (0, .ref b), (1, .ref (A 0 0)), (2, .ref (a 0)), (3, .ref u), (4, .ref v), (5, .int i)]) hC dL_law_762 764 rfl (by decide) rfl ?_
  refine g_aload_n hC dL_law_764 765 rfl rfl 3 rfl ?_
  refine g_aload_n hC dL_law_765 766 rfl rfl 1 rfl ?_
  refine g_iload hC dL_law_766 768 rfl 6 rfl ?_
  refine g_iconst hC (1 : Int32) dL_law_768 769 rfl iconst_1 ?_
  refine g_iadd hC dL_law_769 770 rfl ?_
  refine g_sld hC hS dL_law_770 771 rfl h1 ?_
  refine g_subI hC (ct_X5_drawerOf l g a M (xs (i + 1).toNatClampNeg) _ h) gY_X5_drawerOf dL_law_771 774 rfl ml_L_231 (law_mod g A a v u E1 M z1 zd) (law_mod1 g A a v u E1 z1 zd) [] rfl rfl rfl 0 9 rfl rfl ⟨Nat.le_of_ble_eq_true rfl, Nat.le_of_ble_eq_true rfl⟩ (Nat.le_of_ble_eq_true rfl) ⟨by omega, by omega⟩ (fun bx M1 h => ?_)
  refine g_istore (lv2 := [(7, .int bx), (6, .int kx), (0, .ref b), (1, .ref (A 0 0)), (2, .ref (a 0)), (3, .ref u), (4, .ref v), (5, .int i)]) hC dL_law_774 776 rfl (by decide) rfl ?_
  refine g_aload_n hC dL_law_776 777 rfl rfl 4 rfl ?_
  refine g_readV hC (ct_X5_thrown l g a M1 _ h) gY_X5_thrown dL_law_777 780 rfl ml_L_203 _ _ (law_mod g A a v u E1 M1 z1 zd) [] rfl rfl rfl 0 9 rfl rfl ⟨Nat.le_of_ble_eq_true rfl, Nat.le_of_ble_eq_true rfl⟩ (Nat.le_of_ble_eq_true rfl) ⟨by omega, by omega⟩ (fun t h => ?_)
  refine g_iload hC dL_law_780 782 rfl 1 rfl ?_
  obtain ⟨h9, h⟩ := h
  refine g_icmp_eq hC dL_law_782 787 (by decide) 785 rfl (fun _ => ?_) (fun c9 => absurd h9 c9)
  refine g_iload hC dL_law_787 789 rfl 1 rfl ?_
  obtain ⟨hz9, hK9⟩ := h
  refine g_if_ne hC dL_law_789 804 (by decide) 792 rfl (fun _ => ?_) (fun c9 => ?_)
  · skip
    refine g_goto hC dL_law_804 3590 (by decide) ?_
    refine g_lv (lv2 := [(0, .ref b), (1, .ref (A 0 0)), (2, .ref (a 0)), (3, .ref u), (4, .ref v), (5, .int i)]) [2, 3, 4, 5, 6, 7] rfl ?_
    refine g_widen (k2 := k + 8) (n2 := n + 48) (by omega) (by omega) ?_
    exact hK _ _ _ _ hK9
  · have hz9 := hz9 c9
    refine g_aload_n hC dL_law_792 793 rfl rfl 5 rfl ?_
    refine g_iconst hC (0 : Int32) dL_law_793 794 rfl iconst_0 ?_
    refine g_lald hC dL_law_794 795 rfl 11 rfl (vp_in_d (by decide)) ?_
    refine g_iload hC dL_law_795 797 rfl 0 rfl ?_
    refine g_i2l hC dL_law_797 798 rfl ?_
    refine g_lcmp hC dL_law_798 799 rfl ?_
    refine g_if_eq hC dL_law_799 804 (by decide) 802 rfl (fun _ => ?_) (fun c7 => absurd hz9 c7)
    refine g_goto hC dL_law_804 3590 (by decide) ?_
    refine g_lv (lv2 := [(0, .ref b), (1, .ref (A 0 0)), (2, .ref (a 0)), (3, .ref u), (4, .ref v), (5, .int i)]) [2, 3, 4, 5, 6, 7] rfl ?_
    refine g_widen (k2 := k + 8) (n2 := n + 48) (by omega) (by omega) ?_
    exact hK _ _ _ _ hK9
def wc_9 (K : lwK) (E M : Off) (z : Nat → Int64) (zd : Nat → UInt64) (a1 a2 a3 : Int32) : Prop := ww_levelOf (fun kx E1 z1 => wp_X5_levelOf (fun bx M1 => wp_X5_thrown (fun t => (t = kx ∧ ((kx = 0 → lg_cmp (z1 (0 : Int32).toNatClampNeg) (bx).toInt64 = 0) ∧ K E1 M1 z1 zd))) M1) M a1) E z a1
set_option maxRecDepth 100000 in
set_option maxHeartbeats 4000000 in
theorem cs_9 {x : gX} {l : Launch} {g : gE} {A : Nat → Nat → Nat} {a : Nat → Nat} {v u b L : Nat} {xs : Nat → Int32} (hC : gC x l cL_law 9 RL g 2048 94400 603072 7207018) (hNw : gNw (x_s x)) (hst : l.stackTraces = false) (hS : gScr x b L xs) {K : lwK} {i : Int32} (h1 : vp_in (i + 1) L) (h2 : vp_in (i + 2) L) (h3 : vp_in (i + 3) L) {k n : Nat} (hk : k + 8 ≤ 603072) (hn : n + 48 ≤ 7207018) (hK : ∀ (E M : Off) (z : Nat → Int64) (zd : Nat → UInt64), K E M z zd → G x g 9 (k + 8) (n + 48) (lawW g A a v u E M z zd) 3590 [(0, .ref b), (1, .ref (A 0 0)), (2, .ref (a 0)), (3, .ref u), (4, .ref v), (5, .int i)] []) {E M : Off} {z : Nat → Int64} {zd : Nat → UInt64} (h : wc_9 K E M z zd (xs (i + 1).toNatClampNeg) (xs (i + 2).toNatClampNeg) (xs (i + 3).toNatClampNeg)) : G x g 9 k n (lawW g A a v u E M z zd) 807 [(0, .ref b), (1, .ref (A 0 0)), (2, .ref (a 0)), (3, .ref u), (4, .ref v), (5, .int i)] [] := by
  unfold wc_9 at h
  refine g_aload_n hC dL_law_807 808 rfl rfl 1 rfl ?_
  refine g_aload_n hC dL_law_808 809 rfl rfl 0 rfl ?_
  refine g_iload hC dL_law_809 811 rfl 5 rfl ?_
  refine g_iconst hC (1 : Int32) dL_law_811 812 rfl iconst_1 ?_
  refine g_iadd hC dL_law_812 813 rfl ?_
  refine g_sld hC hS dL_law_813 814 rfl h1 ?_
  refine g_aload_n hC dL_law_814 815 rfl rfl 3 rfl ?_
  refine g_callW hC hNw hst (cw_levelOf l g A u E z (xs (i + 1).toNatClampNeg) _ h) gY_L_levelOf dL_law_815 818 rfl ml_L_232 _ _ (law_out g A a v u E M z zd) [] rfl rfl ⟨Nat.le_of_ble_eq_true rfl, Nat.le_of_ble_eq_true rfl⟩ (Nat.le_of_ble_eq_true rfl) ⟨by omega, by omega⟩ ?_
  rintro r w1 ⟨kx, E1, z1, rfl, rfl, h⟩
  rw [law_out1]
  show G x g 9 (k + 2) (n + 12) (lawW g A a v u E1 M z1 zd) 818 [(0, .ref b), (1, .ref (A 0 0)), (2, .ref (a 0)), (3, .ref u), (4, .ref v), (5, .int i)] [.int kx]
  refine g_istore (lv2 := [(6, .int kx), (0, .ref b), (1, .ref (A 0 0)), (2, .ref (a 0)), (3, .ref u), (4, .ref v), (5, .int i)]) hC dL_law_818 820 rfl (by decide) rfl ?_
  refine g_aload_n hC dL_law_820 821 rfl rfl 3 rfl ?_
  refine g_aload_n hC dL_law_821 822 rfl rfl 1 rfl ?_
  refine g_iload hC dL_law_822 824 rfl 6 rfl ?_
  refine g_iconst hC (1 : Int32) dL_law_824 825 rfl iconst_1 ?_
  refine g_iadd hC dL_law_825 826 rfl ?_
  refine g_sld hC hS dL_law_826 827 rfl h1 ?_
  refine g_subI hC (ct_X5_levelOf l g a M (xs (i + 1).toNatClampNeg) _ h) gY_X5_levelOf dL_law_827 830 rfl ml_L_234 (law_mod g A a v u E1 M z1 zd) (law_mod1 g A a v u E1 z1 zd) [] rfl rfl rfl 0 9 rfl rfl ⟨Nat.le_of_ble_eq_true rfl, Nat.le_of_ble_eq_true rfl⟩ (Nat.le_of_ble_eq_true rfl) ⟨by omega, by omega⟩ (fun bx M1 h => ?_)
  refine g_istore (lv2 := [(7, .int bx), (6, .int kx), (0, .ref b), (1, .ref (A 0 0)), (2, .ref (a 0)), (3, .ref u), (4, .ref v), (5, .int i)]) hC dL_law_830 832 rfl (by decide) rfl ?_
  refine g_aload_n hC dL_law_832 833 rfl rfl 4 rfl ?_
  refine g_readV hC (ct_X5_thrown l g a M1 _ h) gY_X5_thrown dL_law_833 836 rfl ml_L_203 _ _ (law_mod g A a v u E1 M1 z1 zd) [] rfl rfl rfl 0 9 rfl rfl ⟨Nat.le_of_ble_eq_true rfl, Nat.le_of_ble_eq_true rfl⟩ (Nat.le_of_ble_eq_true rfl) ⟨by omega, by omega⟩ (fun t h => ?_)
  refine g_iload hC dL_law_836 838 rfl 1 rfl ?_
  obtain ⟨h9, h⟩ := h
  refine g_icmp_eq hC dL_law_838 843 (by decide) 841 rfl (fun _ => ?_) (fun c9 => absurd h9 c9)
  refine g_iload hC dL_law_843 845 rfl 1 rfl ?_
  obtain ⟨hz9, hK9⟩ := h
  refine g_if_ne hC dL_law_845 860 (by decide) 848 rfl (fun _ => ?_) (fun c9 => ?_)
  · skip
    refine g_goto hC dL_law_860 3590 (by decide) ?_
    refine g_lv (lv2 := [(0, .ref b), (1, .ref (A 0 0)), (2, .ref (a 0)), (3, .ref u), (4, .ref v), (5, .int i)]) [2, 3, 4, 5, 6, 7] rfl ?_
    refine g_widen (k2 := k + 8) (n2 := n + 48) (by omega) (by omega) ?_
    exact hK _ _ _ _ hK9
  · have hz9 := hz9 c9
    refine g_aload_n hC dL_law_848 849 rfl rfl 5 rfl ?_
    refine g_iconst hC (0 : Int32) dL_law_849 850 rfl iconst_0 ?_
    refine g_lald hC dL_law_850 851 rfl 11 rfl (vp_in_d (by decide)) ?_
    refine g_iload hC dL_law_851 853 rfl 0 rfl ?_
    refine g_i2l hC dL_law_853 854 rfl ?_
    refine g_lcmp hC dL_law_854 855 rfl ?_
    refine g_if_eq hC dL_law_855 860 (by decide) 858 rfl (fun _ => ?_) (fun c7 => absurd hz9 c7)
    refine g_goto hC dL_law_860 3590 (by decide) ?_
    refine g_lv (lv2 := [(0, .ref b), (1, .ref (A 0 0)), (2, .ref (a 0)), (3, .ref u), (4, .ref v), (5, .int i)]) [2, 3, 4, 5, 6, 7] rfl ?_
    refine g_widen (k2 := k + 8) (n2 := n + 48) (by omega) (by omega) ?_
    exact hK _ _ _ _ hK9
def wc_10 (K : lwK) (E M : Off) (z : Nat → Int64) (zd : Nat → UInt64) (a1 a2 a3 : Int32) : Prop := ww_visaDay (fun kx E1 z1 => wp_X5_visaDay (fun bx M1 => wp_X5_thrown (fun t => (t = kx ∧ ((kx = 0 → lg_cmp (z1 (0 : Int32).toNatClampNeg) (bx).toInt64 = 0) ∧ K E1 M1 z1 zd))) M1) M a1) E z a1
set_option maxRecDepth 100000 in
set_option maxHeartbeats 4000000 in
theorem cs_10 {x : gX} {l : Launch} {g : gE} {A : Nat → Nat → Nat} {a : Nat → Nat} {v u b L : Nat} {xs : Nat → Int32} (hC : gC x l cL_law 9 RL g 2048 94400 603072 7207018) (hNw : gNw (x_s x)) (hst : l.stackTraces = false) (hS : gScr x b L xs) {K : lwK} {i : Int32} (h1 : vp_in (i + 1) L) (h2 : vp_in (i + 2) L) (h3 : vp_in (i + 3) L) {k n : Nat} (hk : k + 8 ≤ 603072) (hn : n + 48 ≤ 7207018) (hK : ∀ (E M : Off) (z : Nat → Int64) (zd : Nat → UInt64), K E M z zd → G x g 9 (k + 8) (n + 48) (lawW g A a v u E M z zd) 3590 [(0, .ref b), (1, .ref (A 0 0)), (2, .ref (a 0)), (3, .ref u), (4, .ref v), (5, .int i)] []) {E M : Off} {z : Nat → Int64} {zd : Nat → UInt64} (h : wc_10 K E M z zd (xs (i + 1).toNatClampNeg) (xs (i + 2).toNatClampNeg) (xs (i + 3).toNatClampNeg)) : G x g 9 k n (lawW g A a v u E M z zd) 863 [(0, .ref b), (1, .ref (A 0 0)), (2, .ref (a 0)), (3, .ref u), (4, .ref v), (5, .int i)] [] := by
  unfold wc_10 at h
  refine g_aload_n hC dL_law_863 864 rfl rfl 1 rfl ?_
  refine g_aload_n hC dL_law_864 865 rfl rfl 0 rfl ?_
  refine g_iload hC dL_law_865 867 rfl 5 rfl ?_
  refine g_iconst hC (1 : Int32) dL_law_867 868 rfl iconst_1 ?_
  refine g_iadd hC dL_law_868 869 rfl ?_
  refine g_sld hC hS dL_law_869 870 rfl h1 ?_
  refine g_aload_n hC dL_law_870 871 rfl rfl 3 rfl ?_
  refine g_callW hC hNw hst (cw_visaDay l g A u E z (xs (i + 1).toNatClampNeg) _ h) gY_L_visaDay dL_law_871 874 rfl ml_L_235 _ _ (law_out g A a v u E M z zd) [] rfl rfl ⟨Nat.le_of_ble_eq_true rfl, Nat.le_of_ble_eq_true rfl⟩ (Nat.le_of_ble_eq_true rfl) ⟨by omega, by omega⟩ ?_
  rintro r w1 ⟨kx, E1, z1, rfl, rfl, h⟩
  rw [law_out1]
  show G x g 9 (k + 2) (n + 12) (lawW g A a v u E1 M z1 zd) 874 [(0, .ref b), (1, .ref (A 0 0)), (2, .ref (a 0)), (3, .ref u), (4, .ref v), (5, .int i)] [.int kx]
  refine g_istore (lv2 := [(6, .int kx), (0, .ref b), (1, .ref (A 0 0)), (2, .ref (a 0)), (3, .ref u), (4, .ref v), (5, .int i)]) hC dL_law_874 876 rfl (by decide) rfl ?_
  refine g_aload_n hC dL_law_876 877 rfl rfl 3 rfl ?_
  refine g_aload_n hC dL_law_877 878 rfl rfl 1 rfl ?_
  refine g_iload hC dL_law_878 880 rfl 6 rfl ?_
  refine g_iconst hC (1 : Int32) dL_law_880 881 rfl iconst_1 ?_
  refine g_iadd hC dL_law_881 882 rfl ?_
  refine g_sld hC hS dL_law_882 883 rfl h1 ?_
  refine g_subI hC (ct_X5_visaDay l g a M (xs (i + 1).toNatClampNeg) _ h) gY_X5_visaDay dL_law_883 886 rfl ml_L_237 (law_mod g A a v u E1 M z1 zd) (law_mod1 g A a v u E1 z1 zd) [] rfl rfl rfl 0 9 rfl rfl ⟨Nat.le_of_ble_eq_true rfl, Nat.le_of_ble_eq_true rfl⟩ (Nat.le_of_ble_eq_true rfl) ⟨by omega, by omega⟩ (fun bx M1 h => ?_)
  refine g_istore (lv2 := [(7, .int bx), (6, .int kx), (0, .ref b), (1, .ref (A 0 0)), (2, .ref (a 0)), (3, .ref u), (4, .ref v), (5, .int i)]) hC dL_law_886 888 rfl (by decide) rfl ?_
  refine g_aload_n hC dL_law_888 889 rfl rfl 4 rfl ?_
  refine g_readV hC (ct_X5_thrown l g a M1 _ h) gY_X5_thrown dL_law_889 892 rfl ml_L_203 _ _ (law_mod g A a v u E1 M1 z1 zd) [] rfl rfl rfl 0 9 rfl rfl ⟨Nat.le_of_ble_eq_true rfl, Nat.le_of_ble_eq_true rfl⟩ (Nat.le_of_ble_eq_true rfl) ⟨by omega, by omega⟩ (fun t h => ?_)
  refine g_iload hC dL_law_892 894 rfl 1 rfl ?_
  obtain ⟨h9, h⟩ := h
  refine g_icmp_eq hC dL_law_894 899 (by decide) 897 rfl (fun _ => ?_) (fun c9 => absurd h9 c9)
  refine g_iload hC dL_law_899 901 rfl 1 rfl ?_
  obtain ⟨hz9, hK9⟩ := h
  refine g_if_ne hC dL_law_901 916 (by decide) 904 rfl (fun _ => ?_) (fun c9 => ?_)
  · skip
    refine g_goto hC dL_law_916 3590 (by decide) ?_
    refine g_lv (lv2 := [(0, .ref b), (1, .ref (A 0 0)), (2, .ref (a 0)), (3, .ref u), (4, .ref v), (5, .int i)]) [2, 3, 4, 5, 6, 7] rfl ?_
    refine g_widen (k2 := k + 8) (n2 := n + 48) (by omega) (by omega) ?_
    exact hK _ _ _ _ hK9
  · have hz9 := hz9 c9
    refine g_aload_n hC dL_law_904 905 rfl rfl 5 rfl ?_
    refine g_iconst hC (0 : Int32) dL_law_905 906 rfl iconst_0 ?_
    refine g_lald hC dL_law_906 907 rfl 11 rfl (vp_in_d (by decide)) ?_
    refine g_iload hC dL_law_907 909 rfl 0 rfl ?_
    refine g_i2l hC dL_law_909 910 rfl ?_
    refine g_lcmp hC dL_law_910 911 rfl ?_
    refine g_if_eq hC dL_law_911 916 (by decide) 914 rfl (fun _ => ?_) (fun c7 => absurd hz9 c7)
    refine g_goto hC dL_law_916 3590 (by decide) ?_
    refine g_lv (lv2 := [(0, .ref b), (1, .ref (A 0 0)), (2, .ref (a 0)), (3, .ref u), (4, .ref v), (5, .int i)]) [2, 3, 4, 5, 6, 7] rfl ?_
    refine g_widen (k2 := k + 8) (n2 := n + 48) (by omega) (by omega) ?_
    exact hK _ _ _ _ hK9
def wc_11 (K : lwK) (E M : Off) (z : Nat → Int64) (zd : Nat → UInt64) (a1 a2 a3 : Int32) : Prop := ww_partnerOf (fun kx E1 z1 => wp_X5_partnerOf (fun bx M1 => wp_X5_thrown (fun t => (t = kx ∧ ((kx = 0 → lg_cmp (z1 (0 : Int32).toNatClampNeg) (bx).toInt64 = 0) ∧ K E1 M1 z1 zd))) M1) M a1) E z a1
set_option maxRecDepth 100000 in
set_option maxHeartbeats 4000000 in
theorem cs_11 {x : gX} {l : Launch} {g : gE} {A : Nat → Nat → Nat} {a : Nat → Nat} {v u b L : Nat} {xs : Nat → Int32} (hC : gC x l cL_law 9 RL g 2048 94400 603072 7207018) (hNw : gNw (x_s x)) (hst : l.stackTraces = false) (hS : gScr x b L xs) {K : lwK} {i : Int32} (h1 : vp_in (i + 1) L) (h2 : vp_in (i + 2) L) (h3 : vp_in (i + 3) L) {k n : Nat} (hk : k + 8 ≤ 603072) (hn : n + 48 ≤ 7207018) (hK : ∀ (E M : Off) (z : Nat → Int64) (zd : Nat → UInt64), K E M z zd → G x g 9 (k + 8) (n + 48) (lawW g A a v u E M z zd) 3590 [(0, .ref b), (1, .ref (A 0 0)), (2, .ref (a 0)), (3, .ref u), (4, .ref v), (5, .int i)] []) {E M : Off} {z : Nat → Int64} {zd : Nat → UInt64} (h : wc_11 K E M z zd (xs (i + 1).toNatClampNeg) (xs (i + 2).toNatClampNeg) (xs (i + 3).toNatClampNeg)) : G x g 9 k n (lawW g A a v u E M z zd) 919 [(0, .ref b), (1, .ref (A 0 0)), (2, .ref (a 0)), (3, .ref u), (4, .ref v), (5, .int i)] [] := by
  unfold wc_11 at h
  refine g_aload_n hC dL_law_919 920 rfl rfl 1 rfl ?_
  refine g_aload_n hC dL_law_920 921 rfl rfl 0 rfl ?_
  refine g_iload hC dL_law_921 923 rfl 5 rfl ?_
  refine g_iconst hC (1 : Int32) dL_law_923 924 rfl iconst_1 ?_
  refine g_iadd hC dL_law_924 925 rfl ?_
  refine g_sld hC hS dL_law_925 926 rfl h1 ?_
  refine g_aload_n hC dL_law_926 927 rfl rfl 3 rfl ?_
  refine g_callW hC hNw hst (cw_partnerOf l g A u E z (xs (i + 1).toNatClampNeg) _ h) gY_L_partnerOf dL_law_927 930 rfl ml_L_238 _ _ (law_out g A a v u E M z zd) [] rfl rfl ⟨Nat.le_of_ble_eq_true rfl, Nat.le_of_ble_eq_true rfl⟩ (Nat.le_of_ble_eq_true rfl) ⟨by omega, by omega⟩ ?_
  rintro r w1 ⟨kx, E1, z1, rfl, rfl, h⟩
  rw [law_out1]
  show G x g 9 (k + 2) (n + 12) (lawW g A a v u E1 M z1 zd) 930 [(0, .ref b), (1, .ref (A 0 0)), (2, .ref (a 0)), (3, .ref u), (4, .ref v), (5, .int i)] [.int kx]
  refine g_istore (lv2 := [(6, .int kx), (0, .ref b), (1, .ref (A 0 0)), (2, .ref (a 0)), (3, .ref u), (4, .ref v), (5, .int i)]) hC dL_law_930 932 rfl (by decide) rfl ?_
  refine g_aload_n hC dL_law_932 933 rfl rfl 3 rfl ?_
  refine g_aload_n hC dL_law_933 934 rfl rfl 1 rfl ?_
  refine g_iload hC dL_law_934 936 rfl 6 rfl ?_
  refine g_iconst hC (1 : Int32) dL_law_936 937 rfl iconst_1 ?_
  refine g_iadd hC dL_law_937 938 rfl ?_
  refine g_sld hC hS dL_law_938 939 rfl h1 ?_
  refine g_subI hC (ct_X5_partnerOf l g a M (xs (i + 1).toNatClampNeg) _ h) gY_X5_partnerOf dL_law_939 942 rfl ml_L_240 (law_mod g A a v u E1 M z1 zd) (law_mod1 g A a v u E1 z1 zd) [] rfl rfl rfl 0 9 rfl rfl ⟨Nat.le_of_ble_eq_true rfl, Nat.le_of_ble_eq_true rfl⟩ (Nat.le_of_ble_eq_true rfl) ⟨by omega, by omega⟩ (fun bx M1 h => ?_)
  refine g_istore (lv2 := [(7, .int bx), (6, .int kx), (0, .ref b), (1, .ref (A 0 0)), (2, .ref (a 0)), (3, .ref u), (4, .ref v), (5, .int i)]) hC dL_law_942 944 rfl (by decide) rfl ?_
  refine g_aload_n hC dL_law_944 945 rfl rfl 4 rfl ?_
  refine g_readV hC (ct_X5_thrown l g a M1 _ h) gY_X5_thrown dL_law_945 948 rfl ml_L_203 _ _ (law_mod g A a v u E1 M1 z1 zd) [] rfl rfl rfl 0 9 rfl rfl ⟨Nat.le_of_ble_eq_true rfl, Nat.le_of_ble_eq_true rfl⟩ (Nat.le_of_ble_eq_true rfl) ⟨by omega, by omega⟩ (fun t h => ?_)
  refine g_iload hC dL_law_948 950 rfl 1 rfl ?_
  obtain ⟨h9, h⟩ := h
  refine g_icmp_eq hC dL_law_950 955 (by decide) 953 rfl (fun _ => ?_) (fun c9 => absurd h9 c9)
  refine g_iload hC dL_law_955 957 rfl 1 rfl ?_
  obtain ⟨hz9, hK9⟩ := h
  refine g_if_ne hC dL_law_957 972 (by decide) 960 rfl (fun _ => ?_) (fun c9 => ?_)
  · skip
    refine g_goto hC dL_law_972 3590 (by decide) ?_
    refine g_lv (lv2 := [(0, .ref b), (1, .ref (A 0 0)), (2, .ref (a 0)), (3, .ref u), (4, .ref v), (5, .int i)]) [2, 3, 4, 5, 6, 7] rfl ?_
    refine g_widen (k2 := k + 8) (n2 := n + 48) (by omega) (by omega) ?_
    exact hK _ _ _ _ hK9
  · have hz9 := hz9 c9
    refine g_aload_n hC dL_law_960 961 rfl rfl 5 rfl ?_
    refine g_iconst hC (0 : Int32) dL_law_961 962 rfl iconst_0 ?_
    refine g_lald hC dL_law_962 963 rfl 11 rfl (vp_in_d (by decide)) ?_
    refine g_iload hC dL_law_963 965 rfl 0 rfl ?_
    refine g_i2l hC dL_law_965 966 rfl ?_
    refine g_lcmp hC dL_law_966 967 rfl ?_
    refine g_if_eq hC dL_law_967 972 (by decide) 970 rfl (fun _ => ?_) (fun c7 => absurd hz9 c7)
    refine g_goto hC dL_law_972 3590 (by decide) ?_
    refine g_lv (lv2 := [(0, .ref b), (1, .ref (A 0 0)), (2, .ref (a 0)), (3, .ref u), (4, .ref v), (5, .int i)]) [2, 3, 4, 5, 6, 7] rfl ?_
    refine g_widen (k2 := k + 8) (n2 := n + 48) (by omega) (by omega) ?_
    exact hK _ _ _ _ hK9
def wc_12 (K : lwK) (E M : Off) (z : Nat → Int64) (zd : Nat → UInt64) (a1 a2 a3 : Int32) : Prop := ww_matches (fun kx E1 z1 => wp_X5_matches (fun bx M1 => wp_X5_thrown (fun t => (t = kx ∧ ((kx = 0 → ((bx = 0 → lg_cmp (z1 (0 : Int32).toNatClampNeg) 0 = 0) ∧ (¬ bx = 0 → lg_cmp (z1 (0 : Int32).toNatClampNeg) 1 = 0))) ∧ K E1 M1 z1 zd))) M1) M a1 a2) E z a1 a2
set_option maxRecDepth 100000 in
set_option maxHeartbeats 4000000 in
theorem cs_12 {x : gX} {l : Launch} {g : gE} {A : Nat → Nat → Nat} {a : Nat → Nat} {v u b L : Nat} {xs : Nat → Int32} (hC : gC x l cL_law 9 RL g 2048 94400 603072 7207018) (hNw : gNw (x_s x)) (hst : l.stackTraces = false) (hS : gScr x b L xs) {K : lwK} {i : Int32} (h1 : vp_in (i + 1) L) (h2 : vp_in (i + 2) L) (h3 : vp_in (i + 3) L) {k n : Nat} (hk : k + 8 ≤ 603072) (hn : n + 48 ≤ 7207018) (hK : ∀ (E M : Off) (z : Nat → Int64) (zd : Nat → UInt64), K E M z zd → G x g 9 (k + 8) (n + 48) (lawW g A a v u E M z zd) 3590 [(0, .ref b), (1, .ref (A 0 0)), (2, .ref (a 0)), (3, .ref u), (4, .ref v), (5, .int i)] []) {E M : Off} {z : Nat → Int64} {zd : Nat → UInt64} (h : wc_12 K E M z zd (xs (i + 1).toNatClampNeg) (xs (i + 2).toNatClampNeg) (xs (i + 3).toNatClampNeg)) : G x g 9 k n (lawW g A a v u E M z zd) 975 [(0, .ref b), (1, .ref (A 0 0)), (2, .ref (a 0)), (3, .ref u), (4, .ref v), (5, .int i)] [] := by
  unfold wc_12 at h
  refine g_aload_n hC dL_law_975 976 rfl rfl 1 rfl ?_
  refine g_aload_n hC dL_law_976 977 rfl rfl 0 rfl ?_
  refine g_iload hC dL_law_977 979 rfl 5 rfl ?_
  refine g_iconst hC (1 : Int32) dL_law_979 980 rfl iconst_1 ?_
  refine g_iadd hC dL_law_980 981 rfl ?_
  refine g_sld hC hS dL_law_981 982 rfl h1 ?_
  refine g_aload_n hC dL_law_982 983 rfl rfl 0 rfl ?_
  refine g_iload hC dL_law_983 985 rfl 5 rfl ?_
  refine g_iconst hC (2 : Int32) dL_law_985 986 rfl iconst_2 ?_
  refine g_iadd hC dL_law_986 987 rfl ?_
  refine g_sld hC hS dL_law_987 988 rfl h2 ?_
  refine g_aload_n hC dL_law_988 989 rfl rfl 3 rfl ?_
  refine g_callW hC hNw hst (cw_matches l g A u E z (xs (i + 1).toNatClampNeg) (xs (i + 2).toNatClampNeg) _ h) gY_L_matches dL_law_989 992 rfl ml_L_241 _ _ (law_out g A a v u E M z zd) [] rfl rfl ⟨Nat.le_of_ble_eq_true rfl, Nat.le_of_ble_eq_true rfl⟩ (Nat.le_of_ble_eq_true rfl) ⟨by omega, by omega⟩ ?_
  rintro r w1 ⟨kx, E1, z1, rfl, rfl, h⟩
  rw [law_out1]
  show G x g 9 (k + 2) (n + 12) (lawW g A a v u E1 M z1 zd) 992 [(0, .ref b), (1, .ref (A 0 0)), (2, .ref (a 0)), (3, .ref u), (4, .ref v), (5, .int i)] [.int kx]
  refine g_istore (lv2 := [(6, .int kx), (0, .ref b), (1, .ref (A 0 0)), (2, .ref (a 0)), (3, .ref u), (4, .ref v), (5, .int i)]) hC dL_law_992 994 rfl (by decide) rfl ?_
  refine g_aload_n hC dL_law_994 995 rfl rfl 3 rfl ?_
  refine g_aload_n hC dL_law_995 996 rfl rfl 1 rfl ?_
  refine g_iload hC dL_law_996 998 rfl 6 rfl ?_
  refine g_iconst hC (1 : Int32) dL_law_998 999 rfl iconst_1 ?_
  refine g_iadd hC dL_law_999 1000 rfl ?_
  refine g_sld hC hS dL_law_1000 1001 rfl h1 ?_
  refine g_aload_n hC dL_law_1001 1002 rfl rfl 1 rfl ?_
  refine g_iload hC dL_law_1002 1004 rfl 6 rfl ?_
  refine g_iconst hC (2 : Int32) dL_law_1004 1005 rfl iconst_2 ?_
  refine g_iadd hC dL_law_1005 1006 rfl ?_
  refine g_sld hC hS dL_law_1006 1007 rfl h2 ?_
  refine g_subI hC (ct_X5_matches l g a M (xs (i + 1).toNatClampNeg) (xs (i + 2).toNatClampNeg) _ h) gY_X5_matches dL_law_1007 1010 rfl ml_L_244 (law_mod g A a v u E1 M z1 zd) (law_mod1 g A a v u E1 z1 zd) [] rfl rfl rfl 0 9 rfl rfl ⟨Nat.le_of_ble_eq_true rfl, Nat.le_of_ble_eq_true rfl⟩ (Nat.le_of_ble_eq_true rfl) ⟨by omega, by omega⟩ (fun bx M1 h => ?_)
  refine g_istore (lv2 := [(7, .int bx), (6, .int kx), (0, .ref b), (1, .ref (A 0 0)), (2, .ref (a 0)), (3, .ref u), (4, .ref v), (5, .int i)]) hC dL_law_1010 1012 rfl (by decide) rfl ?_
  refine g_aload_n hC dL_law_1012 1013 rfl rfl 4 rfl ?_
  refine g_readV hC (ct_X5_thrown l g a M1 _ h) gY_X5_thrown dL_law_1013 1016 rfl ml_L_203 _ _ (law_mod g A a v u E1 M1 z1 zd) [] rfl rfl rfl 0 9 rfl rfl ⟨Nat.le_of_ble_eq_true rfl, Nat.le_of_ble_eq_true rfl⟩ (Nat.le_of_ble_eq_true rfl) ⟨by omega, by omega⟩ (fun t h => ?_)
  refine g_iload hC dL_law_1016 1018 rfl 1 rfl ?_
  obtain ⟨h9, h⟩ := h
  refine g_icmp_eq hC dL_law_1018 1023 (by decide) 1021 rfl (fun _ => ?_) (fun c9 => absurd h9 c9)
  refine g_iload hC dL_law_1023 1025 rfl 1 rfl ?_
  obtain ⟨hz9, hK9⟩ := h
  refine g_if_ne hC dL_law_1025 1047 (by decide) 1028 rfl (fun _ => ?_) (fun c9 => ?_)
  · skip
    refine g_goto hC dL_law_1047 3590 (by decide) ?_
    refine g_lv (lv2 := [(0, .ref b), (1, .ref (A 0 0)), (2, .ref (a 0)), (3, .ref u), (4, .ref v), (5, .int i)]) [2, 3, 4, 5, 6, 7] rfl ?_
    refine g_widen (k2 := k + 8) (n2 := n + 48) (by omega) (by omega) ?_
    exact hK _ _ _ _ hK9
  · have hz9 := hz9 c9
    refine g_aload_n hC dL_law_1028 1029 rfl rfl 5 rfl ?_
    refine g_iconst hC (0 : Int32) dL_law_1029 1030 rfl iconst_0 ?_
    refine g_lald hC dL_law_1030 1031 rfl 11 rfl (vp_in_d (by decide)) ?_
    refine g_iload hC dL_law_1031 1033 rfl 0 rfl ?_
    refine g_if_eq hC dL_law_1033 1040 (by decide) 1036 rfl (fun c8 => ?_) (fun c8 => ?_)
    · have hz9 := hz9.1 c8
      refine g_lconst hC (0 : Int64) dL_law_1040 1041 rfl rfl ?_
      refine g_lcmp hC dL_law_1041 1042 rfl ?_
      refine g_if_eq hC dL_law_1042 1047 (by decide) 1045 rfl (fun _ => ?_) (fun c7 => absurd hz9 c7)
      refine g_goto hC dL_law_1047 3590 (by decide) ?_
      refine g_lv (lv2 := [(0, .ref b), (1, .ref (A 0 0)), (2, .ref (a 0)), (3, .ref u), (4, .ref v), (5, .int i)]) [2, 3, 4, 5, 6, 7] rfl ?_
      refine g_widen (k2 := k + 8) (n2 := n + 48) (by omega) (by omega) ?_
      exact hK _ _ _ _ hK9
    · have hz9 := hz9.2 c8
      refine g_lconst hC (1 : Int64) dL_law_1036 1037 rfl rfl ?_
      refine g_goto hC dL_law_1037 1041 (by decide) ?_
      refine g_lcmp hC dL_law_1041 1042 rfl ?_
      refine g_if_eq hC dL_law_1042 1047 (by decide) 1045 rfl (fun _ => ?_) (fun c7 => absurd hz9 c7)
      refine g_goto hC dL_law_1047 3590 (by decide) ?_
      refine g_lv (lv2 := [(0, .ref b), (1, .ref (A 0 0)), (2, .ref (a 0)), (3, .ref u), (4, .ref v), (5, .int i)]) [2, 3, 4, 5, 6, 7] rfl ?_
      refine g_widen (k2 := k + 8) (n2 := n + 48) (by omega) (by omega) ?_
      exact hK _ _ _ _ hK9
def wc_13 (K : lwK) (E M : Off) (z : Nat → Int64) (zd : Nat → UInt64) (a1 a2 a3 : Int32) : Prop := ww_apply (fun kx E1 z1 => wp_X5_apply (fun bx M1 => wp_X5_thrown (fun t => (t = kx ∧ ((kx = 0 → lg_cmp (z1 (0 : Int32).toNatClampNeg) (bx).toInt64 = 0) ∧ K E1 M1 z1 zd))) M1) M a1 a2) E z a1 a2
set_option maxRecDepth 100000 in
set_option maxHeartbeats 4000000 in
theorem cs_13 {x : gX} {l : Launch} {g : gE} {A : Nat → Nat → Nat} {a : Nat → Nat} {v u b L : Nat} {xs : Nat → Int32} (hC : gC x l cL_law 9 RL g 2048 94400 603072 7207018) (hNw : gNw (x_s x)) (hst : l.stackTraces = false) (hS : gScr x b L xs) {K : lwK} {i : Int32} (h1 : vp_in (i + 1) L) (h2 : vp_in (i + 2) L) (h3 : vp_in (i + 3) L) {k n : Nat} (hk : k + 8 ≤ 603072) (hn : n + 48 ≤ 7207018) (hK : ∀ (E M : Off) (z : Nat → Int64) (zd : Nat → UInt64), K E M z zd → G x g 9 (k + 8) (n + 48) (lawW g A a v u E M z zd) 3590 [(0, .ref b), (1, .ref (A 0 0)), (2, .ref (a 0)), (3, .ref u), (4, .ref v), (5, .int i)] []) {E M : Off} {z : Nat → Int64} {zd : Nat → UInt64} (h : wc_13 K E M z zd (xs (i + 1).toNatClampNeg) (xs (i + 2).toNatClampNeg) (xs (i + 3).toNatClampNeg)) : G x g 9 k n (lawW g A a v u E M z zd) 1050 [(0, .ref b), (1, .ref (A 0 0)), (2, .ref (a 0)), (3, .ref u), (4, .ref v), (5, .int i)] [] := by
  unfold wc_13 at h
  refine g_aload_n hC dL_law_1050 1051 rfl rfl 1 rfl ?_
  refine g_aload_n hC dL_law_1051 1052 rfl rfl 0 rfl ?_
  refine g_iload hC dL_law_1052 1054 rfl 5 rfl ?_
  refine g_iconst hC (1 : Int32) dL_law_1054 1055 rfl iconst_1 ?_
  refine g_iadd hC dL_law_1055 1056 rfl ?_
  refine g_sld hC hS dL_law_1056 1057 rfl h1 ?_
  refine g_aload_n hC dL_law_1057 1058 rfl rfl 0 rfl ?_
  refine g_iload hC dL_law_1058 1060 rfl 5 rfl ?_
  refine g_iconst hC (2 : Int32) dL_law_1060 1061 rfl iconst_2 ?_
  refine g_iadd hC dL_law_1061 1062 rfl ?_
  refine g_sld hC hS dL_law_1062 1063 rfl h2 ?_
  refine g_aload_n hC dL_law_1063 1064 rfl rfl 3 rfl ?_
  refine g_callW hC hNw hst (cw_apply l g A u E z (xs (i + 1).toNatClampNeg) (xs (i + 2).toNatClampNeg) _ h) gY_L_apply dL_law_1064 1067 rfl ml_L_245 _ _ (law_out g A a v u E M z zd) [] rfl rfl ⟨Nat.le_of_ble_eq_true rfl, Nat.le_of_ble_eq_true rfl⟩ (Nat.le_of_ble_eq_true rfl) ⟨by omega, by omega⟩ ?_
  rintro r w1 ⟨kx, E1, z1, rfl, rfl, h⟩
  rw [law_out1]
  show G x g 9 (k + 4) (n + 24) (lawW g A a v u E1 M z1 zd) 1067 [(0, .ref b), (1, .ref (A 0 0)), (2, .ref (a 0)), (3, .ref u), (4, .ref v), (5, .int i)] [.int kx]
  refine g_istore (lv2 := [(6, .int kx), (0, .ref b), (1, .ref (A 0 0)), (2, .ref (a 0)), (3, .ref u), (4, .ref v), (5, .int i)]) hC dL_law_1067 1069 rfl (by decide) rfl ?_
  refine g_aload_n hC dL_law_1069 1070 rfl rfl 3 rfl ?_
  refine g_aload_n hC dL_law_1070 1071 rfl rfl 1 rfl ?_
  refine g_iload hC dL_law_1071 1073 rfl 6 rfl ?_
  refine g_iconst hC (1 : Int32) dL_law_1073 1074 rfl iconst_1 ?_
  refine g_iadd hC dL_law_1074 1075 rfl ?_
  refine g_sld hC hS dL_law_1075 1076 rfl h1 ?_
  refine g_aload_n hC dL_law_1076 1077 rfl rfl 1 rfl ?_
  refine g_iload hC dL_law_1077 1079 rfl 6 rfl ?_
  refine g_iconst hC (2 : Int32) dL_law_1079 1080 rfl iconst_2 ?_
  refine g_iadd hC dL_law_1080 1081 rfl ?_
  refine g_sld hC hS dL_law_1081 1082 rfl h2 ?_
  refine g_subI hC (ct_X5_apply l g a M (xs (i + 1).toNatClampNeg) (xs (i + 2).toNatClampNeg) _ h) gY_X5_apply dL_law_1082 1085 rfl ml_L_247 (law_mod g A a v u E1 M z1 zd) (law_mod1 g A a v u E1 z1 zd) [] rfl rfl rfl 0 9 rfl rfl ⟨Nat.le_of_ble_eq_true rfl, Nat.le_of_ble_eq_true rfl⟩ (Nat.le_of_ble_eq_true rfl) ⟨by omega, by omega⟩ (fun bx M1 h => ?_)
  refine g_istore (lv2 := [(7, .int bx), (6, .int kx), (0, .ref b), (1, .ref (A 0 0)), (2, .ref (a 0)), (3, .ref u), (4, .ref v), (5, .int i)]) hC dL_law_1085 1087 rfl (by decide) rfl ?_
  refine g_aload_n hC dL_law_1087 1088 rfl rfl 4 rfl ?_
  refine g_readV hC (ct_X5_thrown l g a M1 _ h) gY_X5_thrown dL_law_1088 1091 rfl ml_L_203 _ _ (law_mod g A a v u E1 M1 z1 zd) [] rfl rfl rfl 0 9 rfl rfl ⟨Nat.le_of_ble_eq_true rfl, Nat.le_of_ble_eq_true rfl⟩ (Nat.le_of_ble_eq_true rfl) ⟨by omega, by omega⟩ (fun t h => ?_)
  refine g_iload hC dL_law_1091 1093 rfl 1 rfl ?_
  obtain ⟨h9, h⟩ := h
  refine g_icmp_eq hC dL_law_1093 1098 (by decide) 1096 rfl (fun _ => ?_) (fun c9 => absurd h9 c9)
  refine g_iload hC dL_law_1098 1100 rfl 1 rfl ?_
  obtain ⟨hz9, hK9⟩ := h
  refine g_if_ne hC dL_law_1100 1115 (by decide) 1103 rfl (fun _ => ?_) (fun c9 => ?_)
  · skip
    refine g_goto hC dL_law_1115 3590 (by decide) ?_
    refine g_lv (lv2 := [(0, .ref b), (1, .ref (A 0 0)), (2, .ref (a 0)), (3, .ref u), (4, .ref v), (5, .int i)]) [2, 3, 4, 5, 6, 7] rfl ?_
    refine g_widen (k2 := k + 8) (n2 := n + 48) (by omega) (by omega) ?_
    exact hK _ _ _ _ hK9
  · have hz9 := hz9 c9
    refine g_aload_n hC dL_law_1103 1104 rfl rfl 5 rfl ?_
    refine g_iconst hC (0 : Int32) dL_law_1104 1105 rfl iconst_0 ?_
    refine g_lald hC dL_law_1105 1106 rfl 11 rfl (vp_in_d (by decide)) ?_
    refine g_iload hC dL_law_1106 1108 rfl 0 rfl ?_
    refine g_i2l hC dL_law_1108 1109 rfl ?_
    refine g_lcmp hC dL_law_1109 1110 rfl ?_
    refine g_if_eq hC dL_law_1110 1115 (by decide) 1113 rfl (fun _ => ?_) (fun c7 => absurd hz9 c7)
    refine g_goto hC dL_law_1115 3590 (by decide) ?_
    refine g_lv (lv2 := [(0, .ref b), (1, .ref (A 0 0)), (2, .ref (a 0)), (3, .ref u), (4, .ref v), (5, .int i)]) [2, 3, 4, 5, 6, 7] rfl ?_
    refine g_widen (k2 := k + 8) (n2 := n + 48) (by omega) (by omega) ?_
    exact hK _ _ _ _ hK9
def wc_14 (K : lwK) (E M : Off) (z : Nat → Int64) (zd : Nat → UInt64) (a1 a2 a3 : Int32) : Prop := ww_withdraw (fun kx E1 z1 => wp_X5_withdraw (fun bx M1 => wp_X5_thrown (fun t => (t = kx ∧ ((kx = 0 → lg_cmp (z1 (0 : Int32).toNatClampNeg) (bx).toInt64 = 0) ∧ K E1 M1 z1 zd))) M1) M a1) E z a1
set_option maxRecDepth 100000 in
set_option maxHeartbeats 4000000 in
theorem cs_14 {x : gX} {l : Launch} {g : gE} {A : Nat → Nat → Nat} {a : Nat → Nat} {v u b L : Nat} {xs : Nat → Int32} (hC : gC x l cL_law 9 RL g 2048 94400 603072 7207018) (hNw : gNw (x_s x)) (hst : l.stackTraces = false) (hS : gScr x b L xs) {K : lwK} {i : Int32} (h1 : vp_in (i + 1) L) (h2 : vp_in (i + 2) L) (h3 : vp_in (i + 3) L) {k n : Nat} (hk : k + 8 ≤ 603072) (hn : n + 48 ≤ 7207018) (hK : ∀ (E M : Off) (z : Nat → Int64) (zd : Nat → UInt64), K E M z zd → G x g 9 (k + 8) (n + 48) (lawW g A a v u E M z zd) 3590 [(0, .ref b), (1, .ref (A 0 0)), (2, .ref (a 0)), (3, .ref u), (4, .ref v), (5, .int i)] []) {E M : Off} {z : Nat → Int64} {zd : Nat → UInt64} (h : wc_14 K E M z zd (xs (i + 1).toNatClampNeg) (xs (i + 2).toNatClampNeg) (xs (i + 3).toNatClampNeg)) : G x g 9 k n (lawW g A a v u E M z zd) 1118 [(0, .ref b), (1, .ref (A 0 0)), (2, .ref (a 0)), (3, .ref u), (4, .ref v), (5, .int i)] [] := by
  unfold wc_14 at h
  refine g_aload_n hC dL_law_1118 1119 rfl rfl 1 rfl ?_
  refine g_aload_n hC dL_law_1119 1120 rfl rfl 0 rfl ?_
  refine g_iload hC dL_law_1120 1122 rfl 5 rfl ?_
  refine g_iconst hC (1 : Int32) dL_law_1122 1123 rfl iconst_1 ?_
  refine g_iadd hC dL_law_1123 1124 rfl ?_
  refine g_sld hC hS dL_law_1124 1125 rfl h1 ?_
  refine g_aload_n hC dL_law_1125 1126 rfl rfl 3 rfl ?_
  refine g_callW hC hNw hst (cw_withdraw l g A u E z (xs (i + 1).toNatClampNeg) _ h) gY_L_withdraw dL_law_1126 1129 rfl ml_L_248 _ _ (law_out g A a v u E M z zd) [] rfl rfl ⟨Nat.le_of_ble_eq_true rfl, Nat.le_of_ble_eq_true rfl⟩ (Nat.le_of_ble_eq_true rfl) ⟨by omega, by omega⟩ ?_
  rintro r w1 ⟨kx, E1, z1, rfl, rfl, h⟩
  rw [law_out1]
  show G x g 9 (k + 4) (n + 24) (lawW g A a v u E1 M z1 zd) 1129 [(0, .ref b), (1, .ref (A 0 0)), (2, .ref (a 0)), (3, .ref u), (4, .ref v), (5, .int i)] [.int kx]
  refine g_istore (lv2 := [(6, .int kx), (0, .ref b), (1, .ref (A 0 0)), (2, .ref (a 0)), (3, .ref u), (4, .ref v), (5, .int i)]) hC dL_law_1129 1131 rfl (by decide) rfl ?_
  refine g_aload_n hC dL_law_1131 1132 rfl rfl 3 rfl ?_
  refine g_aload_n hC dL_law_1132 1133 rfl rfl 1 rfl ?_
  refine g_iload hC dL_law_1133 1135 rfl 6 rfl ?_
  refine g_iconst hC (1 : Int32) dL_law_1135 1136 rfl iconst_1 ?_
  refine g_iadd hC dL_law_1136 1137 rfl ?_
  refine g_sld hC hS dL_law_1137 1138 rfl h1 ?_
  refine g_subI hC (ct_X5_withdraw l g a M (xs (i + 1).toNatClampNeg) _ h) gY_X5_withdraw dL_law_1138 1141 rfl ml_L_250 (law_mod g A a v u E1 M z1 zd) (law_mod1 g A a v u E1 z1 zd) [] rfl rfl rfl 0 9 rfl rfl ⟨Nat.le_of_ble_eq_true rfl, Nat.le_of_ble_eq_true rfl⟩ (Nat.le_of_ble_eq_true rfl) ⟨by omega, by omega⟩ (fun bx M1 h => ?_)
  refine g_istore (lv2 := [(7, .int bx), (6, .int kx), (0, .ref b), (1, .ref (A 0 0)), (2, .ref (a 0)), (3, .ref u), (4, .ref v), (5, .int i)]) hC dL_law_1141 1143 rfl (by decide) rfl ?_
  refine g_aload_n hC dL_law_1143 1144 rfl rfl 4 rfl ?_
  refine g_readV hC (ct_X5_thrown l g a M1 _ h) gY_X5_thrown dL_law_1144 1147 rfl ml_L_203 _ _ (law_mod g A a v u E1 M1 z1 zd) [] rfl rfl rfl 0 9 rfl rfl ⟨Nat.le_of_ble_eq_true rfl, Nat.le_of_ble_eq_true rfl⟩ (Nat.le_of_ble_eq_true rfl) ⟨by omega, by omega⟩ (fun t h => ?_)
  refine g_iload hC dL_law_1147 1149 rfl 1 rfl ?_
  obtain ⟨h9, h⟩ := h
  refine g_icmp_eq hC dL_law_1149 1154 (by decide) 1152 rfl (fun _ => ?_) (fun c9 => absurd h9 c9)
  refine g_iload hC dL_law_1154 1156 rfl 1 rfl ?_
  obtain ⟨hz9, hK9⟩ := h
  refine g_if_ne hC dL_law_1156 1171 (by decide) 1159 rfl (fun _ => ?_) (fun c9 => ?_)
  · skip
    refine g_goto hC dL_law_1171 3590 (by decide) ?_
    refine g_lv (lv2 := [(0, .ref b), (1, .ref (A 0 0)), (2, .ref (a 0)), (3, .ref u), (4, .ref v), (5, .int i)]) [2, 3, 4, 5, 6, 7] rfl ?_
    refine g_widen (k2 := k + 8) (n2 := n + 48) (by omega) (by omega) ?_
    exact hK _ _ _ _ hK9
  · have hz9 := hz9 c9
    refine g_aload_n hC dL_law_1159 1160 rfl rfl 5 rfl ?_
    refine g_iconst hC (0 : Int32) dL_law_1160 1161 rfl iconst_0 ?_
    refine g_lald hC dL_law_1161 1162 rfl 11 rfl (vp_in_d (by decide)) ?_
    refine g_iload hC dL_law_1162 1164 rfl 0 rfl ?_
    refine g_i2l hC dL_law_1164 1165 rfl ?_
    refine g_lcmp hC dL_law_1165 1166 rfl ?_
    refine g_if_eq hC dL_law_1166 1171 (by decide) 1169 rfl (fun _ => ?_) (fun c7 => absurd hz9 c7)
    refine g_goto hC dL_law_1171 3590 (by decide) ?_
    refine g_lv (lv2 := [(0, .ref b), (1, .ref (A 0 0)), (2, .ref (a 0)), (3, .ref u), (4, .ref v), (5, .int i)]) [2, 3, 4, 5, 6, 7] rfl ?_
    refine g_widen (k2 := k + 8) (n2 := n + 48) (by omega) (by omega) ?_
    exact hK _ _ _ _ hK9
def wc_15 (K : lwK) (E M : Off) (z : Nat → Int64) (zd : Nat → UInt64) (a1 a2 a3 : Int32) : Prop := ww_appeal (fun kx E1 z1 => wp_X5_appeal (fun bx M1 => wp_X5_thrown (fun t => (t = kx ∧ ((kx = 0 → lg_cmp (z1 (0 : Int32).toNatClampNeg) (bx).toInt64 = 0) ∧ K E1 M1 z1 zd))) M1) M a1) E z a1
set_option maxRecDepth 100000 in
set_option maxHeartbeats 4000000 in
theorem cs_15 {x : gX} {l : Launch} {g : gE} {A : Nat → Nat → Nat} {a : Nat → Nat} {v u b L : Nat} {xs : Nat → Int32} (hC : gC x l cL_law 9 RL g 2048 94400 603072 7207018) (hNw : gNw (x_s x)) (hst : l.stackTraces = false) (hS : gScr x b L xs) {K : lwK} {i : Int32} (h1 : vp_in (i + 1) L) (h2 : vp_in (i + 2) L) (h3 : vp_in (i + 3) L) {k n : Nat} (hk : k + 8 ≤ 603072) (hn : n + 48 ≤ 7207018) (hK : ∀ (E M : Off) (z : Nat → Int64) (zd : Nat → UInt64), K E M z zd → G x g 9 (k + 8) (n + 48) (lawW g A a v u E M z zd) 3590 [(0, .ref b), (1, .ref (A 0 0)), (2, .ref (a 0)), (3, .ref u), (4, .ref v), (5, .int i)] []) {E M : Off} {z : Nat → Int64} {zd : Nat → UInt64} (h : wc_15 K E M z zd (xs (i + 1).toNatClampNeg) (xs (i + 2).toNatClampNeg) (xs (i + 3).toNatClampNeg)) : G x g 9 k n (lawW g A a v u E M z zd) 1174 [(0, .ref b), (1, .ref (A 0 0)), (2, .ref (a 0)), (3, .ref u), (4, .ref v), (5, .int i)] [] := by
  unfold wc_15 at h
  refine g_aload_n hC dL_law_1174 1175 rfl rfl 1 rfl ?_
  refine g_aload_n hC dL_law_1175 1176 rfl rfl 0 rfl ?_
  refine g_iload hC dL_law_1176 1178 rfl 5 rfl ?_
  refine g_iconst hC (1 : Int32) dL_law_1178 1179 rfl iconst_1 ?_
  refine g_iadd hC dL_law_1179 1180 rfl ?_
  refine g_sld hC hS dL_law_1180 1181 rfl h1 ?_
  refine g_aload_n hC dL_law_1181 1182 rfl rfl 3 rfl ?_
  refine g_callW hC hNw hst (cw_appeal l g A u E z (xs (i + 1).toNatClampNeg) _ h) gY_L_appeal dL_law_1182 1185 rfl ml_L_251 _ _ (law_out g A a v u E M z zd) [] rfl rfl ⟨Nat.le_of_ble_eq_true rfl, Nat.le_of_ble_eq_true rfl⟩ (Nat.le_of_ble_eq_true rfl) ⟨by omega, by omega⟩ ?_
  rintro r w1 ⟨kx, E1, z1, rfl, rfl, h⟩
  rw [law_out1]
  show G x g 9 (k + 4) (n + 24) (lawW g A a v u E1 M z1 zd) 1185 [(0, .ref b), (1, .ref (A 0 0)), (2, .ref (a 0)), (3, .ref u), (4, .ref v), (5, .int i)] [.int kx]
  refine g_istore (lv2 := [(6, .int kx), (0, .ref b), (1, .ref (A 0 0)), (2, .ref (a 0)), (3, .ref u), (4, .ref v), (5, .int i)]) hC dL_law_1185 1187 rfl (by decide) rfl ?_
  refine g_aload_n hC dL_law_1187 1188 rfl rfl 3 rfl ?_
  refine g_aload_n hC dL_law_1188 1189 rfl rfl 1 rfl ?_
  refine g_iload hC dL_law_1189 1191 rfl 6 rfl ?_
  refine g_iconst hC (1 : Int32) dL_law_1191 1192 rfl iconst_1 ?_
  refine g_iadd hC dL_law_1192 1193 rfl ?_
  refine g_sld hC hS dL_law_1193 1194 rfl h1 ?_
  refine g_subI hC (ct_X5_appeal l g a M (xs (i + 1).toNatClampNeg) _ h) gY_X5_appeal dL_law_1194 1197 rfl ml_L_253 (law_mod g A a v u E1 M z1 zd) (law_mod1 g A a v u E1 z1 zd) [] rfl rfl rfl 0 9 rfl rfl ⟨Nat.le_of_ble_eq_true rfl, Nat.le_of_ble_eq_true rfl⟩ (Nat.le_of_ble_eq_true rfl) ⟨by omega, by omega⟩ (fun bx M1 h => ?_)
  refine g_istore (lv2 := [(7, .int bx), (6, .int kx), (0, .ref b), (1, .ref (A 0 0)), (2, .ref (a 0)), (3, .ref u), (4, .ref v), (5, .int i)]) hC dL_law_1197 1199 rfl (by decide) rfl ?_
  refine g_aload_n hC dL_law_1199 1200 rfl rfl 4 rfl ?_
  refine g_readV hC (ct_X5_thrown l g a M1 _ h) gY_X5_thrown dL_law_1200 1203 rfl ml_L_203 _ _ (law_mod g A a v u E1 M1 z1 zd) [] rfl rfl rfl 0 9 rfl rfl ⟨Nat.le_of_ble_eq_true rfl, Nat.le_of_ble_eq_true rfl⟩ (Nat.le_of_ble_eq_true rfl) ⟨by omega, by omega⟩ (fun t h => ?_)
  refine g_iload hC dL_law_1203 1205 rfl 1 rfl ?_
  obtain ⟨h9, h⟩ := h
  refine g_icmp_eq hC dL_law_1205 1210 (by decide) 1208 rfl (fun _ => ?_) (fun c9 => absurd h9 c9)
  refine g_iload hC dL_law_1210 1212 rfl 1 rfl ?_
  obtain ⟨hz9, hK9⟩ := h
  refine g_if_ne hC dL_law_1212 1227 (by decide) 1215 rfl (fun _ => ?_) (fun c9 => ?_)
  · skip
    refine g_goto hC dL_law_1227 3590 (by decide) ?_
    refine g_lv (lv2 := [(0, .ref b), (1, .ref (A 0 0)), (2, .ref (a 0)), (3, .ref u), (4, .ref v), (5, .int i)]) [2, 3, 4, 5, 6, 7] rfl ?_
    refine g_widen (k2 := k + 8) (n2 := n + 48) (by omega) (by omega) ?_
    exact hK _ _ _ _ hK9
  · have hz9 := hz9 c9
    refine g_aload_n hC dL_law_1215 1216 rfl rfl 5 rfl ?_
    refine g_iconst hC (0 : Int32) dL_law_1216 1217 rfl iconst_0 ?_
    refine g_lald hC dL_law_1217 1218 rfl 11 rfl (vp_in_d (by decide)) ?_
    refine g_iload hC dL_law_1218 1220 rfl 0 rfl ?_
    refine g_i2l hC dL_law_1220 1221 rfl ?_
    refine g_lcmp hC dL_law_1221 1222 rfl ?_
    refine g_if_eq hC dL_law_1222 1227 (by decide) 1225 rfl (fun _ => ?_) (fun c7 => absurd hz9 c7)
    refine g_goto hC dL_law_1227 3590 (by decide) ?_
    refine g_lv (lv2 := [(0, .ref b), (1, .ref (A 0 0)), (2, .ref (a 0)), (3, .ref u), (4, .ref v), (5, .int i)]) [2, 3, 4, 5, 6, 7] rfl ?_
    refine g_widen (k2 := k + 8) (n2 := n + 48) (by omega) (by omega) ?_
    exact hK _ _ _ _ hK9
def wc_16 (K : lwK) (E M : Off) (z : Nat → Int64) (zd : Nat → UInt64) (a1 a2 a3 : Int32) : Prop := ww_decide (fun kx E1 z1 => wp_X5_decide (fun bx M1 => wp_X5_thrown (fun t => (t = kx ∧ ((kx = 0 → lg_cmp (z1 (0 : Int32).toNatClampNeg) (bx).toInt64 = 0) ∧ K E1 M1 z1 zd))) M1) M a1) E z a1
set_option maxRecDepth 100000 in
set_option maxHeartbeats 4000000 in
theorem cs_16 {x : gX} {l : Launch} {g : gE} {A : Nat → Nat → Nat} {a : Nat → Nat} {v u b L : Nat} {xs : Nat → Int32} (hC : gC x l cL_law 9 RL g 2048 94400 603072 7207018) (hNw : gNw (x_s x)) (hst : l.stackTraces = false) (hS : gScr x b L xs) {K : lwK} {i : Int32} (h1 : vp_in (i + 1) L) (h2 : vp_in (i + 2) L) (h3 : vp_in (i + 3) L) {k n : Nat} (hk : k + 8 ≤ 603072) (hn : n + 48 ≤ 7207018) (hK : ∀ (E M : Off) (z : Nat → Int64) (zd : Nat → UInt64), K E M z zd → G x g 9 (k + 8) (n + 48) (lawW g A a v u E M z zd) 3590 [(0, .ref b), (1, .ref (A 0 0)), (2, .ref (a 0)), (3, .ref u), (4, .ref v), (5, .int i)] []) {E M : Off} {z : Nat → Int64} {zd : Nat → UInt64} (h : wc_16 K E M z zd (xs (i + 1).toNatClampNeg) (xs (i + 2).toNatClampNeg) (xs (i + 3).toNatClampNeg)) : G x g 9 k n (lawW g A a v u E M z zd) 1230 [(0, .ref b), (1, .ref (A 0 0)), (2, .ref (a 0)), (3, .ref u), (4, .ref v), (5, .int i)] [] := by
  unfold wc_16 at h
  refine g_aload_n hC dL_law_1230 1231 rfl rfl 1 rfl ?_
  refine g_aload_n hC dL_law_1231 1232 rfl rfl 0 rfl ?_
  refine g_iload hC dL_law_1232 1234 rfl 5 rfl ?_
  refine g_iconst hC (1 : Int32) dL_law_1234 1235 rfl iconst_1 ?_
  refine g_iadd hC dL_law_1235 1236 rfl ?_
  refine g_sld hC hS dL_law_1236 1237 rfl h1 ?_
  refine g_aload_n hC dL_law_1237 1238 rfl rfl 3 rfl ?_
  refine g_callW hC hNw hst (cw_decide l g A u E z (xs (i + 1).toNatClampNeg) _ h) gY_L_decide dL_law_1238 1241 rfl ml_L_254 _ _ (law_out g A a v u E M z zd) [] rfl rfl ⟨Nat.le_of_ble_eq_true rfl, Nat.le_of_ble_eq_true rfl⟩ (Nat.le_of_ble_eq_true rfl) ⟨by omega, by omega⟩ ?_
  rintro r w1 ⟨kx, E1, z1, rfl, rfl, h⟩
  rw [law_out1]
  show G x g 9 (k + 4) (n + 24) (lawW g A a v u E1 M z1 zd) 1241 [(0, .ref b), (1, .ref (A 0 0)), (2, .ref (a 0)), (3, .ref u), (4, .ref v), (5, .int i)] [.int kx]
  refine g_istore (lv2 := [(6, .int kx), (0, .ref b), (1, .ref (A 0 0)), (2, .ref (a 0)), (3, .ref u), (4, .ref v), (5, .int i)]) hC dL_law_1241 1243 rfl (by decide) rfl ?_
  refine g_aload_n hC dL_law_1243 1244 rfl rfl 3 rfl ?_
  refine g_aload_n hC dL_law_1244 1245 rfl rfl 1 rfl ?_
  refine g_iload hC dL_law_1245 1247 rfl 6 rfl ?_
  refine g_iconst hC (1 : Int32) dL_law_1247 1248 rfl iconst_1 ?_
  refine g_iadd hC dL_law_1248 1249 rfl ?_
  refine g_sld hC hS dL_law_1249 1250 rfl h1 ?_
  refine g_subI hC (ct_X5_decide l g a M (xs (i + 1).toNatClampNeg) _ h) gY_X5_decide dL_law_1250 1253 rfl ml_L_256 (law_mod g A a v u E1 M z1 zd) (law_mod1 g A a v u E1 z1 zd) [] rfl rfl rfl 0 9 rfl rfl ⟨Nat.le_of_ble_eq_true rfl, Nat.le_of_ble_eq_true rfl⟩ (Nat.le_of_ble_eq_true rfl) ⟨by omega, by omega⟩ (fun bx M1 h => ?_)
  refine g_istore (lv2 := [(7, .int bx), (6, .int kx), (0, .ref b), (1, .ref (A 0 0)), (2, .ref (a 0)), (3, .ref u), (4, .ref v), (5, .int i)]) hC dL_law_1253 1255 rfl (by decide) rfl ?_
  refine g_aload_n hC dL_law_1255 1256 rfl rfl 4 rfl ?_
  refine g_readV hC (ct_X5_thrown l g a M1 _ h) gY_X5_thrown dL_law_1256 1259 rfl ml_L_203 _ _ (law_mod g A a v u E1 M1 z1 zd) [] rfl rfl rfl 0 9 rfl rfl ⟨Nat.le_of_ble_eq_true rfl, Nat.le_of_ble_eq_true rfl⟩ (Nat.le_of_ble_eq_true rfl) ⟨by omega, by omega⟩ (fun t h => ?_)
  refine g_iload hC dL_law_1259 1261 rfl 1 rfl ?_
  obtain ⟨h9, h⟩ := h
  refine g_icmp_eq hC dL_law_1261 1266 (by decide) 1264 rfl (fun _ => ?_) (fun c9 => absurd h9 c9)
  refine g_iload hC dL_law_1266 1268 rfl 1 rfl ?_
  obtain ⟨hz9, hK9⟩ := h
  refine g_if_ne hC dL_law_1268 1283 (by decide) 1271 rfl (fun _ => ?_) (fun c9 => ?_)
  · skip
    refine g_goto hC dL_law_1283 3590 (by decide) ?_
    refine g_lv (lv2 := [(0, .ref b), (1, .ref (A 0 0)), (2, .ref (a 0)), (3, .ref u), (4, .ref v), (5, .int i)]) [2, 3, 4, 5, 6, 7] rfl ?_
    refine g_widen (k2 := k + 8) (n2 := n + 48) (by omega) (by omega) ?_
    exact hK _ _ _ _ hK9
  · have hz9 := hz9 c9
    refine g_aload_n hC dL_law_1271 1272 rfl rfl 5 rfl ?_
    refine g_iconst hC (0 : Int32) dL_law_1272 1273 rfl iconst_0 ?_
    refine g_lald hC dL_law_1273 1274 rfl 11 rfl (vp_in_d (by decide)) ?_
    refine g_iload hC dL_law_1274 1276 rfl 0 rfl ?_
    refine g_i2l hC dL_law_1276 1277 rfl ?_
    refine g_lcmp hC dL_law_1277 1278 rfl ?_
    refine g_if_eq hC dL_law_1278 1283 (by decide) 1281 rfl (fun _ => ?_) (fun c7 => absurd hz9 c7)
    refine g_goto hC dL_law_1283 3590 (by decide) ?_
    refine g_lv (lv2 := [(0, .ref b), (1, .ref (A 0 0)), (2, .ref (a 0)), (3, .ref u), (4, .ref v), (5, .int i)]) [2, 3, 4, 5, 6, 7] rfl ?_
    refine g_widen (k2 := k + 8) (n2 := n + 48) (by omega) (by omega) ?_
    exact hK _ _ _ _ hK9
def wc_17 (K : lwK) (E M : Off) (z : Nat → Int64) (zd : Nat → UInt64) (a1 a2 a3 : Int32) : Prop := ww_wouldAdmit (fun kx E1 z1 => wp_X5_wouldAdmit (fun bx M1 => wp_X5_thrown (fun t => (t = kx ∧ ((kx = 0 → lg_cmp (z1 (0 : Int32).toNatClampNeg) (bx).toInt64 = 0) ∧ K E1 M1 z1 zd))) M1) M a1) E z a1
set_option maxRecDepth 100000 in
set_option maxHeartbeats 4000000 in
theorem cs_17 {x : gX} {l : Launch} {g : gE} {A : Nat → Nat → Nat} {a : Nat → Nat} {v u b L : Nat} {xs : Nat → Int32} (hC : gC x l cL_law 9 RL g 2048 94400 603072 7207018) (hNw : gNw (x_s x)) (hst : l.stackTraces = false) (hS : gScr x b L xs) {K : lwK} {i : Int32} (h1 : vp_in (i + 1) L) (h2 : vp_in (i + 2) L) (h3 : vp_in (i + 3) L) {k n : Nat} (hk : k + 8 ≤ 603072) (hn : n + 48 ≤ 7207018) (hK : ∀ (E M : Off) (z : Nat → Int64) (zd : Nat → UInt64), K E M z zd → G x g 9 (k + 8) (n + 48) (lawW g A a v u E M z zd) 3590 [(0, .ref b), (1, .ref (A 0 0)), (2, .ref (a 0)), (3, .ref u), (4, .ref v), (5, .int i)] []) {E M : Off} {z : Nat → Int64} {zd : Nat → UInt64} (h : wc_17 K E M z zd (xs (i + 1).toNatClampNeg) (xs (i + 2).toNatClampNeg) (xs (i + 3).toNatClampNeg)) : G x g 9 k n (lawW g A a v u E M z zd) 1286 [(0, .ref b), (1, .ref (A 0 0)), (2, .ref (a 0)), (3, .ref u), (4, .ref v), (5, .int i)] [] := by
  unfold wc_17 at h
  refine g_aload_n hC dL_law_1286 1287 rfl rfl 1 rfl ?_
  refine g_aload_n hC dL_law_1287 1288 rfl rfl 0 rfl ?_
  refine g_iload hC dL_law_1288 1290 rfl 5 rfl ?_
  refine g_iconst hC (1 : Int32) dL_law_1290 1291 rfl iconst_1 ?_
  refine g_iadd hC dL_law_1291 1292 rfl ?_
  refine g_sld hC hS dL_law_1292 1293 rfl h1 ?_
  refine g_aload_n hC dL_law_1293 1294 rfl rfl 3 rfl ?_
  refine g_callW hC hNw hst (cw_wouldAdmit l g A u E z (xs (i + 1).toNatClampNeg) _ h) gY_L_wouldAdmit dL_law_1294 1297 rfl ml_L_257 _ _ (law_out g A a v u E M z zd) [] rfl rfl ⟨Nat.le_of_ble_eq_true rfl, Nat.le_of_ble_eq_true rfl⟩ (Nat.le_of_ble_eq_true rfl) ⟨by omega, by omega⟩ ?_
  rintro r w1 ⟨kx, E1, z1, rfl, rfl, h⟩
  rw [law_out1]
  show G x g 9 (k + 1) (n + 6) (lawW g A a v u E1 M z1 zd) 1297 [(0, .ref b), (1, .ref (A 0 0)), (2, .ref (a 0)), (3, .ref u), (4, .ref v), (5, .int i)] [.int kx]
  refine g_istore (lv2 := [(6, .int kx), (0, .ref b), (1, .ref (A 0 0)), (2, .ref (a 0)), (3, .ref u), (4, .ref v), (5, .int i)]) hC dL_law_1297 1299 rfl (by decide) rfl ?_
  refine g_aload_n hC dL_law_1299 1300 rfl rfl 3 rfl ?_
  refine g_aload_n hC dL_law_1300 1301 rfl rfl 1 rfl ?_
  refine g_iload hC dL_law_1301 1303 rfl 6 rfl ?_
  refine g_iconst hC (1 : Int32) dL_law_1303 1304 rfl iconst_1 ?_
  refine g_iadd hC dL_law_1304 1305 rfl ?_
  refine g_sld hC hS dL_law_1305 1306 rfl h1 ?_
  refine g_subI hC (ct_X5_wouldAdmit l g a M (xs (i + 1).toNatClampNeg) _ h) gY_X5_wouldAdmit dL_law_1306 1309 rfl ml_L_259 (law_mod g A a v u E1 M z1 zd) (law_mod1 g A a v u E1 z1 zd) [] rfl rfl rfl 0 9 rfl rfl ⟨Nat.le_of_ble_eq_true rfl, Nat.le_of_ble_eq_true rfl⟩ (Nat.le_of_ble_eq_true rfl) ⟨by omega, by omega⟩ (fun bx M1 h => ?_)
  refine g_istore (lv2 := [(7, .int bx), (6, .int kx), (0, .ref b), (1, .ref (A 0 0)), (2, .ref (a 0)), (3, .ref u), (4, .ref v), (5, .int i)]) hC dL_law_1309 1311 rfl (by decide) rfl ?_
  refine g_aload_n hC dL_law_1311 1312 rfl rfl 4 rfl ?_
  refine g_readV hC (ct_X5_thrown l g a M1 _ h) gY_X5_thrown dL_law_1312 1315 rfl ml_L_203 _ _ (law_mod g A a v u E1 M1 z1 zd) [] rfl rfl rfl 0 9 rfl rfl ⟨Nat.le_of_ble_eq_true rfl, Nat.le_of_ble_eq_true rfl⟩ (Nat.le_of_ble_eq_true rfl) ⟨by omega, by omega⟩ (fun t h => ?_)
  refine g_iload hC dL_law_1315 1317 rfl 1 rfl ?_
  obtain ⟨h9, h⟩ := h
  refine g_icmp_eq hC dL_law_1317 1322 (by decide) 1320 rfl (fun _ => ?_) (fun c9 => absurd h9 c9)
  refine g_iload hC dL_law_1322 1324 rfl 1 rfl ?_
  obtain ⟨hz9, hK9⟩ := h
  refine g_if_ne hC dL_law_1324 1339 (by decide) 1327 rfl (fun _ => ?_) (fun c9 => ?_)
  · skip
    refine g_goto hC dL_law_1339 3590 (by decide) ?_
    refine g_lv (lv2 := [(0, .ref b), (1, .ref (A 0 0)), (2, .ref (a 0)), (3, .ref u), (4, .ref v), (5, .int i)]) [2, 3, 4, 5, 6, 7] rfl ?_
    refine g_widen (k2 := k + 8) (n2 := n + 48) (by omega) (by omega) ?_
    exact hK _ _ _ _ hK9
  · have hz9 := hz9 c9
    refine g_aload_n hC dL_law_1327 1328 rfl rfl 5 rfl ?_
    refine g_iconst hC (0 : Int32) dL_law_1328 1329 rfl iconst_0 ?_
    refine g_lald hC dL_law_1329 1330 rfl 11 rfl (vp_in_d (by decide)) ?_
    refine g_iload hC dL_law_1330 1332 rfl 0 rfl ?_
    refine g_i2l hC dL_law_1332 1333 rfl ?_
    refine g_lcmp hC dL_law_1333 1334 rfl ?_
    refine g_if_eq hC dL_law_1334 1339 (by decide) 1337 rfl (fun _ => ?_) (fun c7 => absurd hz9 c7)
    refine g_goto hC dL_law_1339 3590 (by decide) ?_
    refine g_lv (lv2 := [(0, .ref b), (1, .ref (A 0 0)), (2, .ref (a 0)), (3, .ref u), (4, .ref v), (5, .int i)]) [2, 3, 4, 5, 6, 7] rfl ?_
    refine g_widen (k2 := k + 8) (n2 := n + 48) (by omega) (by omega) ?_
    exact hK _ _ _ _ hK9
def wc_18 (K : lwK) (E M : Off) (z : Nat → Int64) (zd : Nat → UInt64) (a1 a2 a3 : Int32) : Prop := ww_queueAt (fun kx E1 z1 => wp_X5_queueAt (fun bx M1 => wp_X5_thrown (fun t => (t = kx ∧ ((kx = 0 → lg_cmp (z1 (0 : Int32).toNatClampNeg) (bx).toInt64 = 0) ∧ K E1 M1 z1 zd))) M1) M a1 a2) E z a1 a2
set_option maxRecDepth 100000 in
set_option maxHeartbeats 4000000 in
theorem cs_18 {x : gX} {l : Launch} {g : gE} {A : Nat → Nat → Nat} {a : Nat → Nat} {v u b L : Nat} {xs : Nat → Int32} (hC : gC x l cL_law 9 RL g 2048 94400 603072 7207018) (hNw : gNw (x_s x)) (hst : l.stackTraces = false) (hS : gScr x b L xs) {K : lwK} {i : Int32} (h1 : vp_in (i + 1) L) (h2 : vp_in (i + 2) L) (h3 : vp_in (i + 3) L) {k n : Nat} (hk : k + 8 ≤ 603072) (hn : n + 48 ≤ 7207018) (hK : ∀ (E M : Off) (z : Nat → Int64) (zd : Nat → UInt64), K E M z zd → G x g 9 (k + 8) (n + 48) (lawW g A a v u E M z zd) 3590 [(0, .ref b), (1, .ref (A 0 0)), (2, .ref (a 0)), (3, .ref u), (4, .ref v), (5, .int i)] []) {E M : Off} {z : Nat → Int64} {zd : Nat → UInt64} (h : wc_18 K E M z zd (xs (i + 1).toNatClampNeg) (xs (i + 2).toNatClampNeg) (xs (i + 3).toNatClampNeg)) : G x g 9 k n (lawW g A a v u E M z zd) 1342 [(0, .ref b), (1, .ref (A 0 0)), (2, .ref (a 0)), (3, .ref u), (4, .ref v), (5, .int i)] [] := by
  unfold wc_18 at h
  refine g_aload_n hC dL_law_1342 1343 rfl rfl 1 rfl ?_
  refine g_aload_n hC dL_law_1343 1344 rfl rfl 0 rfl ?_
  refine g_iload hC dL_law_1344 1346 rfl 5 rfl ?_
  refine g_iconst hC (1 : Int32) dL_law_1346 1347 rfl iconst_1 ?_
  refine g_iadd hC dL_law_1347 1348 rfl ?_
  refine g_sld hC hS dL_law_1348 1349 rfl h1 ?_
  refine g_aload_n hC dL_law_1349 1350 rfl rfl 0 rfl ?_
  refine g_iload hC dL_law_1350 1352 rfl 5 rfl ?_
  refine g_iconst hC (2 : Int32) dL_law_1352 1353 rfl iconst_2 ?_
  refine g_iadd hC dL_law_1353 1354 rfl ?_
  refine g_sld hC hS dL_law_1354 1355 rfl h2 ?_
  refine g_aload_n hC dL_law_1355 1356 rfl rfl 3 rfl ?_
  refine g_callW hC hNw hst (cw_queueAt l g A u E z (xs (i + 1).toNatClampNeg) (xs (i + 2).toNatClampNeg) _ h) gY_L_queueAt dL_law_1356 1359 rfl ml_L_260 _ _ (law_out g A a v u E M z zd) [] rfl rfl ⟨Nat.le_of_ble_eq_true rfl, Nat.le_of_ble_eq_true rfl⟩ (Nat.le_of_ble_eq_true rfl) ⟨by omega, by omega⟩ ?_
  rintro r w1 ⟨kx, E1, z1, rfl, rfl, h⟩
  rw [law_out1]
  show G x g 9 (k + 2) (n + 12) (lawW g A a v u E1 M z1 zd) 1359 [(0, .ref b), (1, .ref (A 0 0)), (2, .ref (a 0)), (3, .ref u), (4, .ref v), (5, .int i)] [.int kx]
  refine g_istore (lv2 := [(6, .int kx), (0, .ref b), (1, .ref (A 0 0)), (2, .ref (a 0)), (3, .ref u), (4, .ref v), (5, .int i)]) hC dL_law_1359 1361 rfl (by decide) rfl ?_
  refine g_aload_n hC dL_law_1361 1362 rfl rfl 3 rfl ?_
  refine g_aload_n hC dL_law_1362 1363 rfl rfl 1 rfl ?_
  refine g_iload hC dL_law_1363 1365 rfl 6 rfl ?_
  refine g_iconst hC (1 : Int32) dL_law_1365 1366 rfl iconst_1 ?_
  refine g_iadd hC dL_law_1366 1367 rfl ?_
  refine g_sld hC hS dL_law_1367 1368 rfl h1 ?_
  refine g_aload_n hC dL_law_1368 1369 rfl rfl 1 rfl ?_
  refine g_iload hC dL_law_1369 1371 rfl 6 rfl ?_
  refine g_iconst hC (2 : Int32) dL_law_1371 1372 rfl iconst_2 ?_
  refine g_iadd hC dL_law_1372 1373 rfl ?_
  refine g_sld hC hS dL_law_1373 1374 rfl h2 ?_
  refine g_subI hC (ct_X5_queueAt l g a M (xs (i + 1).toNatClampNeg) (xs (i + 2).toNatClampNeg) _ h) gY_X5_queueAt dL_law_1374 1377 rfl ml_L_262 (law_mod g A a v u E1 M z1 zd) (law_mod1 g A a v u E1 z1 zd) [] rfl rfl rfl 0 9 rfl rfl ⟨Nat.le_of_ble_eq_true rfl, Nat.le_of_ble_eq_true rfl⟩ (Nat.le_of_ble_eq_true rfl) ⟨by omega, by omega⟩ (fun bx M1 h => ?_)
  refine g_istore (lv2 := [(7, .int bx), (6, .int kx), (0, .ref b), (1, .ref (A 0 0)), (2, .ref (a 0)), (3, .ref u), (4, .ref v), (5, .int i)]) hC dL_law_1377 1379 rfl (by decide) rfl ?_
  refine g_aload_n hC dL_law_1379 1380 rfl rfl 4 rfl ?_
  refine g_readV hC (ct_X5_thrown l g a M1 _ h) gY_X5_thrown dL_law_1380 1383 rfl ml_L_203 _ _ (law_mod g A a v u E1 M1 z1 zd) [] rfl rfl rfl 0 9 rfl rfl ⟨Nat.le_of_ble_eq_true rfl, Nat.le_of_ble_eq_true rfl⟩ (Nat.le_of_ble_eq_true rfl) ⟨by omega, by omega⟩ (fun t h => ?_)
  refine g_iload hC dL_law_1383 1385 rfl 1 rfl ?_
  obtain ⟨h9, h⟩ := h
  refine g_icmp_eq hC dL_law_1385 1390 (by decide) 1388 rfl (fun _ => ?_) (fun c9 => absurd h9 c9)
  refine g_iload hC dL_law_1390 1392 rfl 1 rfl ?_
  obtain ⟨hz9, hK9⟩ := h
  refine g_if_ne hC dL_law_1392 1407 (by decide) 1395 rfl (fun _ => ?_) (fun c9 => ?_)
  · skip
    refine g_goto hC dL_law_1407 3590 (by decide) ?_
    refine g_lv (lv2 := [(0, .ref b), (1, .ref (A 0 0)), (2, .ref (a 0)), (3, .ref u), (4, .ref v), (5, .int i)]) [2, 3, 4, 5, 6, 7] rfl ?_
    refine g_widen (k2 := k + 8) (n2 := n + 48) (by omega) (by omega) ?_
    exact hK _ _ _ _ hK9
  · have hz9 := hz9 c9
    refine g_aload_n hC dL_law_1395 1396 rfl rfl 5 rfl ?_
    refine g_iconst hC (0 : Int32) dL_law_1396 1397 rfl iconst_0 ?_
    refine g_lald hC dL_law_1397 1398 rfl 11 rfl (vp_in_d (by decide)) ?_
    refine g_iload hC dL_law_1398 1400 rfl 0 rfl ?_
    refine g_i2l hC dL_law_1400 1401 rfl ?_
    refine g_lcmp hC dL_law_1401 1402 rfl ?_
    refine g_if_eq hC dL_law_1402 1407 (by decide) 1405 rfl (fun _ => ?_) (fun c7 => absurd hz9 c7)
    refine g_goto hC dL_law_1407 3590 (by decide) ?_
    refine g_lv (lv2 := [(0, .ref b), (1, .ref (A 0 0)), (2, .ref (a 0)), (3, .ref u), (4, .ref v), (5, .int i)]) [2, 3, 4, 5, 6, 7] rfl ?_
    refine g_widen (k2 := k + 8) (n2 := n + 48) (by omega) (by omega) ?_
    exact hK _ _ _ _ hK9
def wc_19 (K : lwK) (E M : Off) (z : Nat → Int64) (zd : Nat → UInt64) (a1 a2 a3 : Int32) : Prop := ww_pendingCount (fun kx E1 z1 => wp_X5_pendingCount (fun bx M1 => wp_X5_thrown (fun t => (t = kx ∧ ((kx = 0 → lg_cmp (z1 (0 : Int32).toNatClampNeg) (bx).toInt64 = 0) ∧ K E1 M1 z1 zd))) M1) M a1) E z a1
set_option maxRecDepth 100000 in
set_option maxHeartbeats 4000000 in
theorem cs_19 {x : gX} {l : Launch} {g : gE} {A : Nat → Nat → Nat} {a : Nat → Nat} {v u b L : Nat} {xs : Nat → Int32} (hC : gC x l cL_law 9 RL g 2048 94400 603072 7207018) (hNw : gNw (x_s x)) (hst : l.stackTraces = false) (hS : gScr x b L xs) {K : lwK} {i : Int32} (h1 : vp_in (i + 1) L) (h2 : vp_in (i + 2) L) (h3 : vp_in (i + 3) L) {k n : Nat} (hk : k + 8 ≤ 603072) (hn : n + 48 ≤ 7207018) (hK : ∀ (E M : Off) (z : Nat → Int64) (zd : Nat → UInt64), K E M z zd → G x g 9 (k + 8) (n + 48) (lawW g A a v u E M z zd) 3590 [(0, .ref b), (1, .ref (A 0 0)), (2, .ref (a 0)), (3, .ref u), (4, .ref v), (5, .int i)] []) {E M : Off} {z : Nat → Int64} {zd : Nat → UInt64} (h : wc_19 K E M z zd (xs (i + 1).toNatClampNeg) (xs (i + 2).toNatClampNeg) (xs (i + 3).toNatClampNeg)) : G x g 9 k n (lawW g A a v u E M z zd) 1410 [(0, .ref b), (1, .ref (A 0 0)), (2, .ref (a 0)), (3, .ref u), (4, .ref v), (5, .int i)] [] := by
  unfold wc_19 at h
  refine g_aload_n hC dL_law_1410 1411 rfl rfl 1 rfl ?_
  refine g_aload_n hC dL_law_1411 1412 rfl rfl 0 rfl ?_
  refine g_iload hC dL_law_1412 1414 rfl 5 rfl ?_
  refine g_iconst hC (1 : Int32) dL_law_1414 1415 rfl iconst_1 ?_
  refine g_iadd hC dL_law_1415 1416 rfl ?_
  refine g_sld hC hS dL_law_1416 1417 rfl h1 ?_
  refine g_aload_n hC dL_law_1417 1418 rfl rfl 3 rfl ?_
  refine g_callW hC hNw hst (cw_pendingCount l g A u E z (xs (i + 1).toNatClampNeg) _ h) gY_L_pendingCount dL_law_1418 1421 rfl ml_L_263 _ _ (law_out g A a v u E M z zd) [] rfl rfl ⟨Nat.le_of_ble_eq_true rfl, Nat.le_of_ble_eq_true rfl⟩ (Nat.le_of_ble_eq_true rfl) ⟨by omega, by omega⟩ ?_
  rintro r w1 ⟨kx, E1, z1, rfl, rfl, h⟩
  rw [law_out1]
  show G x g 9 (k + 1) (n + 6) (lawW g A a v u E1 M z1 zd) 1421 [(0, .ref b), (1, .ref (A 0 0)), (2, .ref (a 0)), (3, .ref u), (4, .ref v), (5, .int i)] [.int kx]
  refine g_istore (lv2 := [(6, .int kx), (0, .ref b), (1, .ref (A 0 0)), (2, .ref (a 0)), (3, .ref u), (4, .ref v), (5, .int i)]) hC dL_law_1421 1423 rfl (by decide) rfl ?_
  refine g_aload_n hC dL_law_1423 1424 rfl rfl 3 rfl ?_
  refine g_aload_n hC dL_law_1424 1425 rfl rfl 1 rfl ?_
  refine g_iload hC dL_law_1425 1427 rfl 6 rfl ?_
  refine g_iconst hC (1 : Int32) dL_law_1427 1428 rfl iconst_1 ?_
  refine g_iadd hC dL_law_1428 1429 rfl ?_
  refine g_sld hC hS dL_law_1429 1430 rfl h1 ?_
  refine g_subI hC (ct_X5_pendingCount l g a M (xs (i + 1).toNatClampNeg) _ h) gY_X5_pendingCount dL_law_1430 1433 rfl ml_L_265 (law_mod g A a v u E1 M z1 zd) (law_mod1 g A a v u E1 z1 zd) [] rfl rfl rfl 0 9 rfl rfl ⟨Nat.le_of_ble_eq_true rfl, Nat.le_of_ble_eq_true rfl⟩ (Nat.le_of_ble_eq_true rfl) ⟨by omega, by omega⟩ (fun bx M1 h => ?_)
  refine g_istore (lv2 := [(7, .int bx), (6, .int kx), (0, .ref b), (1, .ref (A 0 0)), (2, .ref (a 0)), (3, .ref u), (4, .ref v), (5, .int i)]) hC dL_law_1433 1435 rfl (by decide) rfl ?_
  refine g_aload_n hC dL_law_1435 1436 rfl rfl 4 rfl ?_
  refine g_readV hC (ct_X5_thrown l g a M1 _ h) gY_X5_thrown dL_law_1436 1439 rfl ml_L_203 _ _ (law_mod g A a v u E1 M1 z1 zd) [] rfl rfl rfl 0 9 rfl rfl ⟨Nat.le_of_ble_eq_true rfl, Nat.le_of_ble_eq_true rfl⟩ (Nat.le_of_ble_eq_true rfl) ⟨by omega, by omega⟩ (fun t h => ?_)
  refine g_iload hC dL_law_1439 1441 rfl 1 rfl ?_
  obtain ⟨h9, h⟩ := h
  refine g_icmp_eq hC dL_law_1441 1446 (by decide) 1444 rfl (fun _ => ?_) (fun c9 => absurd h9 c9)
  refine g_iload hC dL_law_1446 1448 rfl 1 rfl ?_
  obtain ⟨hz9, hK9⟩ := h
  refine g_if_ne hC dL_law_1448 1463 (by decide) 1451 rfl (fun _ => ?_) (fun c9 => ?_)
  · skip
    refine g_goto hC dL_law_1463 3590 (by decide) ?_
    refine g_lv (lv2 := [(0, .ref b), (1, .ref (A 0 0)), (2, .ref (a 0)), (3, .ref u), (4, .ref v), (5, .int i)]) [2, 3, 4, 5, 6, 7] rfl ?_
    refine g_widen (k2 := k + 8) (n2 := n + 48) (by omega) (by omega) ?_
    exact hK _ _ _ _ hK9
  · have hz9 := hz9 c9
    refine g_aload_n hC dL_law_1451 1452 rfl rfl 5 rfl ?_
    refine g_iconst hC (0 : Int32) dL_law_1452 1453 rfl iconst_0 ?_
    refine g_lald hC dL_law_1453 1454 rfl 11 rfl (vp_in_d (by decide)) ?_
    refine g_iload hC dL_law_1454 1456 rfl 0 rfl ?_
    refine g_i2l hC dL_law_1456 1457 rfl ?_
    refine g_lcmp hC dL_law_1457 1458 rfl ?_
    refine g_if_eq hC dL_law_1458 1463 (by decide) 1461 rfl (fun _ => ?_) (fun c7 => absurd hz9 c7)
    refine g_goto hC dL_law_1463 3590 (by decide) ?_
    refine g_lv (lv2 := [(0, .ref b), (1, .ref (A 0 0)), (2, .ref (a 0)), (3, .ref u), (4, .ref v), (5, .int i)]) [2, 3, 4, 5, 6, 7] rfl ?_
    refine g_widen (k2 := k + 8) (n2 := n + 48) (by omega) (by omega) ?_
    exact hK _ _ _ _ hK9
def wc_20 (K : lwK) (E M : Off) (z : Nat → Int64) (zd : Nat → UInt64) (a1 a2 a3 : Int32) : Prop := ww_renew (fun kx E1 z1 => wp_X5_renew (fun bx M1 => wp_X5_thrown (fun t => (t = kx ∧ ((kx = 0 → lg_cmp (z1 (0 : Int32).toNatClampNeg) (bx).toInt64 = 0) ∧ K E1 M1 z1 zd))) M1) M a1 a2) E z a1 a2
set_option maxRecDepth 100000 in
set_option maxHeartbeats 4000000 in
theorem cs_20 {x : gX} {l : Launch} {g : gE} {A : Nat → Nat → Nat} {a : Nat → Nat} {v u b L : Nat} {xs : Nat → Int32} (hC : gC x l cL_law 9 RL g 2048 94400 603072 7207018) (hNw : gNw (x_s x)) (hst : l.stackTraces = false) (hS : gScr x b L xs) {K : lwK} {i : Int32} (h1 : vp_in (i + 1) L) (h2 : vp_in (i + 2) L) (h3 : vp_in (i + 3) L) {k n : Nat} (hk : k + 8 ≤ 603072) (hn : n + 48 ≤ 7207018) (hK : ∀ (E M : Off) (z : Nat → Int64) (zd : Nat → UInt64), K E M z zd → G x g 9 (k + 8) (n + 48) (lawW g A a v u E M z zd) 3590 [(0, .ref b), (1, .ref (A 0 0)), (2, .ref (a 0)), (3, .ref u), (4, .ref v), (5, .int i)] []) {E M : Off} {z : Nat → Int64} {zd : Nat → UInt64} (h : wc_20 K E M z zd (xs (i + 1).toNatClampNeg) (xs (i + 2).toNatClampNeg) (xs (i + 3).toNatClampNeg)) : G x g 9 k n (lawW g A a v u E M z zd) 1466 [(0, .ref b), (1, .ref (A 0 0)), (2, .ref (a 0)), (3, .ref u), (4, .ref v), (5, .int i)] [] := by
  unfold wc_20 at h
  refine g_aload_n hC dL_law_1466 1467 rfl rfl 1 rfl ?_
  refine g_aload_n hC dL_law_1467 1468 rfl rfl 0 rfl ?_
  refine g_iload hC dL_law_1468 1470 rfl 5 rfl ?_
  refine g_iconst hC (1 : Int32) dL_law_1470 1471 rfl iconst_1 ?_
  refine g_iadd hC dL_law_1471 1472 rfl ?_
  refine g_sld hC hS dL_law_1472 1473 rfl h1 ?_
  refine g_aload_n hC dL_law_1473 1474 rfl rfl 0 rfl ?_
  refine g_iload hC dL_law_1474 1476 rfl 5 rfl ?_
  refine g_iconst hC (2 : Int32) dL_law_1476 1477 rfl iconst_2 ?_
  refine g_iadd hC dL_law_1477 1478 rfl ?_
  refine g_sld hC hS dL_law_1478 1479 rfl h2 ?_
  refine g_aload_n hC dL_law_1479 1480 rfl rfl 3 rfl ?_
  refine g_callW hC hNw hst (cw_renew l g A u E z (xs (i + 1).toNatClampNeg) (xs (i + 2).toNatClampNeg) _ h) gY_L_renew dL_law_1480 1483 rfl ml_L_266 _ _ (law_out g A a v u E M z zd) [] rfl rfl ⟨Nat.le_of_ble_eq_true rfl, Nat.le_of_ble_eq_true rfl⟩ (Nat.le_of_ble_eq_true rfl) ⟨by omega, by omega⟩ ?_
  rintro r w1 ⟨kx, E1, z1, rfl, rfl, h⟩
  rw [law_out1]
  show G x g 9 (k + 4) (n + 24) (lawW g A a v u E1 M z1 zd) 1483 [(0, .ref b), (1, .ref (A 0 0)), (2, .ref (a 0)), (3, .ref u), (4, .ref v), (5, .int i)] [.int kx]
  refine g_istore (lv2 := [(6, .int kx), (0, .ref b), (1, .ref (A 0 0)), (2, .ref (a 0)), (3, .ref u), (4, .ref v), (5, .int i)]) hC dL_law_1483 1485 rfl (by decide) rfl ?_
  refine g_aload_n hC dL_law_1485 1486 rfl rfl 3 rfl ?_
  refine g_aload_n hC dL_law_1486 1487 rfl rfl 1 rfl ?_
  refine g_iload hC dL_law_1487 1489 rfl 6 rfl ?_
  refine g_iconst hC (1 : Int32) dL_law_1489 1490 rfl iconst_1 ?_
  refine g_iadd hC dL_law_1490 1491 rfl ?_
  refine g_sld hC hS dL_law_1491 1492 rfl h1 ?_
  refine g_aload_n hC dL_law_1492 1493 rfl rfl 1 rfl ?_
  refine g_iload hC dL_law_1493 1495 rfl 6 rfl ?_
  refine g_iconst hC (2 : Int32) dL_law_1495 1496 rfl iconst_2 ?_
  refine g_iadd hC dL_law_1496 1497 rfl ?_
  refine g_sld hC hS dL_law_1497 1498 rfl h2 ?_
  refine g_subI hC (ct_X5_renew l g a M (xs (i + 1).toNatClampNeg) (xs (i + 2).toNatClampNeg) _ h) gY_X5_renew dL_law_1498 1501 rfl ml_L_268 (law_mod g A a v u E1 M z1 zd) (law_mod1 g A a v u E1 z1 zd) [] rfl rfl rfl 0 9 rfl rfl ⟨Nat.le_of_ble_eq_true rfl, Nat.le_of_ble_eq_true rfl⟩ (Nat.le_of_ble_eq_true rfl) ⟨by omega, by omega⟩ (fun bx M1 h => ?_)
  refine g_istore (lv2 := [(7, .int bx), (6, .int kx), (0, .ref b), (1, .ref (A 0 0)), (2, .ref (a 0)), (3, .ref u), (4, .ref v), (5, .int i)]) hC dL_law_1501 1503 rfl (by decide) rfl ?_
  refine g_aload_n hC dL_law_1503 1504 rfl rfl 4 rfl ?_
  refine g_readV hC (ct_X5_thrown l g a M1 _ h) gY_X5_thrown dL_law_1504 1507 rfl ml_L_203 _ _ (law_mod g A a v u E1 M1 z1 zd) [] rfl rfl rfl 0 9 rfl rfl ⟨Nat.le_of_ble_eq_true rfl, Nat.le_of_ble_eq_true rfl⟩ (Nat.le_of_ble_eq_true rfl) ⟨by omega, by omega⟩ (fun t h => ?_)
  refine g_iload hC dL_law_1507 1509 rfl 1 rfl ?_
  obtain ⟨h9, h⟩ := h
  refine g_icmp_eq hC dL_law_1509 1514 (by decide) 1512 rfl (fun _ => ?_) (fun c9 => absurd h9 c9)
  refine g_iload hC dL_law_1514 1516 rfl 1 rfl ?_
  obtain ⟨hz9, hK9⟩ := h
  refine g_if_ne hC dL_law_1516 1531 (by decide) 1519 rfl (fun _ => ?_) (fun c9 => ?_)
  · skip
    refine g_goto hC dL_law_1531 3590 (by decide) ?_
    refine g_lv (lv2 := [(0, .ref b), (1, .ref (A 0 0)), (2, .ref (a 0)), (3, .ref u), (4, .ref v), (5, .int i)]) [2, 3, 4, 5, 6, 7] rfl ?_
    refine g_widen (k2 := k + 8) (n2 := n + 48) (by omega) (by omega) ?_
    exact hK _ _ _ _ hK9
  · have hz9 := hz9 c9
    refine g_aload_n hC dL_law_1519 1520 rfl rfl 5 rfl ?_
    refine g_iconst hC (0 : Int32) dL_law_1520 1521 rfl iconst_0 ?_
    refine g_lald hC dL_law_1521 1522 rfl 11 rfl (vp_in_d (by decide)) ?_
    refine g_iload hC dL_law_1522 1524 rfl 0 rfl ?_
    refine g_i2l hC dL_law_1524 1525 rfl ?_
    refine g_lcmp hC dL_law_1525 1526 rfl ?_
    refine g_if_eq hC dL_law_1526 1531 (by decide) 1529 rfl (fun _ => ?_) (fun c7 => absurd hz9 c7)
    refine g_goto hC dL_law_1531 3590 (by decide) ?_
    refine g_lv (lv2 := [(0, .ref b), (1, .ref (A 0 0)), (2, .ref (a 0)), (3, .ref u), (4, .ref v), (5, .int i)]) [2, 3, 4, 5, 6, 7] rfl ?_
    refine g_widen (k2 := k + 8) (n2 := n + 48) (by omega) (by omega) ?_
    exact hK _ _ _ _ hK9
def wc_21 (K : lwK) (E M : Off) (z : Nat → Int64) (zd : Nat → UInt64) (a1 a2 a3 : Int32) : Prop := ww_leave (fun kx E1 z1 => wp_X5_leave (fun bx M1 => wp_X5_thrown (fun t => (t = kx ∧ ((kx = 0 → lg_cmp (z1 (0 : Int32).toNatClampNeg) (bx).toInt64 = 0) ∧ K E1 M1 z1 zd))) M1) M a1) E z a1
set_option maxRecDepth 100000 in
set_option maxHeartbeats 4000000 in
theorem cs_21 {x : gX} {l : Launch} {g : gE} {A : Nat → Nat → Nat} {a : Nat → Nat} {v u b L : Nat} {xs : Nat → Int32} (hC : gC x l cL_law 9 RL g 2048 94400 603072 7207018) (hNw : gNw (x_s x)) (hst : l.stackTraces = false) (hS : gScr x b L xs) {K : lwK} {i : Int32} (h1 : vp_in (i + 1) L) (h2 : vp_in (i + 2) L) (h3 : vp_in (i + 3) L) {k n : Nat} (hk : k + 8 ≤ 603072) (hn : n + 48 ≤ 7207018) (hK : ∀ (E M : Off) (z : Nat → Int64) (zd : Nat → UInt64), K E M z zd → G x g 9 (k + 8) (n + 48) (lawW g A a v u E M z zd) 3590 [(0, .ref b), (1, .ref (A 0 0)), (2, .ref (a 0)), (3, .ref u), (4, .ref v), (5, .int i)] []) {E M : Off} {z : Nat → Int64} {zd : Nat → UInt64} (h : wc_21 K E M z zd (xs (i + 1).toNatClampNeg) (xs (i + 2).toNatClampNeg) (xs (i + 3).toNatClampNeg)) : G x g 9 k n (lawW g A a v u E M z zd) 1534 [(0, .ref b), (1, .ref (A 0 0)), (2, .ref (a 0)), (3, .ref u), (4, .ref v), (5, .int i)] [] := by
  unfold wc_21 at h
  refine g_aload_n hC dL_law_1534 1535 rfl rfl 1 rfl ?_
  refine g_aload_n hC dL_law_1535 1536 rfl rfl 0 rfl ?_
  refine g_iload hC dL_law_1536 1538 rfl 5 rfl ?_
  refine g_iconst hC (1 : Int32) dL_law_1538 1539 rfl iconst_1 ?_
  refine g_iadd hC dL_law_1539 1540 rfl ?_
  refine g_sld hC hS dL_law_1540 1541 rfl h1 ?_
  refine g_aload_n hC dL_law_1541 1542 rfl rfl 3 rfl ?_
  refine g_callW hC hNw hst (cw_leave l g A u E z (xs (i + 1).toNatClampNeg) _ h) gY_L_leave dL_law_1542 1545 rfl ml_L_269 _ _ (law_out g A a v u E M z zd) [] rfl rfl ⟨Nat.le_of_ble_eq_true rfl, Nat.le_of_ble_eq_true rfl⟩ (Nat.le_of_ble_eq_true rfl) ⟨by omega, by omega⟩ ?_
  rintro r w1 ⟨kx, E1, z1, rfl, rfl, h⟩
  rw [law_out1]
  show G x g 9 (k + 4) (n + 24) (lawW g A a v u E1 M z1 zd) 1545 [(0, .ref b), (1, .ref (A 0 0)), (2, .ref (a 0)), (3, .ref u), (4, .ref v), (5, .int i)] [.int kx]
  refine g_istore (lv2 := [(6, .int kx), (0, .ref b), (1, .ref (A 0 0)), (2, .ref (a 0)), (3, .ref u), (4, .ref v), (5, .int i)]) hC dL_law_1545 1547 rfl (by decide) rfl ?_
  refine g_aload_n hC dL_law_1547 1548 rfl rfl 3 rfl ?_
  refine g_aload_n hC dL_law_1548 1549 rfl rfl 1 rfl ?_
  refine g_iload hC dL_law_1549 1551 rfl 6 rfl ?_
  refine g_iconst hC (1 : Int32) dL_law_1551 1552 rfl iconst_1 ?_
  refine g_iadd hC dL_law_1552 1553 rfl ?_
  refine g_sld hC hS dL_law_1553 1554 rfl h1 ?_
  refine g_subI hC (ct_X5_leave l g a M (xs (i + 1).toNatClampNeg) _ h) gY_X5_leave dL_law_1554 1557 rfl ml_L_271 (law_mod g A a v u E1 M z1 zd) (law_mod1 g A a v u E1 z1 zd) [] rfl rfl rfl 0 9 rfl rfl ⟨Nat.le_of_ble_eq_true rfl, Nat.le_of_ble_eq_true rfl⟩ (Nat.le_of_ble_eq_true rfl) ⟨by omega, by omega⟩ (fun bx M1 h => ?_)
  refine g_istore (lv2 := [(7, .int bx), (6, .int kx), (0, .ref b), (1, .ref (A 0 0)), (2, .ref (a 0)), (3, .ref u), (4, .ref v), (5, .int i)]) hC dL_law_1557 1559 rfl (by decide) rfl ?_
  refine g_aload_n hC dL_law_1559 1560 rfl rfl 4 rfl ?_
  refine g_readV hC (ct_X5_thrown l g a M1 _ h) gY_X5_thrown dL_law_1560 1563 rfl ml_L_203 _ _ (law_mod g A a v u E1 M1 z1 zd) [] rfl rfl rfl 0 9 rfl rfl ⟨Nat.le_of_ble_eq_true rfl, Nat.le_of_ble_eq_true rfl⟩ (Nat.le_of_ble_eq_true rfl) ⟨by omega, by omega⟩ (fun t h => ?_)
  refine g_iload hC dL_law_1563 1565 rfl 1 rfl ?_
  obtain ⟨h9, h⟩ := h
  refine g_icmp_eq hC dL_law_1565 1570 (by decide) 1568 rfl (fun _ => ?_) (fun c9 => absurd h9 c9)
  refine g_iload hC dL_law_1570 1572 rfl 1 rfl ?_
  obtain ⟨hz9, hK9⟩ := h
  refine g_if_ne hC dL_law_1572 1587 (by decide) 1575 rfl (fun _ => ?_) (fun c9 => ?_)
  · skip
    refine g_goto hC dL_law_1587 3590 (by decide) ?_
    refine g_lv (lv2 := [(0, .ref b), (1, .ref (A 0 0)), (2, .ref (a 0)), (3, .ref u), (4, .ref v), (5, .int i)]) [2, 3, 4, 5, 6, 7] rfl ?_
    refine g_widen (k2 := k + 8) (n2 := n + 48) (by omega) (by omega) ?_
    exact hK _ _ _ _ hK9
  · have hz9 := hz9 c9
    refine g_aload_n hC dL_law_1575 1576 rfl rfl 5 rfl ?_
    refine g_iconst hC (0 : Int32) dL_law_1576 1577 rfl iconst_0 ?_
    refine g_lald hC dL_law_1577 1578 rfl 11 rfl (vp_in_d (by decide)) ?_
    refine g_iload hC dL_law_1578 1580 rfl 0 rfl ?_
    refine g_i2l hC dL_law_1580 1581 rfl ?_
    refine g_lcmp hC dL_law_1581 1582 rfl ?_
    refine g_if_eq hC dL_law_1582 1587 (by decide) 1585 rfl (fun _ => ?_) (fun c7 => absurd hz9 c7)
    refine g_goto hC dL_law_1587 3590 (by decide) ?_
    refine g_lv (lv2 := [(0, .ref b), (1, .ref (A 0 0)), (2, .ref (a 0)), (3, .ref u), (4, .ref v), (5, .int i)]) [2, 3, 4, 5, 6, 7] rfl ?_
    refine g_widen (k2 := k + 8) (n2 := n + 48) (by omega) (by omega) ?_
    exact hK _ _ _ _ hK9
def wc_22 (K : lwK) (E M : Off) (z : Nat → Int64) (zd : Nat → UInt64) (a1 a2 a3 : Int32) : Prop := ww_move (fun kx E1 z1 => wp_X5_move (fun bx M1 => wp_X5_thrown (fun t => (t = kx ∧ ((kx = 0 → lg_cmp (z1 (0 : Int32).toNatClampNeg) (bx).toInt64 = 0) ∧ K E1 M1 z1 zd))) M1) M a1 a2) E z a1 a2
set_option maxRecDepth 100000 in
set_option maxHeartbeats 4000000 in
theorem cs_22 {x : gX} {l : Launch} {g : gE} {A : Nat → Nat → Nat} {a : Nat → Nat} {v u b L : Nat} {xs : Nat → Int32} (hC : gC x l cL_law 9 RL g 2048 94400 603072 7207018) (hNw : gNw (x_s x)) (hst : l.stackTraces = false) (hS : gScr x b L xs) {K : lwK} {i : Int32} (h1 : vp_in (i + 1) L) (h2 : vp_in (i + 2) L) (h3 : vp_in (i + 3) L) {k n : Nat} (hk : k + 8 ≤ 603072) (hn : n + 48 ≤ 7207018) (hK : ∀ (E M : Off) (z : Nat → Int64) (zd : Nat → UInt64), K E M z zd → G x g 9 (k + 8) (n + 48) (lawW g A a v u E M z zd) 3590 [(0, .ref b), (1, .ref (A 0 0)), (2, .ref (a 0)), (3, .ref u), (4, .ref v), (5, .int i)] []) {E M : Off} {z : Nat → Int64} {zd : Nat → UInt64} (h : wc_22 K E M z zd (xs (i + 1).toNatClampNeg) (xs (i + 2).toNatClampNeg) (xs (i + 3).toNatClampNeg)) : G x g 9 k n (lawW g A a v u E M z zd) 1590 [(0, .ref b), (1, .ref (A 0 0)), (2, .ref (a 0)), (3, .ref u), (4, .ref v), (5, .int i)] [] := by
  unfold wc_22 at h
  refine g_aload_n hC dL_law_1590 1591 rfl rfl 1 rfl ?_
  refine g_aload_n hC dL_law_1591 1592 rfl rfl 0 rfl ?_
  refine g_iload hC dL_law_1592 1594 rfl 5 rfl ?_
  refine g_iconst hC (1 : Int32) dL_law_1594 1595 rfl iconst_1 ?_
  refine g_iadd hC dL_law_1595 1596 rfl ?_
  refine g_sld hC hS dL_law_1596 1597 rfl h1 ?_
  refine g_aload_n hC dL_law_1597 1598 rfl rfl 0 rfl ?_
  refine g_iload hC dL_law_1598 1600 rfl 5 rfl ?_
  refine g_iconst hC (2 : Int32) dL_law_1600 1601 rfl iconst_2 ?_
  refine g_iadd hC dL_law_1601 1602 rfl ?_
  refine g_sld hC hS dL_law_1602 1603 rfl h2 ?_
  refine g_aload_n hC dL_law_1603 1604 rfl rfl 3 rfl ?_
  refine g_callW hC hNw hst (cw_move l g A u E z (xs (i + 1).toNatClampNeg) (xs (i + 2).toNatClampNeg) _ h) gY_L_move dL_law_1604 1607 rfl ml_L_272 _ _ (law_out g A a v u E M z zd) [] rfl rfl ⟨Nat.le_of_ble_eq_true rfl, Nat.le_of_ble_eq_true rfl⟩ (Nat.le_of_ble_eq_true rfl) ⟨by omega, by omega⟩ ?_
  rintro r w1 ⟨kx, E1, z1, rfl, rfl, h⟩
  rw [law_out1]
  show G x g 9 (k + 4) (n + 24) (lawW g A a v u E1 M z1 zd) 1607 [(0, .ref b), (1, .ref (A 0 0)), (2, .ref (a 0)), (3, .ref u), (4, .ref v), (5, .int i)] [.int kx]
  refine g_istore (lv2 := [(6, .int kx), (0, .ref b), (1, .ref (A 0 0)), (2, .ref (a 0)), (3, .ref u), (4, .ref v), (5, .int i)]) hC dL_law_1607 1609 rfl (by decide) rfl ?_
  refine g_aload_n hC dL_law_1609 1610 rfl rfl 3 rfl ?_
  refine g_aload_n hC dL_law_1610 1611 rfl rfl 1 rfl ?_
  refine g_iload hC dL_law_1611 1613 rfl 6 rfl ?_
  refine g_iconst hC (1 : Int32) dL_law_1613 1614 rfl iconst_1 ?_
  refine g_iadd hC dL_law_1614 1615 rfl ?_
  refine g_sld hC hS dL_law_1615 1616 rfl h1 ?_
  refine g_aload_n hC dL_law_1616 1617 rfl rfl 1 rfl ?_
  refine g_iload hC dL_law_1617 1619 rfl 6 rfl ?_
  refine g_iconst hC (2 : Int32) dL_law_1619 1620 rfl iconst_2 ?_
  refine g_iadd hC dL_law_1620 1621 rfl ?_
  refine g_sld hC hS dL_law_1621 1622 rfl h2 ?_
  refine g_subI hC (ct_X5_move l g a M (xs (i + 1).toNatClampNeg) (xs (i + 2).toNatClampNeg) _ h) gY_X5_move dL_law_1622 1625 rfl ml_L_274 (law_mod g A a v u E1 M z1 zd) (law_mod1 g A a v u E1 z1 zd) [] rfl rfl rfl 0 9 rfl rfl ⟨Nat.le_of_ble_eq_true rfl, Nat.le_of_ble_eq_true rfl⟩ (Nat.le_of_ble_eq_true rfl) ⟨by omega, by omega⟩ (fun bx M1 h => ?_)
  refine g_istore (lv2 := [(7, .int bx), (6, .int kx), (0, .ref b), (1, .ref (A 0 0)), (2, .ref (a 0)), (3, .ref u), (4, .ref v), (5, .int i)]) hC dL_law_1625 1627 rfl (by decide) rfl ?_
  refine g_aload_n hC dL_law_1627 1628 rfl rfl 4 rfl ?_
  refine g_readV hC (ct_X5_thrown l g a M1 _ h) gY_X5_thrown dL_law_1628 1631 rfl ml_L_203 _ _ (law_mod g A a v u E1 M1 z1 zd) [] rfl rfl rfl 0 9 rfl rfl ⟨Nat.le_of_ble_eq_true rfl, Nat.le_of_ble_eq_true rfl⟩ (Nat.le_of_ble_eq_true rfl) ⟨by omega, by omega⟩ (fun t h => ?_)
  refine g_iload hC dL_law_1631 1633 rfl 1 rfl ?_
  obtain ⟨h9, h⟩ := h
  refine g_icmp_eq hC dL_law_1633 1638 (by decide) 1636 rfl (fun _ => ?_) (fun c9 => absurd h9 c9)
  refine g_iload hC dL_law_1638 1640 rfl 1 rfl ?_
  obtain ⟨hz9, hK9⟩ := h
  refine g_if_ne hC dL_law_1640 1655 (by decide) 1643 rfl (fun _ => ?_) (fun c9 => ?_)
  · skip
    refine g_goto hC dL_law_1655 3590 (by decide) ?_
    refine g_lv (lv2 := [(0, .ref b), (1, .ref (A 0 0)), (2, .ref (a 0)), (3, .ref u), (4, .ref v), (5, .int i)]) [2, 3, 4, 5, 6, 7] rfl ?_
    refine g_widen (k2 := k + 8) (n2 := n + 48) (by omega) (by omega) ?_
    exact hK _ _ _ _ hK9
  · have hz9 := hz9 c9
    refine g_aload_n hC dL_law_1643 1644 rfl rfl 5 rfl ?_
    refine g_iconst hC (0 : Int32) dL_law_1644 1645 rfl iconst_0 ?_
    refine g_lald hC dL_law_1645 1646 rfl 11 rfl (vp_in_d (by decide)) ?_
    refine g_iload hC dL_law_1646 1648 rfl 0 rfl ?_
    refine g_i2l hC dL_law_1648 1649 rfl ?_
    refine g_lcmp hC dL_law_1649 1650 rfl ?_
    refine g_if_eq hC dL_law_1650 1655 (by decide) 1653 rfl (fun _ => ?_) (fun c7 => absurd hz9 c7)
    refine g_goto hC dL_law_1655 3590 (by decide) ?_
    refine g_lv (lv2 := [(0, .ref b), (1, .ref (A 0 0)), (2, .ref (a 0)), (3, .ref u), (4, .ref v), (5, .int i)]) [2, 3, 4, 5, 6, 7] rfl ?_
    refine g_widen (k2 := k + 8) (n2 := n + 48) (by omega) (by omega) ?_
    exact hK _ _ _ _ hK9
def wc_23 (K : lwK) (E M : Off) (z : Nat → Int64) (zd : Nat → UInt64) (a1 a2 a3 : Int32) : Prop := ww_pair (fun kx E1 z1 => wp_X5_pair (fun bx M1 => wp_X5_thrown (fun t => (t = kx ∧ ((kx = 0 → lg_cmp (z1 (0 : Int32).toNatClampNeg) (bx).toInt64 = 0) ∧ K E1 M1 z1 zd))) M1) M a1 a2) E z a1 a2
set_option maxRecDepth 100000 in
set_option maxHeartbeats 4000000 in
theorem cs_23 {x : gX} {l : Launch} {g : gE} {A : Nat → Nat → Nat} {a : Nat → Nat} {v u b L : Nat} {xs : Nat → Int32} (hC : gC x l cL_law 9 RL g 2048 94400 603072 7207018) (hNw : gNw (x_s x)) (hst : l.stackTraces = false) (hS : gScr x b L xs) {K : lwK} {i : Int32} (h1 : vp_in (i + 1) L) (h2 : vp_in (i + 2) L) (h3 : vp_in (i + 3) L) {k n : Nat} (hk : k + 8 ≤ 603072) (hn : n + 48 ≤ 7207018) (hK : ∀ (E M : Off) (z : Nat → Int64) (zd : Nat → UInt64), K E M z zd → G x g 9 (k + 8) (n + 48) (lawW g A a v u E M z zd) 3590 [(0, .ref b), (1, .ref (A 0 0)), (2, .ref (a 0)), (3, .ref u), (4, .ref v), (5, .int i)] []) {E M : Off} {z : Nat → Int64} {zd : Nat → UInt64} (h : wc_23 K E M z zd (xs (i + 1).toNatClampNeg) (xs (i + 2).toNatClampNeg) (xs (i + 3).toNatClampNeg)) : G x g 9 k n (lawW g A a v u E M z zd) 1658 [(0, .ref b), (1, .ref (A 0 0)), (2, .ref (a 0)), (3, .ref u), (4, .ref v), (5, .int i)] [] := by
  unfold wc_23 at h
  refine g_aload_n hC dL_law_1658 1659 rfl rfl 1 rfl ?_
  refine g_aload_n hC dL_law_1659 1660 rfl rfl 0 rfl ?_
  refine g_iload hC dL_law_1660 1662 rfl 5 rfl ?_
  refine g_iconst hC (1 : Int32) dL_law_1662 1663 rfl iconst_1 ?_
  refine g_iadd hC dL_law_1663 1664 rfl ?_
  refine g_sld hC hS dL_law_1664 1665 rfl h1 ?_
  refine g_aload_n hC dL_law_1665 1666 rfl rfl 0 rfl ?_
  refine g_iload hC dL_law_1666 1668 rfl 5 rfl ?_
  refine g_iconst hC (2 : Int32) dL_law_1668 1669 rfl iconst_2 ?_
  refine g_iadd hC dL_law_1669 1670 rfl ?_
  refine g_sld hC hS dL_law_1670 1671 rfl h2 ?_
  refine g_aload_n hC dL_law_1671 1672 rfl rfl 3 rfl ?_
  refine g_callW hC hNw hst (cw_pair l g A u E z (xs (i + 1).toNatClampNeg) (xs (i + 2).toNatClampNeg) _ h) gY_L_pair dL_law_1672 1675 rfl ml_L_275 _ _ (law_out g A a v u E M z zd) [] rfl rfl ⟨Nat.le_of_ble_eq_true rfl, Nat.le_of_ble_eq_true rfl⟩ (Nat.le_of_ble_eq_true rfl) ⟨by omega, by omega⟩ ?_
  rintro r w1 ⟨kx, E1, z1, rfl, rfl, h⟩
  rw [law_out1]
  show G x g 9 (k + 4) (n + 24) (lawW g A a v u E1 M z1 zd) 1675 [(0, .ref b), (1, .ref (A 0 0)), (2, .ref (a 0)), (3, .ref u), (4, .ref v), (5, .int i)] [.int kx]
  refine g_istore (lv2 := [(6, .int kx), (0, .ref b), (1, .ref (A 0 0)), (2, .ref (a 0)), (3, .ref u), (4, .ref v), (5, .int i)]) hC dL_law_1675 1677 rfl (by decide) rfl ?_
  refine g_aload_n hC dL_law_1677 1678 rfl rfl 3 rfl ?_
  refine g_aload_n hC dL_law_1678 1679 rfl rfl 1 rfl ?_
  refine g_iload hC dL_law_1679 1681 rfl 6 rfl ?_
  refine g_iconst hC (1 : Int32) dL_law_1681 1682 rfl iconst_1 ?_
  refine g_iadd hC dL_law_1682 1683 rfl ?_
  refine g_sld hC hS dL_law_1683 1684 rfl h1 ?_
  refine g_aload_n hC dL_law_1684 1685 rfl rfl 1 rfl ?_
  refine g_iload hC dL_law_1685 1687 rfl 6 rfl ?_
  refine g_iconst hC (2 : Int32) dL_law_1687 1688 rfl iconst_2 ?_
  refine g_iadd hC dL_law_1688 1689 rfl ?_
  refine g_sld hC hS dL_law_1689 1690 rfl h2 ?_
  refine g_subI hC (ct_X5_pair l g a M (xs (i + 1).toNatClampNeg) (xs (i + 2).toNatClampNeg) _ h) gY_X5_pair dL_law_1690 1693 rfl ml_L_277 (law_mod g A a v u E1 M z1 zd) (law_mod1 g A a v u E1 z1 zd) [] rfl rfl rfl 0 9 rfl rfl ⟨Nat.le_of_ble_eq_true rfl, Nat.le_of_ble_eq_true rfl⟩ (Nat.le_of_ble_eq_true rfl) ⟨by omega, by omega⟩ (fun bx M1 h => ?_)
  refine g_istore (lv2 := [(7, .int bx), (6, .int kx), (0, .ref b), (1, .ref (A 0 0)), (2, .ref (a 0)), (3, .ref u), (4, .ref v), (5, .int i)]) hC dL_law_1693 1695 rfl (by decide) rfl ?_
  refine g_aload_n hC dL_law_1695 1696 rfl rfl 4 rfl ?_
  refine g_readV hC (ct_X5_thrown l g a M1 _ h) gY_X5_thrown dL_law_1696 1699 rfl ml_L_203 _ _ (law_mod g A a v u E1 M1 z1 zd) [] rfl rfl rfl 0 9 rfl rfl ⟨Nat.le_of_ble_eq_true rfl, Nat.le_of_ble_eq_true rfl⟩ (Nat.le_of_ble_eq_true rfl) ⟨by omega, by omega⟩ (fun t h => ?_)
  refine g_iload hC dL_law_1699 1701 rfl 1 rfl ?_
  obtain ⟨h9, h⟩ := h
  refine g_icmp_eq hC dL_law_1701 1706 (by decide) 1704 rfl (fun _ => ?_) (fun c9 => absurd h9 c9)
  refine g_iload hC dL_law_1706 1708 rfl 1 rfl ?_
  obtain ⟨hz9, hK9⟩ := h
  refine g_if_ne hC dL_law_1708 1723 (by decide) 1711 rfl (fun _ => ?_) (fun c9 => ?_)
  · skip
    refine g_goto hC dL_law_1723 3590 (by decide) ?_
    refine g_lv (lv2 := [(0, .ref b), (1, .ref (A 0 0)), (2, .ref (a 0)), (3, .ref u), (4, .ref v), (5, .int i)]) [2, 3, 4, 5, 6, 7] rfl ?_
    refine g_widen (k2 := k + 8) (n2 := n + 48) (by omega) (by omega) ?_
    exact hK _ _ _ _ hK9
  · have hz9 := hz9 c9
    refine g_aload_n hC dL_law_1711 1712 rfl rfl 5 rfl ?_
    refine g_iconst hC (0 : Int32) dL_law_1712 1713 rfl iconst_0 ?_
    refine g_lald hC dL_law_1713 1714 rfl 11 rfl (vp_in_d (by decide)) ?_
    refine g_iload hC dL_law_1714 1716 rfl 0 rfl ?_
    refine g_i2l hC dL_law_1716 1717 rfl ?_
    refine g_lcmp hC dL_law_1717 1718 rfl ?_
    refine g_if_eq hC dL_law_1718 1723 (by decide) 1721 rfl (fun _ => ?_) (fun c7 => absurd hz9 c7)
    refine g_goto hC dL_law_1723 3590 (by decide) ?_
    refine g_lv (lv2 := [(0, .ref b), (1, .ref (A 0 0)), (2, .ref (a 0)), (3, .ref u), (4, .ref v), (5, .int i)]) [2, 3, 4, 5, 6, 7] rfl ?_
    refine g_widen (k2 := k + 8) (n2 := n + 48) (by omega) (by omega) ?_
    exact hK _ _ _ _ hK9
def wc_24 (K : lwK) (E M : Off) (z : Nat → Int64) (zd : Nat → UInt64) (a1 a2 a3 : Int32) : Prop := ww_separate (fun kx E1 z1 => wp_X5_separate (fun bx M1 => wp_X5_thrown (fun t => (t = kx ∧ ((kx = 0 → lg_cmp (z1 (0 : Int32).toNatClampNeg) (bx).toInt64 = 0) ∧ K E1 M1 z1 zd))) M1) M a1) E z a1
set_option maxRecDepth 100000 in
set_option maxHeartbeats 4000000 in
theorem cs_24 {x : gX} {l : Launch} {g : gE} {A : Nat → Nat → Nat} {a : Nat → Nat} {v u b L : Nat} {xs : Nat → Int32} (hC : gC x l cL_law 9 RL g 2048 94400 603072 7207018) (hNw : gNw (x_s x)) (hst : l.stackTraces = false) (hS : gScr x b L xs) {K : lwK} {i : Int32} (h1 : vp_in (i + 1) L) (h2 : vp_in (i + 2) L) (h3 : vp_in (i + 3) L) {k n : Nat} (hk : k + 8 ≤ 603072) (hn : n + 48 ≤ 7207018) (hK : ∀ (E M : Off) (z : Nat → Int64) (zd : Nat → UInt64), K E M z zd → G x g 9 (k + 8) (n + 48) (lawW g A a v u E M z zd) 3590 [(0, .ref b), (1, .ref (A 0 0)), (2, .ref (a 0)), (3, .ref u), (4, .ref v), (5, .int i)] []) {E M : Off} {z : Nat → Int64} {zd : Nat → UInt64} (h : wc_24 K E M z zd (xs (i + 1).toNatClampNeg) (xs (i + 2).toNatClampNeg) (xs (i + 3).toNatClampNeg)) : G x g 9 k n (lawW g A a v u E M z zd) 1726 [(0, .ref b), (1, .ref (A 0 0)), (2, .ref (a 0)), (3, .ref u), (4, .ref v), (5, .int i)] [] := by
  unfold wc_24 at h
  refine g_aload_n hC dL_law_1726 1727 rfl rfl 1 rfl ?_
  refine g_aload_n hC dL_law_1727 1728 rfl rfl 0 rfl ?_
  refine g_iload hC dL_law_1728 1730 rfl 5 rfl ?_
  refine g_iconst hC (1 : Int32) dL_law_1730 1731 rfl iconst_1 ?_
  refine g_iadd hC dL_law_1731 1732 rfl ?_
  refine g_sld hC hS dL_law_1732 1733 rfl h1 ?_
  refine g_aload_n hC dL_law_1733 1734 rfl rfl 3 rfl ?_
  refine g_callW hC hNw hst (cw_separate l g A u E z (xs (i + 1).toNatClampNeg) _ h) gY_L_separate dL_law_1734 1737 rfl ml_L_278 _ _ (law_out g A a v u E M z zd) [] rfl rfl ⟨Nat.le_of_ble_eq_true rfl, Nat.le_of_ble_eq_true rfl⟩ (Nat.le_of_ble_eq_true rfl) ⟨by omega, by omega⟩ ?_
  rintro r w1 ⟨kx, E1, z1, rfl, rfl, h⟩
  rw [law_out1]
  show G x g 9 (k + 4) (n + 24) (lawW g A a v u E1 M z1 zd) 1737 [(0, .ref b), (1, .ref (A 0 0)), (2, .ref (a 0)), (3, .ref u), (4, .ref v), (5, .int i)] [.int kx]
  refine g_istore (lv2 := [(6, .int kx), (0, .ref b), (1, .ref (A 0 0)), (2, .ref (a 0)), (3, .ref u), (4, .ref v), (5, .int i)]) hC dL_law_1737 1739 rfl (by decide) rfl ?_
  refine g_aload_n hC dL_law_1739 1740 rfl rfl 3 rfl ?_
  refine g_aload_n hC dL_law_1740 1741 rfl rfl 1 rfl ?_
  refine g_iload hC dL_law_1741 1743 rfl 6 rfl ?_
  refine g_iconst hC (1 : Int32) dL_law_1743 1744 rfl iconst_1 ?_
  refine g_iadd hC dL_law_1744 1745 rfl ?_
  refine g_sld hC hS dL_law_1745 1746 rfl h1 ?_
  refine g_subI hC (ct_X5_separate l g a M (xs (i + 1).toNatClampNeg) _ h) gY_X5_separate dL_law_1746 1749 rfl ml_L_280 (law_mod g A a v u E1 M z1 zd) (law_mod1 g A a v u E1 z1 zd) [] rfl rfl rfl 0 9 rfl rfl ⟨Nat.le_of_ble_eq_true rfl, Nat.le_of_ble_eq_true rfl⟩ (Nat.le_of_ble_eq_true rfl) ⟨by omega, by omega⟩ (fun bx M1 h => ?_)
  refine g_istore (lv2 := [(7, .int bx), (6, .int kx), (0, .ref b), (1, .ref (A 0 0)), (2, .ref (a 0)), (3, .ref u), (4, .ref v), (5, .int i)]) hC dL_law_1749 1751 rfl (by decide) rfl ?_
  refine g_aload_n hC dL_law_1751 1752 rfl rfl 4 rfl ?_
  refine g_readV hC (ct_X5_thrown l g a M1 _ h) gY_X5_thrown dL_law_1752 1755 rfl ml_L_203 _ _ (law_mod g A a v u E1 M1 z1 zd) [] rfl rfl rfl 0 9 rfl rfl ⟨Nat.le_of_ble_eq_true rfl, Nat.le_of_ble_eq_true rfl⟩ (Nat.le_of_ble_eq_true rfl) ⟨by omega, by omega⟩ (fun t h => ?_)
  refine g_iload hC dL_law_1755 1757 rfl 1 rfl ?_
  obtain ⟨h9, h⟩ := h
  refine g_icmp_eq hC dL_law_1757 1762 (by decide) 1760 rfl (fun _ => ?_) (fun c9 => absurd h9 c9)
  refine g_iload hC dL_law_1762 1764 rfl 1 rfl ?_
  obtain ⟨hz9, hK9⟩ := h
  refine g_if_ne hC dL_law_1764 1779 (by decide) 1767 rfl (fun _ => ?_) (fun c9 => ?_)
  · skip
    refine g_goto hC dL_law_1779 3590 (by decide) ?_
    refine g_lv (lv2 := [(0, .ref b), (1, .ref (A 0 0)), (2, .ref (a 0)), (3, .ref u), (4, .ref v), (5, .int i)]) [2, 3, 4, 5, 6, 7] rfl ?_
    refine g_widen (k2 := k + 8) (n2 := n + 48) (by omega) (by omega) ?_
    exact hK _ _ _ _ hK9
  · have hz9 := hz9 c9
    refine g_aload_n hC dL_law_1767 1768 rfl rfl 5 rfl ?_
    refine g_iconst hC (0 : Int32) dL_law_1768 1769 rfl iconst_0 ?_
    refine g_lald hC dL_law_1769 1770 rfl 11 rfl (vp_in_d (by decide)) ?_
    refine g_iload hC dL_law_1770 1772 rfl 0 rfl ?_
    refine g_i2l hC dL_law_1772 1773 rfl ?_
    refine g_lcmp hC dL_law_1773 1774 rfl ?_
    refine g_if_eq hC dL_law_1774 1779 (by decide) 1777 rfl (fun _ => ?_) (fun c7 => absurd hz9 c7)
    refine g_goto hC dL_law_1779 3590 (by decide) ?_
    refine g_lv (lv2 := [(0, .ref b), (1, .ref (A 0 0)), (2, .ref (a 0)), (3, .ref u), (4, .ref v), (5, .int i)]) [2, 3, 4, 5, 6, 7] rfl ?_
    refine g_widen (k2 := k + 8) (n2 := n + 48) (by omega) (by omega) ?_
    exact hK _ _ _ _ hK9
def wc_25 (K : lwK) (E M : Off) (z : Nat → Int64) (zd : Nat → UInt64) (a1 a2 a3 : Int32) : Prop := ww_pairCount (fun kx E1 z1 => wp_X5_pairCount (fun bx M1 => wp_X5_thrown (fun t => (t = kx ∧ ((kx = 0 → lg_cmp (z1 (0 : Int32).toNatClampNeg) (bx).toInt64 = 0) ∧ K E1 M1 z1 zd))) M1) M a1) E z a1
set_option maxRecDepth 100000 in
set_option maxHeartbeats 4000000 in
theorem cs_25 {x : gX} {l : Launch} {g : gE} {A : Nat → Nat → Nat} {a : Nat → Nat} {v u b L : Nat} {xs : Nat → Int32} (hC : gC x l cL_law 9 RL g 2048 94400 603072 7207018) (hNw : gNw (x_s x)) (hst : l.stackTraces = false) (hS : gScr x b L xs) {K : lwK} {i : Int32} (h1 : vp_in (i + 1) L) (h2 : vp_in (i + 2) L) (h3 : vp_in (i + 3) L) {k n : Nat} (hk : k + 8 ≤ 603072) (hn : n + 48 ≤ 7207018) (hK : ∀ (E M : Off) (z : Nat → Int64) (zd : Nat → UInt64), K E M z zd → G x g 9 (k + 8) (n + 48) (lawW g A a v u E M z zd) 3590 [(0, .ref b), (1, .ref (A 0 0)), (2, .ref (a 0)), (3, .ref u), (4, .ref v), (5, .int i)] []) {E M : Off} {z : Nat → Int64} {zd : Nat → UInt64} (h : wc_25 K E M z zd (xs (i + 1).toNatClampNeg) (xs (i + 2).toNatClampNeg) (xs (i + 3).toNatClampNeg)) : G x g 9 k n (lawW g A a v u E M z zd) 1782 [(0, .ref b), (1, .ref (A 0 0)), (2, .ref (a 0)), (3, .ref u), (4, .ref v), (5, .int i)] [] := by
  unfold wc_25 at h
  refine g_aload_n hC dL_law_1782 1783 rfl rfl 1 rfl ?_
  refine g_aload_n hC dL_law_1783 1784 rfl rfl 0 rfl ?_
  refine g_iload hC dL_law_1784 1786 rfl 5 rfl ?_
  refine g_iconst hC (1 : Int32) dL_law_1786 1787 rfl iconst_1 ?_
  refine g_iadd hC dL_law_1787 1788 rfl ?_
  refine g_sld hC hS dL_law_1788 1789 rfl h1 ?_
  refine g_aload_n hC dL_law_1789 1790 rfl rfl 3 rfl ?_
  refine g_callW hC hNw hst (cw_pairCount l g A u E z (xs (i + 1).toNatClampNeg) _ h) gY_L_pairCount dL_law_1790 1793 rfl ml_L_281 _ _ (law_out g A a v u E M z zd) [] rfl rfl ⟨Nat.le_of_ble_eq_true rfl, Nat.le_of_ble_eq_true rfl⟩ (Nat.le_of_ble_eq_true rfl) ⟨by omega, by omega⟩ ?_
  rintro r w1 ⟨kx, E1, z1, rfl, rfl, h⟩
  rw [law_out1]
  show G x g 9 (k + 1) (n + 6) (lawW g A a v u E1 M z1 zd) 1793 [(0, .ref b), (1, .ref (A 0 0)), (2, .ref (a 0)), (3, .ref u), (4, .ref v), (5, .int i)] [.int kx]
  refine g_istore (lv2 := [(6, .int kx), (0, .ref b), (1, .ref (A 0 0)), (2, .ref (a 0)), (3, .ref u), (4, .ref v), (5, .int i)]) hC dL_law_1793 1795 rfl (by decide) rfl ?_
  refine g_aload_n hC dL_law_1795 1796 rfl rfl 3 rfl ?_
  refine g_aload_n hC dL_law_1796 1797 rfl rfl 1 rfl ?_
  refine g_iload hC dL_law_1797 1799 rfl 6 rfl ?_
  refine g_iconst hC (1 : Int32) dL_law_1799 1800 rfl iconst_1 ?_
  refine g_iadd hC dL_law_1800 1801 rfl ?_
  refine g_sld hC hS dL_law_1801 1802 rfl h1 ?_
  refine g_subI hC (ct_X5_pairCount l g a M (xs (i + 1).toNatClampNeg) _ h) gY_X5_pairCount dL_law_1802 1805 rfl ml_L_283 (law_mod g A a v u E1 M z1 zd) (law_mod1 g A a v u E1 z1 zd) [] rfl rfl rfl 0 9 rfl rfl ⟨Nat.le_of_ble_eq_true rfl, Nat.le_of_ble_eq_true rfl⟩ (Nat.le_of_ble_eq_true rfl) ⟨by omega, by omega⟩ (fun bx M1 h => ?_)
  refine g_istore (lv2 := [(7, .int bx), (6, .int kx), (0, .ref b), (1, .ref (A 0 0)), (2, .ref (a 0)), (3, .ref u), (4, .ref v), (5, .int i)]) hC dL_law_1805 1807 rfl (by decide) rfl ?_
  refine g_aload_n hC dL_law_1807 1808 rfl rfl 4 rfl ?_
  refine g_readV hC (ct_X5_thrown l g a M1 _ h) gY_X5_thrown dL_law_1808 1811 rfl ml_L_203 _ _ (law_mod g A a v u E1 M1 z1 zd) [] rfl rfl rfl 0 9 rfl rfl ⟨Nat.le_of_ble_eq_true rfl, Nat.le_of_ble_eq_true rfl⟩ (Nat.le_of_ble_eq_true rfl) ⟨by omega, by omega⟩ (fun t h => ?_)
  refine g_iload hC dL_law_1811 1813 rfl 1 rfl ?_
  obtain ⟨h9, h⟩ := h
  refine g_icmp_eq hC dL_law_1813 1818 (by decide) 1816 rfl (fun _ => ?_) (fun c9 => absurd h9 c9)
  refine g_iload hC dL_law_1818 1820 rfl 1 rfl ?_
  obtain ⟨hz9, hK9⟩ := h
  refine g_if_ne hC dL_law_1820 1835 (by decide) 1823 rfl (fun _ => ?_) (fun c9 => ?_)
  · skip
    refine g_goto hC dL_law_1835 3590 (by decide) ?_
    refine g_lv (lv2 := [(0, .ref b), (1, .ref (A 0 0)), (2, .ref (a 0)), (3, .ref u), (4, .ref v), (5, .int i)]) [2, 3, 4, 5, 6, 7] rfl ?_
    refine g_widen (k2 := k + 8) (n2 := n + 48) (by omega) (by omega) ?_
    exact hK _ _ _ _ hK9
  · have hz9 := hz9 c9
    refine g_aload_n hC dL_law_1823 1824 rfl rfl 5 rfl ?_
    refine g_iconst hC (0 : Int32) dL_law_1824 1825 rfl iconst_0 ?_
    refine g_lald hC dL_law_1825 1826 rfl 11 rfl (vp_in_d (by decide)) ?_
    refine g_iload hC dL_law_1826 1828 rfl 0 rfl ?_
    refine g_i2l hC dL_law_1828 1829 rfl ?_
    refine g_lcmp hC dL_law_1829 1830 rfl ?_
    refine g_if_eq hC dL_law_1830 1835 (by decide) 1833 rfl (fun _ => ?_) (fun c7 => absurd hz9 c7)
    refine g_goto hC dL_law_1835 3590 (by decide) ?_
    refine g_lv (lv2 := [(0, .ref b), (1, .ref (A 0 0)), (2, .ref (a 0)), (3, .ref u), (4, .ref v), (5, .int i)]) [2, 3, 4, 5, 6, 7] rfl ?_
    refine g_widen (k2 := k + 8) (n2 := n + 48) (by omega) (by omega) ?_
    exact hK _ _ _ _ hK9
def wc_26 (K : lwK) (E M : Off) (z : Nat → Int64) (zd : Nat → UInt64) (a1 a2 a3 : Int32) : Prop := ww_possiblePairs (fun kx E1 z1 => wp_X5_possiblePairs (fun bx M1 => wp_X5_thrown (fun t => (t = kx ∧ ((kx = 0 → lg_cmp (z1 (0 : Int32).toNatClampNeg) (bx).toInt64 = 0) ∧ K E1 M1 z1 zd))) M1) M a1) E z a1
set_option maxRecDepth 100000 in
set_option maxHeartbeats 4000000 in
theorem cs_26 {x : gX} {l : Launch} {g : gE} {A : Nat → Nat → Nat} {a : Nat → Nat} {v u b L : Nat} {xs : Nat → Int32} (hC : gC x l cL_law 9 RL g 2048 94400 603072 7207018) (hNw : gNw (x_s x)) (hst : l.stackTraces = false) (hS : gScr x b L xs) {K : lwK} {i : Int32} (h1 : vp_in (i + 1) L) (h2 : vp_in (i + 2) L) (h3 : vp_in (i + 3) L) {k n : Nat} (hk : k + 8 ≤ 603072) (hn : n + 48 ≤ 7207018) (hK : ∀ (E M : Off) (z : Nat → Int64) (zd : Nat → UInt64), K E M z zd → G x g 9 (k + 8) (n + 48) (lawW g A a v u E M z zd) 3590 [(0, .ref b), (1, .ref (A 0 0)), (2, .ref (a 0)), (3, .ref u), (4, .ref v), (5, .int i)] []) {E M : Off} {z : Nat → Int64} {zd : Nat → UInt64} (h : wc_26 K E M z zd (xs (i + 1).toNatClampNeg) (xs (i + 2).toNatClampNeg) (xs (i + 3).toNatClampNeg)) : G x g 9 k n (lawW g A a v u E M z zd) 1838 [(0, .ref b), (1, .ref (A 0 0)), (2, .ref (a 0)), (3, .ref u), (4, .ref v), (5, .int i)] [] := by
  unfold wc_26 at h
  refine g_aload_n hC dL_law_1838 1839 rfl rfl 1 rfl ?_
  refine g_aload_n hC dL_law_1839 1840 rfl rfl 0 rfl ?_
  refine g_iload hC dL_law_1840 1842 rfl 5 rfl ?_
  refine g_iconst hC (1 : Int32) dL_law_1842 1843 rfl iconst_1 ?_
  refine g_iadd hC dL_law_1843 1844 rfl ?_
  refine g_sld hC hS dL_law_1844 1845 rfl h1 ?_
  refine g_aload_n hC dL_law_1845 1846 rfl rfl 3 rfl ?_
  refine g_callW hC hNw hst (cw_possiblePairs l g A u E z (xs (i + 1).toNatClampNeg) _ h) gY_L_possiblePairs dL_law_1846 1849 rfl ml_L_284 _ _ (law_out g A a v u E M z zd) [] rfl rfl ⟨Nat.le_of_ble_eq_true rfl, Nat.le_of_ble_eq_true rfl⟩ (Nat.le_of_ble_eq_true rfl) ⟨by omega, by omega⟩ ?_
  rintro r w1 ⟨kx, E1, z1, rfl, rfl, h⟩
  rw [law_out1]
  show G x g 9 (k + 1) (n + 6) (lawW g A a v u E1 M z1 zd) 1849 [(0, .ref b), (1, .ref (A 0 0)), (2, .ref (a 0)), (3, .ref u), (4, .ref v), (5, .int i)] [.int kx]
  refine g_istore (lv2 := [(6, .int kx), (0, .ref b), (1, .ref (A 0 0)), (2, .ref (a 0)), (3, .ref u), (4, .ref v), (5, .int i)]) hC dL_law_1849 1851 rfl (by decide) rfl ?_
  refine g_aload_n hC dL_law_1851 1852 rfl rfl 3 rfl ?_
  refine g_aload_n hC dL_law_1852 1853 rfl rfl 1 rfl ?_
  refine g_iload hC dL_law_1853 1855 rfl 6 rfl ?_
  refine g_iconst hC (1 : Int32) dL_law_1855 1856 rfl iconst_1 ?_
  refine g_iadd hC dL_law_1856 1857 rfl ?_
  refine g_sld hC hS dL_law_1857 1858 rfl h1 ?_
  refine g_subI hC (ct_X5_possiblePairs l g a M (xs (i + 1).toNatClampNeg) _ h) gY_X5_possiblePairs dL_law_1858 1861 rfl ml_L_286 (law_mod g A a v u E1 M z1 zd) (law_mod1 g A a v u E1 z1 zd) [] rfl rfl rfl 0 9 rfl rfl ⟨Nat.le_of_ble_eq_true rfl, Nat.le_of_ble_eq_true rfl⟩ (Nat.le_of_ble_eq_true rfl) ⟨by omega, by omega⟩ (fun bx M1 h => ?_)
  refine g_istore (lv2 := [(7, .int bx), (6, .int kx), (0, .ref b), (1, .ref (A 0 0)), (2, .ref (a 0)), (3, .ref u), (4, .ref v), (5, .int i)]) hC dL_law_1861 1863 rfl (by decide) rfl ?_
  refine g_aload_n hC dL_law_1863 1864 rfl rfl 4 rfl ?_
  refine g_readV hC (ct_X5_thrown l g a M1 _ h) gY_X5_thrown dL_law_1864 1867 rfl ml_L_203 _ _ (law_mod g A a v u E1 M1 z1 zd) [] rfl rfl rfl 0 9 rfl rfl ⟨Nat.le_of_ble_eq_true rfl, Nat.le_of_ble_eq_true rfl⟩ (Nat.le_of_ble_eq_true rfl) ⟨by omega, by omega⟩ (fun t h => ?_)
  refine g_iload hC dL_law_1867 1869 rfl 1 rfl ?_
  obtain ⟨h9, h⟩ := h
  refine g_icmp_eq hC dL_law_1869 1874 (by decide) 1872 rfl (fun _ => ?_) (fun c9 => absurd h9 c9)
  refine g_iload hC dL_law_1874 1876 rfl 1 rfl ?_
  obtain ⟨hz9, hK9⟩ := h
  refine g_if_ne hC dL_law_1876 1891 (by decide) 1879 rfl (fun _ => ?_) (fun c9 => ?_)
  · skip
    refine g_goto hC dL_law_1891 3590 (by decide) ?_
    refine g_lv (lv2 := [(0, .ref b), (1, .ref (A 0 0)), (2, .ref (a 0)), (3, .ref u), (4, .ref v), (5, .int i)]) [2, 3, 4, 5, 6, 7] rfl ?_
    refine g_widen (k2 := k + 8) (n2 := n + 48) (by omega) (by omega) ?_
    exact hK _ _ _ _ hK9
  · have hz9 := hz9 c9
    refine g_aload_n hC dL_law_1879 1880 rfl rfl 5 rfl ?_
    refine g_iconst hC (0 : Int32) dL_law_1880 1881 rfl iconst_0 ?_
    refine g_lald hC dL_law_1881 1882 rfl 11 rfl (vp_in_d (by decide)) ?_
    refine g_iload hC dL_law_1882 1884 rfl 0 rfl ?_
    refine g_i2l hC dL_law_1884 1885 rfl ?_
    refine g_lcmp hC dL_law_1885 1886 rfl ?_
    refine g_if_eq hC dL_law_1886 1891 (by decide) 1889 rfl (fun _ => ?_) (fun c7 => absurd hz9 c7)
    refine g_goto hC dL_law_1891 3590 (by decide) ?_
    refine g_lv (lv2 := [(0, .ref b), (1, .ref (A 0 0)), (2, .ref (a 0)), (3, .ref u), (4, .ref v), (5, .int i)]) [2, 3, 4, 5, 6, 7] rfl ?_
    refine g_widen (k2 := k + 8) (n2 := n + 48) (by omega) (by omega) ?_
    exact hK _ _ _ _ hK9
def wc_27 (K : lwK) (E M : Off) (z : Nat → Int64) (zd : Nat → UInt64) (a1 a2 a3 : Int32) : Prop := ww_possiblePairsByColours (fun kx E1 z1 => wp_X5_possiblePairsByColours (fun bx M1 => wp_X5_thrown (fun t => (t = kx ∧ ((kx = 0 → lg_cmp (z1 (0 : Int32).toNatClampNeg) (bx).toInt64 = 0) ∧ K E1 M1 z1 zd))) M1) M a1) E z a1
set_option maxRecDepth 100000 in
set_option maxHeartbeats 4000000 in
theorem cs_27 {x : gX} {l : Launch} {g : gE} {A : Nat → Nat → Nat} {a : Nat → Nat} {v u b L : Nat} {xs : Nat → Int32} (hC : gC x l cL_law 9 RL g 2048 94400 603072 7207018) (hNw : gNw (x_s x)) (hst : l.stackTraces = false) (hS : gScr x b L xs) {K : lwK} {i : Int32} (h1 : vp_in (i + 1) L) (h2 : vp_in (i + 2) L) (h3 : vp_in (i + 3) L) {k n : Nat} (hk : k + 8 ≤ 603072) (hn : n + 48 ≤ 7207018) (hK : ∀ (E M : Off) (z : Nat → Int64) (zd : Nat → UInt64), K E M z zd → G x g 9 (k + 8) (n + 48) (lawW g A a v u E M z zd) 3590 [(0, .ref b), (1, .ref (A 0 0)), (2, .ref (a 0)), (3, .ref u), (4, .ref v), (5, .int i)] []) {E M : Off} {z : Nat → Int64} {zd : Nat → UInt64} (h : wc_27 K E M z zd (xs (i + 1).toNatClampNeg) (xs (i + 2).toNatClampNeg) (xs (i + 3).toNatClampNeg)) : G x g 9 k n (lawW g A a v u E M z zd) 1894 [(0, .ref b), (1, .ref (A 0 0)), (2, .ref (a 0)), (3, .ref u), (4, .ref v), (5, .int i)] [] := by
  unfold wc_27 at h
  refine g_aload_n hC dL_law_1894 1895 rfl rfl 1 rfl ?_
  refine g_aload_n hC dL_law_1895 1896 rfl rfl 0 rfl ?_
  refine g_iload hC dL_law_1896 1898 rfl 5 rfl ?_
  refine g_iconst hC (1 : Int32) dL_law_1898 1899 rfl iconst_1 ?_
  refine g_iadd hC dL_law_1899 1900 rfl ?_
  refine g_sld hC hS dL_law_1900 1901 rfl h1 ?_
  refine g_aload_n hC dL_law_1901 1902 rfl rfl 3 rfl ?_
  refine g_callW hC hNw hst (cw_possiblePairsByColours l g A u E z (xs (i + 1).toNatClampNeg) _ h) gY_L_possiblePairsByColours dL_law_1902 1905 rfl ml_L_287 _ _ (law_out g A a v u E M z zd) [] rfl rfl ⟨Nat.le_of_ble_eq_true rfl, Nat.le_of_ble_eq_true rfl⟩ (Nat.le_of_ble_eq_true rfl) ⟨by omega, by omega⟩ ?_
  rintro r w1 ⟨kx, E1, z1, rfl, rfl, h⟩
  rw [law_out1]
  show G x g 9 (k + 1) (n + 6) (lawW g A a v u E1 M z1 zd) 1905 [(0, .ref b), (1, .ref (A 0 0)), (2, .ref (a 0)), (3, .ref u), (4, .ref v), (5, .int i)] [.int kx]
  refine g_istore (lv2 := [(6, .int kx), (0, .ref b), (1, .ref (A 0 0)), (2, .ref (a 0)), (3, .ref u), (4, .ref v), (5, .int i)]) hC dL_law_1905 1907 rfl (by decide) rfl ?_
  refine g_aload_n hC dL_law_1907 1908 rfl rfl 3 rfl ?_
  refine g_aload_n hC dL_law_1908 1909 rfl rfl 1 rfl ?_
  refine g_iload hC dL_law_1909 1911 rfl 6 rfl ?_
  refine g_iconst hC (1 : Int32) dL_law_1911 1912 rfl iconst_1 ?_
  refine g_iadd hC dL_law_1912 1913 rfl ?_
  refine g_sld hC hS dL_law_1913 1914 rfl h1 ?_
  refine g_subI hC (ct_X5_possiblePairsByColours l g a M (xs (i + 1).toNatClampNeg) _ h) gY_X5_possiblePairsByColours dL_law_1914 1917 rfl ml_L_289 (law_mod g A a v u E1 M z1 zd) (law_mod1 g A a v u E1 z1 zd) [] rfl rfl rfl 0 9 rfl rfl ⟨Nat.le_of_ble_eq_true rfl, Nat.le_of_ble_eq_true rfl⟩ (Nat.le_of_ble_eq_true rfl) ⟨by omega, by omega⟩ (fun bx M1 h => ?_)
  refine g_istore (lv2 := [(7, .int bx), (6, .int kx), (0, .ref b), (1, .ref (A 0 0)), (2, .ref (a 0)), (3, .ref u), (4, .ref v), (5, .int i)]) hC dL_law_1917 1919 rfl (by decide) rfl ?_
  refine g_aload_n hC dL_law_1919 1920 rfl rfl 4 rfl ?_
  refine g_readV hC (ct_X5_thrown l g a M1 _ h) gY_X5_thrown dL_law_1920 1923 rfl ml_L_203 _ _ (law_mod g A a v u E1 M1 z1 zd) [] rfl rfl rfl 0 9 rfl rfl ⟨Nat.le_of_ble_eq_true rfl, Nat.le_of_ble_eq_true rfl⟩ (Nat.le_of_ble_eq_true rfl) ⟨by omega, by omega⟩ (fun t h => ?_)
  refine g_iload hC dL_law_1923 1925 rfl 1 rfl ?_
  obtain ⟨h9, h⟩ := h
  refine g_icmp_eq hC dL_law_1925 1930 (by decide) 1928 rfl (fun _ => ?_) (fun c9 => absurd h9 c9)
  refine g_iload hC dL_law_1930 1932 rfl 1 rfl ?_
  obtain ⟨hz9, hK9⟩ := h
  refine g_if_ne hC dL_law_1932 1947 (by decide) 1935 rfl (fun _ => ?_) (fun c9 => ?_)
  · skip
    refine g_goto hC dL_law_1947 3590 (by decide) ?_
    refine g_lv (lv2 := [(0, .ref b), (1, .ref (A 0 0)), (2, .ref (a 0)), (3, .ref u), (4, .ref v), (5, .int i)]) [2, 3, 4, 5, 6, 7] rfl ?_
    refine g_widen (k2 := k + 8) (n2 := n + 48) (by omega) (by omega) ?_
    exact hK _ _ _ _ hK9
  · have hz9 := hz9 c9
    refine g_aload_n hC dL_law_1935 1936 rfl rfl 5 rfl ?_
    refine g_iconst hC (0 : Int32) dL_law_1936 1937 rfl iconst_0 ?_
    refine g_lald hC dL_law_1937 1938 rfl 11 rfl (vp_in_d (by decide)) ?_
    refine g_iload hC dL_law_1938 1940 rfl 0 rfl ?_
    refine g_i2l hC dL_law_1940 1941 rfl ?_
    refine g_lcmp hC dL_law_1941 1942 rfl ?_
    refine g_if_eq hC dL_law_1942 1947 (by decide) 1945 rfl (fun _ => ?_) (fun c7 => absurd hz9 c7)
    refine g_goto hC dL_law_1947 3590 (by decide) ?_
    refine g_lv (lv2 := [(0, .ref b), (1, .ref (A 0 0)), (2, .ref (a 0)), (3, .ref u), (4, .ref v), (5, .int i)]) [2, 3, 4, 5, 6, 7] rfl ?_
    refine g_widen (k2 := k + 8) (n2 := n + 48) (by omega) (by omega) ?_
    exact hK _ _ _ _ hK9
def wc_28 (K : lwK) (E M : Off) (z : Nat → Int64) (zd : Nat → UInt64) (a1 a2 a3 : Int32) : Prop := ww_setQuota (fun kx E1 z1 => wp_X5_setQuota (fun bx M1 => wp_X5_thrown (fun t => (t = kx ∧ ((kx = 0 → lg_cmp (z1 (0 : Int32).toNatClampNeg) (bx).toInt64 = 0) ∧ K E1 M1 z1 zd))) M1) M a1 a2) E z a1 a2
set_option maxRecDepth 100000 in
set_option maxHeartbeats 4000000 in
theorem cs_28 {x : gX} {l : Launch} {g : gE} {A : Nat → Nat → Nat} {a : Nat → Nat} {v u b L : Nat} {xs : Nat → Int32} (hC : gC x l cL_law 9 RL g 2048 94400 603072 7207018) (hNw : gNw (x_s x)) (hst : l.stackTraces = false) (hS : gScr x b L xs) {K : lwK} {i : Int32} (h1 : vp_in (i + 1) L) (h2 : vp_in (i + 2) L) (h3 : vp_in (i + 3) L) {k n : Nat} (hk : k + 8 ≤ 603072) (hn : n + 48 ≤ 7207018) (hK : ∀ (E M : Off) (z : Nat → Int64) (zd : Nat → UInt64), K E M z zd → G x g 9 (k + 8) (n + 48) (lawW g A a v u E M z zd) 3590 [(0, .ref b), (1, .ref (A 0 0)), (2, .ref (a 0)), (3, .ref u), (4, .ref v), (5, .int i)] []) {E M : Off} {z : Nat → Int64} {zd : Nat → UInt64} (h : wc_28 K E M z zd (xs (i + 1).toNatClampNeg) (xs (i + 2).toNatClampNeg) (xs (i + 3).toNatClampNeg)) : G x g 9 k n (lawW g A a v u E M z zd) 1950 [(0, .ref b), (1, .ref (A 0 0)), (2, .ref (a 0)), (3, .ref u), (4, .ref v), (5, .int i)] [] := by
  unfold wc_28 at h
  refine g_aload_n hC dL_law_1950 1951 rfl rfl 1 rfl ?_
  refine g_aload_n hC dL_law_1951 1952 rfl rfl 0 rfl ?_
  refine g_iload hC dL_law_1952 1954 rfl 5 rfl ?_
  refine g_iconst hC (1 : Int32) dL_law_1954 1955 rfl iconst_1 ?_
  refine g_iadd hC dL_law_1955 1956 rfl ?_
  refine g_sld hC hS dL_law_1956 1957 rfl h1 ?_
  refine g_aload_n hC dL_law_1957 1958 rfl rfl 0 rfl ?_
  refine g_iload hC dL_law_1958 1960 rfl 5 rfl ?_
  refine g_iconst hC (2 : Int32) dL_law_1960 1961 rfl iconst_2 ?_
  refine g_iadd hC dL_law_1961 1962 rfl ?_
  refine g_sld hC hS dL_law_1962 1963 rfl h2 ?_
  refine g_aload_n hC dL_law_1963 1964 rfl rfl 3 rfl ?_
  refine g_callW hC hNw hst (cw_setQuota l g A u E z (xs (i + 1).toNatClampNeg) (xs (i + 2).toNatClampNeg) _ h) gY_L_setQuota dL_law_1964 1967 rfl ml_L_290 _ _ (law_out g A a v u E M z zd) [] rfl rfl ⟨Nat.le_of_ble_eq_true rfl, Nat.le_of_ble_eq_true rfl⟩ (Nat.le_of_ble_eq_true rfl) ⟨by omega, by omega⟩ ?_
  rintro r w1 ⟨kx, E1, z1, rfl, rfl, h⟩
  rw [law_out1]
  show G x g 9 (k + 4) (n + 24) (lawW g A a v u E1 M z1 zd) 1967 [(0, .ref b), (1, .ref (A 0 0)), (2, .ref (a 0)), (3, .ref u), (4, .ref v), (5, .int i)] [.int kx]
  refine g_istore (lv2 := [(6, .int kx), (0, .ref b), (1, .ref (A 0 0)), (2, .ref (a 0)), (3, .ref u), (4, .ref v), (5, .int i)]) hC dL_law_1967 1969 rfl (by decide) rfl ?_
  refine g_aload_n hC dL_law_1969 1970 rfl rfl 3 rfl ?_
  refine g_aload_n hC dL_law_1970 1971 rfl rfl 1 rfl ?_
  refine g_iload hC dL_law_1971 1973 rfl 6 rfl ?_
  refine g_iconst hC (1 : Int32) dL_law_1973 1974 rfl iconst_1 ?_
  refine g_iadd hC dL_law_1974 1975 rfl ?_
  refine g_sld hC hS dL_law_1975 1976 rfl h1 ?_
  refine g_aload_n hC dL_law_1976 1977 rfl rfl 1 rfl ?_
  refine g_iload hC dL_law_1977 1979 rfl 6 rfl ?_
  refine g_iconst hC (2 : Int32) dL_law_1979 1980 rfl iconst_2 ?_
  refine g_iadd hC dL_law_1980 1981 rfl ?_
  refine g_sld hC hS dL_law_1981 1982 rfl h2 ?_
  refine g_subI hC (ct_X5_setQuota l g a M (xs (i + 1).toNatClampNeg) (xs (i + 2).toNatClampNeg) _ h) gY_X5_setQuota dL_law_1982 1985 rfl ml_L_292 (law_mod g A a v u E1 M z1 zd) (law_mod1 g A a v u E1 z1 zd) [] rfl rfl rfl 0 9 rfl rfl ⟨Nat.le_of_ble_eq_true rfl, Nat.le_of_ble_eq_true rfl⟩ (Nat.le_of_ble_eq_true rfl) ⟨by omega, by omega⟩ (fun bx M1 h => ?_)
  refine g_istore (lv2 := [(7, .int bx), (6, .int kx), (0, .ref b), (1, .ref (A 0 0)), (2, .ref (a 0)), (3, .ref u), (4, .ref v), (5, .int i)]) hC dL_law_1985 1987 rfl (by decide) rfl ?_
  refine g_aload_n hC dL_law_1987 1988 rfl rfl 4 rfl ?_
  refine g_readV hC (ct_X5_thrown l g a M1 _ h) gY_X5_thrown dL_law_1988 1991 rfl ml_L_203 _ _ (law_mod g A a v u E1 M1 z1 zd) [] rfl rfl rfl 0 9 rfl rfl ⟨Nat.le_of_ble_eq_true rfl, Nat.le_of_ble_eq_true rfl⟩ (Nat.le_of_ble_eq_true rfl) ⟨by omega, by omega⟩ (fun t h => ?_)
  refine g_iload hC dL_law_1991 1993 rfl 1 rfl ?_
  obtain ⟨h9, h⟩ := h
  refine g_icmp_eq hC dL_law_1993 1998 (by decide) 1996 rfl (fun _ => ?_) (fun c9 => absurd h9 c9)
  refine g_iload hC dL_law_1998 2000 rfl 1 rfl ?_
  obtain ⟨hz9, hK9⟩ := h
  refine g_if_ne hC dL_law_2000 2015 (by decide) 2003 rfl (fun _ => ?_) (fun c9 => ?_)
  · skip
    refine g_goto hC dL_law_2015 3590 (by decide) ?_
    refine g_lv (lv2 := [(0, .ref b), (1, .ref (A 0 0)), (2, .ref (a 0)), (3, .ref u), (4, .ref v), (5, .int i)]) [2, 3, 4, 5, 6, 7] rfl ?_
    refine g_widen (k2 := k + 8) (n2 := n + 48) (by omega) (by omega) ?_
    exact hK _ _ _ _ hK9
  · have hz9 := hz9 c9
    refine g_aload_n hC dL_law_2003 2004 rfl rfl 5 rfl ?_
    refine g_iconst hC (0 : Int32) dL_law_2004 2005 rfl iconst_0 ?_
    refine g_lald hC dL_law_2005 2006 rfl 11 rfl (vp_in_d (by decide)) ?_
    refine g_iload hC dL_law_2006 2008 rfl 0 rfl ?_
    refine g_i2l hC dL_law_2008 2009 rfl ?_
    refine g_lcmp hC dL_law_2009 2010 rfl ?_
    refine g_if_eq hC dL_law_2010 2015 (by decide) 2013 rfl (fun _ => ?_) (fun c7 => absurd hz9 c7)
    refine g_goto hC dL_law_2015 3590 (by decide) ?_
    refine g_lv (lv2 := [(0, .ref b), (1, .ref (A 0 0)), (2, .ref (a 0)), (3, .ref u), (4, .ref v), (5, .int i)]) [2, 3, 4, 5, 6, 7] rfl ?_
    refine g_widen (k2 := k + 8) (n2 := n + 48) (by omega) (by omega) ?_
    exact hK _ _ _ _ hK9
def wc_29 (K : lwK) (E M : Off) (z : Nat → Int64) (zd : Nat → UInt64) (a1 a2 a3 : Int32) : Prop := ww_ban (fun kx E1 z1 => wp_X5_ban (fun bx M1 => wp_X5_thrown (fun t => (t = kx ∧ ((kx = 0 → ((bx = 0 → lg_cmp (z1 (0 : Int32).toNatClampNeg) 0 = 0) ∧ (¬ bx = 0 → lg_cmp (z1 (0 : Int32).toNatClampNeg) 1 = 0))) ∧ K E1 M1 z1 zd))) M1) M a1 (((a2).toUInt32 % 65536).toInt32)) E z a1 (((a2).toUInt32 % 65536).toInt32)
set_option maxRecDepth 100000 in
set_option maxHeartbeats 4000000 in
theorem cs_29 {x : gX} {l : Launch} {g : gE} {A : Nat → Nat → Nat} {a : Nat → Nat} {v u b L : Nat} {xs : Nat → Int32} (hC : gC x l cL_law 9 RL g 2048 94400 603072 7207018) (hNw : gNw (x_s x)) (hst : l.stackTraces = false) (hS : gScr x b L xs) {K : lwK} {i : Int32} (h1 : vp_in (i + 1) L) (h2 : vp_in (i + 2) L) (h3 : vp_in (i + 3) L) {k n : Nat} (hk : k + 8 ≤ 603072) (hn : n + 48 ≤ 7207018) (hK : ∀ (E M : Off) (z : Nat → Int64) (zd : Nat → UInt64), K E M z zd → G x g 9 (k + 8) (n + 48) (lawW g A a v u E M z zd) 3590 [(0, .ref b), (1, .ref (A 0 0)), (2, .ref (a 0)), (3, .ref u), (4, .ref v), (5, .int i)] []) {E M : Off} {z : Nat → Int64} {zd : Nat → UInt64} (h : wc_29 K E M z zd (xs (i + 1).toNatClampNeg) (xs (i + 2).toNatClampNeg) (xs (i + 3).toNatClampNeg)) : G x g 9 k n (lawW g A a v u E M z zd) 2018 [(0, .ref b), (1, .ref (A 0 0)), (2, .ref (a 0)), (3, .ref u), (4, .ref v), (5, .int i)] [] := by
  unfold wc_29 at h
  refine g_aload_n hC dL_law_2018 2019 rfl rfl 1 rfl ?_
  refine g_aload_n hC dL_law_2019 2020 rfl rfl 0 rfl ?_
  refine g_iload hC dL_law_2020 2022 rfl 5 rfl ?_
  refine g_iconst hC (1 : Int32) dL_law_2022 2023 rfl iconst_1 ?_
  refine g_iadd hC dL_law_2023 2024 rfl ?_
  refine g_sld hC hS dL_law_2024 2025 rfl h1 ?_
  refine g_aload_n hC dL_law_2025 2026 rfl rfl 0 rfl ?_
  refine g_iload hC dL_law_2026 2028 rfl 5 rfl ?_
  refine g_iconst hC (2 : Int32) dL_law_2028 2029 rfl iconst_2 ?_
  refine g_iadd hC dL_law_2029 2030 rfl ?_
  refine g_sld hC hS dL_law_2030 2031 rfl h2 ?_
  refine g_i2c hC dL_law_2031 2032 rfl ?_
  refine g_aload_n hC dL_law_2032 2033 rfl rfl 3 rfl ?_
  refine g_callW hC hNw hst (cw_ban l g A u E z (xs (i + 1).toNatClampNeg) ((((xs (i + 2).toNatClampNeg)).toUInt32 % 65536).toInt32) _ h) gY_L_ban dL_law_2033 2036 rfl ml_L_293 _ _ (law_out g A a v u E M z zd) [] rfl rfl ⟨Nat.le_of_ble_eq_true rfl, Nat.le_of_ble_eq_true rfl⟩ (Nat.le_of_ble_eq_true rfl) ⟨by omega, by omega⟩ ?_
  rintro r w1 ⟨kx, E1, z1, rfl, rfl, h⟩
  rw [law_out1]
  show G x g 9 (k + 4) (n + 24) (lawW g A a v u E1 M z1 zd) 2036 [(0, .ref b), (1, .ref (A 0 0)), (2, .ref (a 0)), (3, .ref u), (4, .ref v), (5, .int i)] [.int kx]
  refine g_istore (lv2 := [(6, .int kx), (0, .ref b), (1, .ref (A 0 0)), (2, .ref (a 0)), (3, .ref u), (4, .ref v), (5, .int i)]) hC dL_law_2036 2038 rfl (by decide) rfl ?_
  refine g_aload_n hC dL_law_2038 2039 rfl rfl 3 rfl ?_
  refine g_aload_n hC dL_law_2039 2040 rfl rfl 1 rfl ?_
  refine g_iload hC dL_law_2040 2042 rfl 6 rfl ?_
  refine g_iconst hC (1 : Int32) dL_law_2042 2043 rfl iconst_1 ?_
  refine g_iadd hC dL_law_2043 2044 rfl ?_
  refine g_sld hC hS dL_law_2044 2045 rfl h1 ?_
  refine g_aload_n hC dL_law_2045 2046 rfl rfl 1 rfl ?_
  refine g_iload hC dL_law_2046 2048 rfl 6 rfl ?_
  refine g_iconst hC (2 : Int32) dL_law_2048 2049 rfl iconst_2 ?_
  refine g_iadd hC dL_law_2049 2050 rfl ?_
  refine g_sld hC hS dL_law_2050 2051 rfl h2 ?_
  refine g_i2c hC dL_law_2051 2052 rfl ?_
  refine g_subI hC (ct_X5_ban l g a M (xs (i + 1).toNatClampNeg) ((((xs (i + 2).toNatClampNeg)).toUInt32 % 65536).toInt32) _ h) gY_X5_ban dL_law_2052 2055 rfl ml_L_296 (law_mod g A a v u E1 M z1 zd) (law_mod1 g A a v u E1 z1 zd) [] rfl rfl rfl 0 9 rfl rfl ⟨Nat.le_of_ble_eq_true rfl, Nat.le_of_ble_eq_true rfl⟩ (Nat.le_of_ble_eq_true rfl) ⟨by omega, by omega⟩ (fun bx M1 h => ?_)
  refine g_istore (lv2 := [(7, .int bx), (6, .int kx), (0, .ref b), (1, .ref (A 0 0)), (2, .ref (a 0)), (3, .ref u), (4, .ref v), (5, .int i)]) hC dL_law_2055 2057 rfl (by decide) rfl ?_
  refine g_aload_n hC dL_law_2057 2058 rfl rfl 4 rfl ?_
  refine g_readV hC (ct_X5_thrown l g a M1 _ h) gY_X5_thrown dL_law_2058 2061 rfl ml_L_203 _ _ (law_mod g A a v u E1 M1 z1 zd) [] rfl rfl rfl 0 9 rfl rfl ⟨Nat.le_of_ble_eq_true rfl, Nat.le_of_ble_eq_true rfl⟩ (Nat.le_of_ble_eq_true rfl) ⟨by omega, by omega⟩ (fun t h => ?_)
  refine g_iload hC dL_law_2061 2063 rfl 1 rfl ?_
  obtain ⟨h9, h⟩ := h
  refine g_icmp_eq hC dL_law_2063 2068 (by decide) 2066 rfl (fun _ => ?_) (fun c9 => absurd h9 c9)
  refine g_iload hC dL_law_2068 2070 rfl 1 rfl ?_
  obtain ⟨hz9, hK9⟩ := h
  refine g_if_ne hC dL_law_2070 2092 (by decide) 2073 rfl (fun _ => ?_) (fun c9 => ?_)
  · skip
    refine g_goto hC dL_law_2092 3590 (by decide) ?_
    refine g_lv (lv2 := [(0, .ref b), (1, .ref (A 0 0)), (2, .ref (a 0)), (3, .ref u), (4, .ref v), (5, .int i)]) [2, 3, 4, 5, 6, 7] rfl ?_
    refine g_widen (k2 := k + 8) (n2 := n + 48) (by omega) (by omega) ?_
    exact hK _ _ _ _ hK9
  · have hz9 := hz9 c9
    refine g_aload_n hC dL_law_2073 2074 rfl rfl 5 rfl ?_
    refine g_iconst hC (0 : Int32) dL_law_2074 2075 rfl iconst_0 ?_
    refine g_lald hC dL_law_2075 2076 rfl 11 rfl (vp_in_d (by decide)) ?_
    refine g_iload hC dL_law_2076 2078 rfl 0 rfl ?_
    refine g_if_eq hC dL_law_2078 2085 (by decide) 2081 rfl (fun c8 => ?_) (fun c8 => ?_)
    · have hz9 := hz9.1 c8
      refine g_lconst hC (0 : Int64) dL_law_2085 2086 rfl rfl ?_
      refine g_lcmp hC dL_law_2086 2087 rfl ?_
      refine g_if_eq hC dL_law_2087 2092 (by decide) 2090 rfl (fun _ => ?_) (fun c7 => absurd hz9 c7)
      refine g_goto hC dL_law_2092 3590 (by decide) ?_
      refine g_lv (lv2 := [(0, .ref b), (1, .ref (A 0 0)), (2, .ref (a 0)), (3, .ref u), (4, .ref v), (5, .int i)]) [2, 3, 4, 5, 6, 7] rfl ?_
      refine g_widen (k2 := k + 8) (n2 := n + 48) (by omega) (by omega) ?_
      exact hK _ _ _ _ hK9
    · have hz9 := hz9.2 c8
      refine g_lconst hC (1 : Int64) dL_law_2081 2082 rfl rfl ?_
      refine g_goto hC dL_law_2082 2086 (by decide) ?_
      refine g_lcmp hC dL_law_2086 2087 rfl ?_
      refine g_if_eq hC dL_law_2087 2092 (by decide) 2090 rfl (fun _ => ?_) (fun c7 => absurd hz9 c7)
      refine g_goto hC dL_law_2092 3590 (by decide) ?_
      refine g_lv (lv2 := [(0, .ref b), (1, .ref (A 0 0)), (2, .ref (a 0)), (3, .ref u), (4, .ref v), (5, .int i)]) [2, 3, 4, 5, 6, 7] rfl ?_
      refine g_widen (k2 := k + 8) (n2 := n + 48) (by omega) (by omega) ?_
      exact hK _ _ _ _ hK9
def wc_30 (K : lwK) (E M : Off) (z : Nat → Int64) (zd : Nat → UInt64) (a1 a2 a3 : Int32) : Prop := ww_unban (fun kx E1 z1 => wp_X5_unban (fun bx M1 => wp_X5_thrown (fun t => (t = kx ∧ ((kx = 0 → ((bx = 0 → lg_cmp (z1 (0 : Int32).toNatClampNeg) 0 = 0) ∧ (¬ bx = 0 → lg_cmp (z1 (0 : Int32).toNatClampNeg) 1 = 0))) ∧ K E1 M1 z1 zd))) M1) M a1 (((a2).toUInt32 % 65536).toInt32)) E z a1 (((a2).toUInt32 % 65536).toInt32)
set_option maxRecDepth 100000 in
set_option maxHeartbeats 4000000 in
theorem cs_30 {x : gX} {l : Launch} {g : gE} {A : Nat → Nat → Nat} {a : Nat → Nat} {v u b L : Nat} {xs : Nat → Int32} (hC : gC x l cL_law 9 RL g 2048 94400 603072 7207018) (hNw : gNw (x_s x)) (hst : l.stackTraces = false) (hS : gScr x b L xs) {K : lwK} {i : Int32} (h1 : vp_in (i + 1) L) (h2 : vp_in (i + 2) L) (h3 : vp_in (i + 3) L) {k n : Nat} (hk : k + 8 ≤ 603072) (hn : n + 48 ≤ 7207018) (hK : ∀ (E M : Off) (z : Nat → Int64) (zd : Nat → UInt64), K E M z zd → G x g 9 (k + 8) (n + 48) (lawW g A a v u E M z zd) 3590 [(0, .ref b), (1, .ref (A 0 0)), (2, .ref (a 0)), (3, .ref u), (4, .ref v), (5, .int i)] []) {E M : Off} {z : Nat → Int64} {zd : Nat → UInt64} (h : wc_30 K E M z zd (xs (i + 1).toNatClampNeg) (xs (i + 2).toNatClampNeg) (xs (i + 3).toNatClampNeg)) : G x g 9 k n (lawW g A a v u E M z zd) 2095 [(0, .ref b), (1, .ref (A 0 0)), (2, .ref (a 0)), (3, .ref u), (4, .ref v), (5, .int i)] [] := by
  unfold wc_30 at h
  refine g_aload_n hC dL_law_2095 2096 rfl rfl 1 rfl ?_
  refine g_aload_n hC dL_law_2096 2097 rfl rfl 0 rfl ?_
  refine g_iload hC dL_law_2097 2099 rfl 5 rfl ?_
  refine g_iconst hC (1 : Int32) dL_law_2099 2100 rfl iconst_1 ?_
  refine g_iadd hC dL_law_2100 2101 rfl ?_
  refine g_sld hC hS dL_law_2101 2102 rfl h1 ?_
  refine g_aload_n hC dL_law_2102 2103 rfl rfl 0 rfl ?_
  refine g_iload hC dL_law_2103 2105 rfl 5 rfl ?_
  refine g_iconst hC (2 : Int32) dL_law_2105 2106 rfl iconst_2 ?_
  refine g_iadd hC dL_law_2106 2107 rfl ?_
  refine g_sld hC hS dL_law_2107 2108 rfl h2 ?_
  refine g_i2c hC dL_law_2108 2109 rfl ?_
  refine g_aload_n hC dL_law_2109 2110 rfl rfl 3 rfl ?_
  refine g_callW hC hNw hst (cw_unban l g A u E z (xs (i + 1).toNatClampNeg) ((((xs (i + 2).toNatClampNeg)).toUInt32 % 65536).toInt32) _ h) gY_L_unban dL_law_2110 2113 rfl ml_L_297 _ _ (law_out g A a v u E M z zd) [] rfl rfl ⟨Nat.le_of_ble_eq_true rfl, Nat.le_of_ble_eq_true rfl⟩ (Nat.le_of_ble_eq_true rfl) ⟨by omega, by omega⟩ ?_
  rintro r w1 ⟨kx, E1, z1, rfl, rfl, h⟩
  rw [law_out1]
  show G x g 9 (k + 4) (n + 24) (lawW g A a v u E1 M z1 zd) 2113 [(0, .ref b), (1, .ref (A 0 0)), (2, .ref (a 0)), (3, .ref u), (4, .ref v), (5, .int i)] [.int kx]
  refine g_istore (lv2 := [(6, .int kx), (0, .ref b), (1, .ref (A 0 0)), (2, .ref (a 0)), (3, .ref u), (4, .ref v), (5, .int i)]) hC dL_law_2113 2115 rfl (by decide) rfl ?_
  refine g_aload_n hC dL_law_2115 2116 rfl rfl 3 rfl ?_
  refine g_aload_n hC dL_law_2116 2117 rfl rfl 1 rfl ?_
  refine g_iload hC dL_law_2117 2119 rfl 6 rfl ?_
  refine g_iconst hC (1 : Int32) dL_law_2119 2120 rfl iconst_1 ?_
  refine g_iadd hC dL_law_2120 2121 rfl ?_
  refine g_sld hC hS dL_law_2121 2122 rfl h1 ?_
  refine g_aload_n hC dL_law_2122 2123 rfl rfl 1 rfl ?_
  refine g_iload hC dL_law_2123 2125 rfl 6 rfl ?_
  refine g_iconst hC (2 : Int32) dL_law_2125 2126 rfl iconst_2 ?_
  refine g_iadd hC dL_law_2126 2127 rfl ?_
  refine g_sld hC hS dL_law_2127 2128 rfl h2 ?_
  refine g_i2c hC dL_law_2128 2129 rfl ?_
  refine g_subI hC (ct_X5_unban l g a M (xs (i + 1).toNatClampNeg) ((((xs (i + 2).toNatClampNeg)).toUInt32 % 65536).toInt32) _ h) gY_X5_unban dL_law_2129 2132 rfl ml_L_299 (law_mod g A a v u E1 M z1 zd) (law_mod1 g A a v u E1 z1 zd) [] rfl rfl rfl 0 9 rfl rfl ⟨Nat.le_of_ble_eq_true rfl, Nat.le_of_ble_eq_true rfl⟩ (Nat.le_of_ble_eq_true rfl) ⟨by omega, by omega⟩ (fun bx M1 h => ?_)
  refine g_istore (lv2 := [(7, .int bx), (6, .int kx), (0, .ref b), (1, .ref (A 0 0)), (2, .ref (a 0)), (3, .ref u), (4, .ref v), (5, .int i)]) hC dL_law_2132 2134 rfl (by decide) rfl ?_
  refine g_aload_n hC dL_law_2134 2135 rfl rfl 4 rfl ?_
  refine g_readV hC (ct_X5_thrown l g a M1 _ h) gY_X5_thrown dL_law_2135 2138 rfl ml_L_203 _ _ (law_mod g A a v u E1 M1 z1 zd) [] rfl rfl rfl 0 9 rfl rfl ⟨Nat.le_of_ble_eq_true rfl, Nat.le_of_ble_eq_true rfl⟩ (Nat.le_of_ble_eq_true rfl) ⟨by omega, by omega⟩ (fun t h => ?_)
  refine g_iload hC dL_law_2138 2140 rfl 1 rfl ?_
  obtain ⟨h9, h⟩ := h
  refine g_icmp_eq hC dL_law_2140 2145 (by decide) 2143 rfl (fun _ => ?_) (fun c9 => absurd h9 c9)
  refine g_iload hC dL_law_2145 2147 rfl 1 rfl ?_
  obtain ⟨hz9, hK9⟩ := h
  refine g_if_ne hC dL_law_2147 2169 (by decide) 2150 rfl (fun _ => ?_) (fun c9 => ?_)
  · skip
    refine g_goto hC dL_law_2169 3590 (by decide) ?_
    refine g_lv (lv2 := [(0, .ref b), (1, .ref (A 0 0)), (2, .ref (a 0)), (3, .ref u), (4, .ref v), (5, .int i)]) [2, 3, 4, 5, 6, 7] rfl ?_
    refine g_widen (k2 := k + 8) (n2 := n + 48) (by omega) (by omega) ?_
    exact hK _ _ _ _ hK9
  · have hz9 := hz9 c9
    refine g_aload_n hC dL_law_2150 2151 rfl rfl 5 rfl ?_
    refine g_iconst hC (0 : Int32) dL_law_2151 2152 rfl iconst_0 ?_
    refine g_lald hC dL_law_2152 2153 rfl 11 rfl (vp_in_d (by decide)) ?_
    refine g_iload hC dL_law_2153 2155 rfl 0 rfl ?_
    refine g_if_eq hC dL_law_2155 2162 (by decide) 2158 rfl (fun c8 => ?_) (fun c8 => ?_)
    · have hz9 := hz9.1 c8
      refine g_lconst hC (0 : Int64) dL_law_2162 2163 rfl rfl ?_
      refine g_lcmp hC dL_law_2163 2164 rfl ?_
      refine g_if_eq hC dL_law_2164 2169 (by decide) 2167 rfl (fun _ => ?_) (fun c7 => absurd hz9 c7)
      refine g_goto hC dL_law_2169 3590 (by decide) ?_
      refine g_lv (lv2 := [(0, .ref b), (1, .ref (A 0 0)), (2, .ref (a 0)), (3, .ref u), (4, .ref v), (5, .int i)]) [2, 3, 4, 5, 6, 7] rfl ?_
      refine g_widen (k2 := k + 8) (n2 := n + 48) (by omega) (by omega) ?_
      exact hK _ _ _ _ hK9
    · have hz9 := hz9.2 c8
      refine g_lconst hC (1 : Int64) dL_law_2158 2159 rfl rfl ?_
      refine g_goto hC dL_law_2159 2163 (by decide) ?_
      refine g_lcmp hC dL_law_2163 2164 rfl ?_
      refine g_if_eq hC dL_law_2164 2169 (by decide) 2167 rfl (fun _ => ?_) (fun c7 => absurd hz9 c7)
      refine g_goto hC dL_law_2169 3590 (by decide) ?_
      refine g_lv (lv2 := [(0, .ref b), (1, .ref (A 0 0)), (2, .ref (a 0)), (3, .ref u), (4, .ref v), (5, .int i)]) [2, 3, 4, 5, 6, 7] rfl ?_
      refine g_widen (k2 := k + 8) (n2 := n + 48) (by omega) (by omega) ?_
      exact hK _ _ _ _ hK9
def wc_31 (K : lwK) (E M : Off) (z : Nat → Int64) (zd : Nat → UInt64) (a1 a2 a3 : Int32) : Prop := ww_signTreaty (fun kx E1 z1 => wp_X5_signTreaty (fun bx M1 => wp_X5_thrown (fun t => (t = kx ∧ ((kx = 0 → lg_cmp (z1 (0 : Int32).toNatClampNeg) (bx).toInt64 = 0) ∧ K E1 M1 z1 zd))) M1) M a1 a2 (((a3).toUInt32 % 65536).toInt32)) E z a1 a2 (((a3).toUInt32 % 65536).toInt32)
set_option maxRecDepth 100000 in
set_option maxHeartbeats 4000000 in
theorem cs_31 {x : gX} {l : Launch} {g : gE} {A : Nat → Nat → Nat} {a : Nat → Nat} {v u b L : Nat} {xs : Nat → Int32} (hC : gC x l cL_law 9 RL g 2048 94400 603072 7207018) (hNw : gNw (x_s x)) (hst : l.stackTraces = false) (hS : gScr x b L xs) {K : lwK} {i : Int32} (h1 : vp_in (i + 1) L) (h2 : vp_in (i + 2) L) (h3 : vp_in (i + 3) L) {k n : Nat} (hk : k + 8 ≤ 603072) (hn : n + 48 ≤ 7207018) (hK : ∀ (E M : Off) (z : Nat → Int64) (zd : Nat → UInt64), K E M z zd → G x g 9 (k + 8) (n + 48) (lawW g A a v u E M z zd) 3590 [(0, .ref b), (1, .ref (A 0 0)), (2, .ref (a 0)), (3, .ref u), (4, .ref v), (5, .int i)] []) {E M : Off} {z : Nat → Int64} {zd : Nat → UInt64} (h : wc_31 K E M z zd (xs (i + 1).toNatClampNeg) (xs (i + 2).toNatClampNeg) (xs (i + 3).toNatClampNeg)) : G x g 9 k n (lawW g A a v u E M z zd) 2172 [(0, .ref b), (1, .ref (A 0 0)), (2, .ref (a 0)), (3, .ref u), (4, .ref v), (5, .int i)] [] := by
  unfold wc_31 at h
  refine g_aload_n hC dL_law_2172 2173 rfl rfl 1 rfl ?_
  refine g_aload_n hC dL_law_2173 2174 rfl rfl 0 rfl ?_
  refine g_iload hC dL_law_2174 2176 rfl 5 rfl ?_
  refine g_iconst hC (1 : Int32) dL_law_2176 2177 rfl iconst_1 ?_
  refine g_iadd hC dL_law_2177 2178 rfl ?_
  refine g_sld hC hS dL_law_2178 2179 rfl h1 ?_
  refine g_aload_n hC dL_law_2179 2180 rfl rfl 0 rfl ?_
  refine g_iload hC dL_law_2180 2182 rfl 5 rfl ?_
  refine g_iconst hC (2 : Int32) dL_law_2182 2183 rfl iconst_2 ?_
  refine g_iadd hC dL_law_2183 2184 rfl ?_
  refine g_sld hC hS dL_law_2184 2185 rfl h2 ?_
  refine g_aload_n hC dL_law_2185 2186 rfl rfl 0 rfl ?_
  refine g_iload hC dL_law_2186 2188 rfl 5 rfl ?_
  refine g_iconst hC (3 : Int32) dL_law_2188 2189 rfl iconst_3 ?_
  refine g_iadd hC dL_law_2189 2190 rfl ?_
  refine g_sld hC hS dL_law_2190 2191 rfl h3 ?_
  refine g_i2c hC dL_law_2191 2192 rfl ?_
  refine g_aload_n hC dL_law_2192 2193 rfl rfl 3 rfl ?_
  refine g_callW hC hNw hst (cw_signTreaty l g A u E z (xs (i + 1).toNatClampNeg) (xs (i + 2).toNatClampNeg) ((((xs (i + 3).toNatClampNeg)).toUInt32 % 65536).toInt32) _ h) gY_L_signTreaty dL_law_2193 2196 rfl ml_L_300 _ _ (law_out g A a v u E M z zd) [] rfl rfl ⟨Nat.le_of_ble_eq_true rfl, Nat.le_of_ble_eq_true rfl⟩ (Nat.le_of_ble_eq_true rfl) ⟨by omega, by omega⟩ ?_
  rintro r w1 ⟨kx, E1, z1, rfl, rfl, h⟩
  rw [law_out1]
  show G x g 9 (k + 4) (n + 24) (lawW g A a v u E1 M z1 zd) 2196 [(0, .ref b), (1, .ref (A 0 0)), (2, .ref (a 0)), (3, .ref u), (4, .ref v), (5, .int i)] [.int kx]
  refine g_istore (lv2 := [(6, .int kx), (0, .ref b), (1, .ref (A 0 0)), (2, .ref (a 0)), (3, .ref u), (4, .ref v), (5, .int i)]) hC dL_law_2196 2198 rfl (by decide) rfl ?_
  refine g_aload_n hC dL_law_2198 2199 rfl rfl 3 rfl ?_
  refine g_aload_n hC dL_law_2199 2200 rfl rfl 1 rfl ?_
  refine g_iload hC dL_law_2200 2202 rfl 6 rfl ?_
  refine g_iconst hC (1 : Int32) dL_law_2202 2203 rfl iconst_1 ?_
  refine g_iadd hC dL_law_2203 2204 rfl ?_
  refine g_sld hC hS dL_law_2204 2205 rfl h1 ?_
  refine g_aload_n hC dL_law_2205 2206 rfl rfl 1 rfl ?_
  refine g_iload hC dL_law_2206 2208 rfl 6 rfl ?_
  refine g_iconst hC (2 : Int32) dL_law_2208 2209 rfl iconst_2 ?_
  refine g_iadd hC dL_law_2209 2210 rfl ?_
  refine g_sld hC hS dL_law_2210 2211 rfl h2 ?_
  refine g_aload_n hC dL_law_2211 2212 rfl rfl 1 rfl ?_
  refine g_iload hC dL_law_2212 2214 rfl 6 rfl ?_
  refine g_iconst hC (3 : Int32) dL_law_2214 2215 rfl iconst_3 ?_
  refine g_iadd hC dL_law_2215 2216 rfl ?_
  refine g_sld hC hS dL_law_2216 2217 rfl h3 ?_
  refine g_i2c hC dL_law_2217 2218 rfl ?_
  refine g_subI hC (ct_X5_signTreaty l g a M (xs (i + 1).toNatClampNeg) (xs (i + 2).toNatClampNeg) ((((xs (i + 3).toNatClampNeg)).toUInt32 % 65536).toInt32) _ h) gY_X5_signTreaty dL_law_2218 2221 rfl ml_L_303 (law_mod g A a v u E1 M z1 zd) (law_mod1 g A a v u E1 z1 zd) [] rfl rfl rfl 0 9 rfl rfl ⟨Nat.le_of_ble_eq_true rfl, Nat.le_of_ble_eq_true rfl⟩ (Nat.le_of_ble_eq_true rfl) ⟨by omega, by omega⟩ (fun bx M1 h => ?_)
  refine g_istore (lv2 := [(7, .int bx), (6, .int kx), (0, .ref b), (1, .ref (A 0 0)), (2, .ref (a 0)), (3, .ref u), (4, .ref v), (5, .int i)]) hC dL_law_2221 2223 rfl (by decide) rfl ?_
  refine g_aload_n hC dL_law_2223 2224 rfl rfl 4 rfl ?_
  refine g_readV hC (ct_X5_thrown l g a M1 _ h) gY_X5_thrown dL_law_2224 2227 rfl ml_L_203 _ _ (law_mod g A a v u E1 M1 z1 zd) [] rfl rfl rfl 0 9 rfl rfl ⟨Nat.le_of_ble_eq_true rfl, Nat.le_of_ble_eq_true rfl⟩ (Nat.le_of_ble_eq_true rfl) ⟨by omega, by omega⟩ (fun t h => ?_)
  refine g_iload hC dL_law_2227 2229 rfl 1 rfl ?_
  obtain ⟨h9, h⟩ := h
  refine g_icmp_eq hC dL_law_2229 2234 (by decide) 2232 rfl (fun _ => ?_) (fun c9 => absurd h9 c9)
  refine g_iload hC dL_law_2234 2236 rfl 1 rfl ?_
  obtain ⟨hz9, hK9⟩ := h
  refine g_if_ne hC dL_law_2236 2251 (by decide) 2239 rfl (fun _ => ?_) (fun c9 => ?_)
  · skip
    refine g_goto hC dL_law_2251 3590 (by decide) ?_
    refine g_lv (lv2 := [(0, .ref b), (1, .ref (A 0 0)), (2, .ref (a 0)), (3, .ref u), (4, .ref v), (5, .int i)]) [2, 3, 4, 5, 6, 7] rfl ?_
    refine g_widen (k2 := k + 8) (n2 := n + 48) (by omega) (by omega) ?_
    exact hK _ _ _ _ hK9
  · have hz9 := hz9 c9
    refine g_aload_n hC dL_law_2239 2240 rfl rfl 5 rfl ?_
    refine g_iconst hC (0 : Int32) dL_law_2240 2241 rfl iconst_0 ?_
    refine g_lald hC dL_law_2241 2242 rfl 11 rfl (vp_in_d (by decide)) ?_
    refine g_iload hC dL_law_2242 2244 rfl 0 rfl ?_
    refine g_i2l hC dL_law_2244 2245 rfl ?_
    refine g_lcmp hC dL_law_2245 2246 rfl ?_
    refine g_if_eq hC dL_law_2246 2251 (by decide) 2249 rfl (fun _ => ?_) (fun c7 => absurd hz9 c7)
    refine g_goto hC dL_law_2251 3590 (by decide) ?_
    refine g_lv (lv2 := [(0, .ref b), (1, .ref (A 0 0)), (2, .ref (a 0)), (3, .ref u), (4, .ref v), (5, .int i)]) [2, 3, 4, 5, 6, 7] rfl ?_
    refine g_widen (k2 := k + 8) (n2 := n + 48) (by omega) (by omega) ?_
    exact hK _ _ _ _ hK9
def wc_32 (K : lwK) (E M : Off) (z : Nat → Int64) (zd : Nat → UInt64) (a1 a2 a3 : Int32) : Prop := ww_endTreaty (fun kx E1 z1 => wp_X5_endTreaty (fun bx M1 => wp_X5_thrown (fun t => (t = kx ∧ ((kx = 0 → lg_cmp (z1 (0 : Int32).toNatClampNeg) (bx).toInt64 = 0) ∧ K E1 M1 z1 zd))) M1) M a1 a2) E z a1 a2
set_option maxRecDepth 100000 in
set_option maxHeartbeats 4000000 in
theorem cs_32 {x : gX} {l : Launch} {g : gE} {A : Nat → Nat → Nat} {a : Nat → Nat} {v u b L : Nat} {xs : Nat → Int32} (hC : gC x l cL_law 9 RL g 2048 94400 603072 7207018) (hNw : gNw (x_s x)) (hst : l.stackTraces = false) (hS : gScr x b L xs) {K : lwK} {i : Int32} (h1 : vp_in (i + 1) L) (h2 : vp_in (i + 2) L) (h3 : vp_in (i + 3) L) {k n : Nat} (hk : k + 8 ≤ 603072) (hn : n + 48 ≤ 7207018) (hK : ∀ (E M : Off) (z : Nat → Int64) (zd : Nat → UInt64), K E M z zd → G x g 9 (k + 8) (n + 48) (lawW g A a v u E M z zd) 3590 [(0, .ref b), (1, .ref (A 0 0)), (2, .ref (a 0)), (3, .ref u), (4, .ref v), (5, .int i)] []) {E M : Off} {z : Nat → Int64} {zd : Nat → UInt64} (h : wc_32 K E M z zd (xs (i + 1).toNatClampNeg) (xs (i + 2).toNatClampNeg) (xs (i + 3).toNatClampNeg)) : G x g 9 k n (lawW g A a v u E M z zd) 2254 [(0, .ref b), (1, .ref (A 0 0)), (2, .ref (a 0)), (3, .ref u), (4, .ref v), (5, .int i)] [] := by
  unfold wc_32 at h
  refine g_aload_n hC dL_law_2254 2255 rfl rfl 1 rfl ?_
  refine g_aload_n hC dL_law_2255 2256 rfl rfl 0 rfl ?_
  refine g_iload hC dL_law_2256 2258 rfl 5 rfl ?_
  refine g_iconst hC (1 : Int32) dL_law_2258 2259 rfl iconst_1 ?_
  refine g_iadd hC dL_law_2259 2260 rfl ?_
  refine g_sld hC hS dL_law_2260 2261 rfl h1 ?_
  refine g_aload_n hC dL_law_2261 2262 rfl rfl 0 rfl ?_
  refine g_iload hC dL_law_2262 2264 rfl 5 rfl ?_
  refine g_iconst hC (2 : Int32) dL_law_2264 2265 rfl iconst_2 ?_
  refine g_iadd hC dL_law_2265 2266 rfl ?_
  refine g_sld hC hS dL_law_2266 2267 rfl h2 ?_
  refine g_aload_n hC dL_law_2267 2268 rfl rfl 3 rfl ?_
  refine g_callW hC hNw hst (cw_endTreaty l g A u E z (xs (i + 1).toNatClampNeg) (xs (i + 2).toNatClampNeg) _ h) gY_L_endTreaty dL_law_2268 2271 rfl ml_L_304 _ _ (law_out g A a v u E M z zd) [] rfl rfl ⟨Nat.le_of_ble_eq_true rfl, Nat.le_of_ble_eq_true rfl⟩ (Nat.le_of_ble_eq_true rfl) ⟨by omega, by omega⟩ ?_
  rintro r w1 ⟨kx, E1, z1, rfl, rfl, h⟩
  rw [law_out1]
  show G x g 9 (k + 4) (n + 24) (lawW g A a v u E1 M z1 zd) 2271 [(0, .ref b), (1, .ref (A 0 0)), (2, .ref (a 0)), (3, .ref u), (4, .ref v), (5, .int i)] [.int kx]
  refine g_istore (lv2 := [(6, .int kx), (0, .ref b), (1, .ref (A 0 0)), (2, .ref (a 0)), (3, .ref u), (4, .ref v), (5, .int i)]) hC dL_law_2271 2273 rfl (by decide) rfl ?_
  refine g_aload_n hC dL_law_2273 2274 rfl rfl 3 rfl ?_
  refine g_aload_n hC dL_law_2274 2275 rfl rfl 1 rfl ?_
  refine g_iload hC dL_law_2275 2277 rfl 6 rfl ?_
  refine g_iconst hC (1 : Int32) dL_law_2277 2278 rfl iconst_1 ?_
  refine g_iadd hC dL_law_2278 2279 rfl ?_
  refine g_sld hC hS dL_law_2279 2280 rfl h1 ?_
  refine g_aload_n hC dL_law_2280 2281 rfl rfl 1 rfl ?_
  refine g_iload hC dL_law_2281 2283 rfl 6 rfl ?_
  refine g_iconst hC (2 : Int32) dL_law_2283 2284 rfl iconst_2 ?_
  refine g_iadd hC dL_law_2284 2285 rfl ?_
  refine g_sld hC hS dL_law_2285 2286 rfl h2 ?_
  refine g_subI hC (ct_X5_endTreaty l g a M (xs (i + 1).toNatClampNeg) (xs (i + 2).toNatClampNeg) _ h) gY_X5_endTreaty dL_law_2286 2289 rfl ml_L_306 (law_mod g A a v u E1 M z1 zd) (law_mod1 g A a v u E1 z1 zd) [] rfl rfl rfl 0 9 rfl rfl ⟨Nat.le_of_ble_eq_true rfl, Nat.le_of_ble_eq_true rfl⟩ (Nat.le_of_ble_eq_true rfl) ⟨by omega, by omega⟩ (fun bx M1 h => ?_)
  refine g_istore (lv2 := [(7, .int bx), (6, .int kx), (0, .ref b), (1, .ref (A 0 0)), (2, .ref (a 0)), (3, .ref u), (4, .ref v), (5, .int i)]) hC dL_law_2289 2291 rfl (by decide) rfl ?_
  refine g_aload_n hC dL_law_2291 2292 rfl rfl 4 rfl ?_
  refine g_readV hC (ct_X5_thrown l g a M1 _ h) gY_X5_thrown dL_law_2292 2295 rfl ml_L_203 _ _ (law_mod g A a v u E1 M1 z1 zd) [] rfl rfl rfl 0 9 rfl rfl ⟨Nat.le_of_ble_eq_true rfl, Nat.le_of_ble_eq_true rfl⟩ (Nat.le_of_ble_eq_true rfl) ⟨by omega, by omega⟩ (fun t h => ?_)
  refine g_iload hC dL_law_2295 2297 rfl 1 rfl ?_
  obtain ⟨h9, h⟩ := h
  refine g_icmp_eq hC dL_law_2297 2302 (by decide) 2300 rfl (fun _ => ?_) (fun c9 => absurd h9 c9)
  refine g_iload hC dL_law_2302 2304 rfl 1 rfl ?_
  obtain ⟨hz9, hK9⟩ := h
  refine g_if_ne hC dL_law_2304 2319 (by decide) 2307 rfl (fun _ => ?_) (fun c9 => ?_)
  · skip
    refine g_goto hC dL_law_2319 3590 (by decide) ?_
    refine g_lv (lv2 := [(0, .ref b), (1, .ref (A 0 0)), (2, .ref (a 0)), (3, .ref u), (4, .ref v), (5, .int i)]) [2, 3, 4, 5, 6, 7] rfl ?_
    refine g_widen (k2 := k + 8) (n2 := n + 48) (by omega) (by omega) ?_
    exact hK _ _ _ _ hK9
  · have hz9 := hz9 c9
    refine g_aload_n hC dL_law_2307 2308 rfl rfl 5 rfl ?_
    refine g_iconst hC (0 : Int32) dL_law_2308 2309 rfl iconst_0 ?_
    refine g_lald hC dL_law_2309 2310 rfl 11 rfl (vp_in_d (by decide)) ?_
    refine g_iload hC dL_law_2310 2312 rfl 0 rfl ?_
    refine g_i2l hC dL_law_2312 2313 rfl ?_
    refine g_lcmp hC dL_law_2313 2314 rfl ?_
    refine g_if_eq hC dL_law_2314 2319 (by decide) 2317 rfl (fun _ => ?_) (fun c7 => absurd hz9 c7)
    refine g_goto hC dL_law_2319 3590 (by decide) ?_
    refine g_lv (lv2 := [(0, .ref b), (1, .ref (A 0 0)), (2, .ref (a 0)), (3, .ref u), (4, .ref v), (5, .int i)]) [2, 3, 4, 5, 6, 7] rfl ?_
    refine g_widen (k2 := k + 8) (n2 := n + 48) (by omega) (by omega) ?_
    exact hK _ _ _ _ hK9
def wc_33 (K : lwK) (E M : Off) (z : Nat → Int64) (zd : Nat → UInt64) (a1 a2 a3 : Int32) : Prop := ww_clauseOf (fun kx E1 z1 => wp_X5_clauseOf (fun bx M1 => wp_X5_thrown (fun t => (t = kx ∧ ((kx = 0 → lg_cmp (z1 (0 : Int32).toNatClampNeg) (bx).toInt64 = 0) ∧ K E1 M1 z1 zd))) M1) M a1 a2) E z a1 a2
set_option maxRecDepth 100000 in
set_option maxHeartbeats 4000000 in
theorem cs_33 {x : gX} {l : Launch} {g : gE} {A : Nat → Nat → Nat} {a : Nat → Nat} {v u b L : Nat} {xs : Nat → Int32} (hC : gC x l cL_law 9 RL g 2048 94400 603072 7207018) (hNw : gNw (x_s x)) (hst : l.stackTraces = false) (hS : gScr x b L xs) {K : lwK} {i : Int32} (h1 : vp_in (i + 1) L) (h2 : vp_in (i + 2) L) (h3 : vp_in (i + 3) L) {k n : Nat} (hk : k + 8 ≤ 603072) (hn : n + 48 ≤ 7207018) (hK : ∀ (E M : Off) (z : Nat → Int64) (zd : Nat → UInt64), K E M z zd → G x g 9 (k + 8) (n + 48) (lawW g A a v u E M z zd) 3590 [(0, .ref b), (1, .ref (A 0 0)), (2, .ref (a 0)), (3, .ref u), (4, .ref v), (5, .int i)] []) {E M : Off} {z : Nat → Int64} {zd : Nat → UInt64} (h : wc_33 K E M z zd (xs (i + 1).toNatClampNeg) (xs (i + 2).toNatClampNeg) (xs (i + 3).toNatClampNeg)) : G x g 9 k n (lawW g A a v u E M z zd) 2322 [(0, .ref b), (1, .ref (A 0 0)), (2, .ref (a 0)), (3, .ref u), (4, .ref v), (5, .int i)] [] := by
  unfold wc_33 at h
  refine g_aload_n hC dL_law_2322 2323 rfl rfl 1 rfl ?_
  refine g_aload_n hC dL_law_2323 2324 rfl rfl 0 rfl ?_
  refine g_iload hC dL_law_2324 2326 rfl 5 rfl ?_
  refine g_iconst hC (1 : Int32) dL_law_2326 2327 rfl iconst_1 ?_
  refine g_iadd hC dL_law_2327 2328 rfl ?_
  refine g_sld hC hS dL_law_2328 2329 rfl h1 ?_
  refine g_aload_n hC dL_law_2329 2330 rfl rfl 0 rfl ?_
  refine g_iload hC dL_law_2330 2332 rfl 5 rfl ?_
  refine g_iconst hC (2 : Int32) dL_law_2332 2333 rfl iconst_2 ?_
  refine g_iadd hC dL_law_2333 2334 rfl ?_
  refine g_sld hC hS dL_law_2334 2335 rfl h2 ?_
  refine g_aload_n hC dL_law_2335 2336 rfl rfl 3 rfl ?_
  refine g_callW hC hNw hst (cw_clauseOf l g A u E z (xs (i + 1).toNatClampNeg) (xs (i + 2).toNatClampNeg) _ h) gY_L_clauseOf dL_law_2336 2339 rfl ml_L_307 _ _ (law_out g A a v u E M z zd) [] rfl rfl ⟨Nat.le_of_ble_eq_true rfl, Nat.le_of_ble_eq_true rfl⟩ (Nat.le_of_ble_eq_true rfl) ⟨by omega, by omega⟩ ?_
  rintro r w1 ⟨kx, E1, z1, rfl, rfl, h⟩
  rw [law_out1]
  show G x g 9 (k + 3) (n + 18) (lawW g A a v u E1 M z1 zd) 2339 [(0, .ref b), (1, .ref (A 0 0)), (2, .ref (a 0)), (3, .ref u), (4, .ref v), (5, .int i)] [.int kx]
  refine g_istore (lv2 := [(6, .int kx), (0, .ref b), (1, .ref (A 0 0)), (2, .ref (a 0)), (3, .ref u), (4, .ref v), (5, .int i)]) hC dL_law_2339 2341 rfl (by decide) rfl ?_
  refine g_aload_n hC dL_law_2341 2342 rfl rfl 3 rfl ?_
  refine g_aload_n hC dL_law_2342 2343 rfl rfl 1 rfl ?_
  refine g_iload hC dL_law_2343 2345 rfl 6 rfl ?_
  refine g_iconst hC (1 : Int32) dL_law_2345 2346 rfl iconst_1 ?_
  refine g_iadd hC dL_law_2346 2347 rfl ?_
  refine g_sld hC hS dL_law_2347 2348 rfl h1 ?_
  refine g_aload_n hC dL_law_2348 2349 rfl rfl 1 rfl ?_
  refine g_iload hC dL_law_2349 2351 rfl 6 rfl ?_
  refine g_iconst hC (2 : Int32) dL_law_2351 2352 rfl iconst_2 ?_
  refine g_iadd hC dL_law_2352 2353 rfl ?_
  refine g_sld hC hS dL_law_2353 2354 rfl h2 ?_
  refine g_subI hC (ct_X5_clauseOf l g a M (xs (i + 1).toNatClampNeg) (xs (i + 2).toNatClampNeg) _ h) gY_X5_clauseOf dL_law_2354 2357 rfl ml_L_309 (law_mod g A a v u E1 M z1 zd) (law_mod1 g A a v u E1 z1 zd) [] rfl rfl rfl 0 9 rfl rfl ⟨Nat.le_of_ble_eq_true rfl, Nat.le_of_ble_eq_true rfl⟩ (Nat.le_of_ble_eq_true rfl) ⟨by omega, by omega⟩ (fun bx M1 h => ?_)
  refine g_istore (lv2 := [(7, .int bx), (6, .int kx), (0, .ref b), (1, .ref (A 0 0)), (2, .ref (a 0)), (3, .ref u), (4, .ref v), (5, .int i)]) hC dL_law_2357 2359 rfl (by decide) rfl ?_
  refine g_aload_n hC dL_law_2359 2360 rfl rfl 4 rfl ?_
  refine g_readV hC (ct_X5_thrown l g a M1 _ h) gY_X5_thrown dL_law_2360 2363 rfl ml_L_203 _ _ (law_mod g A a v u E1 M1 z1 zd) [] rfl rfl rfl 0 9 rfl rfl ⟨Nat.le_of_ble_eq_true rfl, Nat.le_of_ble_eq_true rfl⟩ (Nat.le_of_ble_eq_true rfl) ⟨by omega, by omega⟩ (fun t h => ?_)
  refine g_iload hC dL_law_2363 2365 rfl 1 rfl ?_
  obtain ⟨h9, h⟩ := h
  refine g_icmp_eq hC dL_law_2365 2370 (by decide) 2368 rfl (fun _ => ?_) (fun c9 => absurd h9 c9)
  refine g_iload hC dL_law_2370 2372 rfl 1 rfl ?_
  obtain ⟨hz9, hK9⟩ := h
  refine g_if_ne hC dL_law_2372 2387 (by decide) 2375 rfl (fun _ => ?_) (fun c9 => ?_)
  · skip
    refine g_goto hC dL_law_2387 3590 (by decide) ?_
    refine g_lv (lv2 := [(0, .ref b), (1, .ref (A 0 0)), (2, .ref (a 0)), (3, .ref u), (4, .ref v), (5, .int i)]) [2, 3, 4, 5, 6, 7] rfl ?_
    refine g_widen (k2 := k + 8) (n2 := n + 48) (by omega) (by omega) ?_
    exact hK _ _ _ _ hK9
  · have hz9 := hz9 c9
    refine g_aload_n hC dL_law_2375 2376 rfl rfl 5 rfl ?_
    refine g_iconst hC (0 : Int32) dL_law_2376 2377 rfl iconst_0 ?_
    refine g_lald hC dL_law_2377 2378 rfl 11 rfl (vp_in_d (by decide)) ?_
    refine g_iload hC dL_law_2378 2380 rfl 0 rfl ?_
    refine g_i2l hC dL_law_2380 2381 rfl ?_
    refine g_lcmp hC dL_law_2381 2382 rfl ?_
    refine g_if_eq hC dL_law_2382 2387 (by decide) 2385 rfl (fun _ => ?_) (fun c7 => absurd hz9 c7)
    refine g_goto hC dL_law_2387 3590 (by decide) ?_
    refine g_lv (lv2 := [(0, .ref b), (1, .ref (A 0 0)), (2, .ref (a 0)), (3, .ref u), (4, .ref v), (5, .int i)]) [2, 3, 4, 5, 6, 7] rfl ?_
    refine g_widen (k2 := k + 8) (n2 := n + 48) (by omega) (by omega) ?_
    exact hK _ _ _ _ hK9
def wc_34 (K : lwK) (E M : Off) (z : Nat → Int64) (zd : Nat → UInt64) (a1 a2 a3 : Int32) : Prop := ww_quotaOf (fun kx E1 z1 => wp_X5_quotaOf (fun bx M1 => wp_X5_thrown (fun t => (t = kx ∧ ((kx = 0 → lg_cmp (z1 (0 : Int32).toNatClampNeg) (bx).toInt64 = 0) ∧ K E1 M1 z1 zd))) M1) M a1) E z a1
set_option maxRecDepth 100000 in
set_option maxHeartbeats 4000000 in
theorem cs_34 {x : gX} {l : Launch} {g : gE} {A : Nat → Nat → Nat} {a : Nat → Nat} {v u b L : Nat} {xs : Nat → Int32} (hC : gC x l cL_law 9 RL g 2048 94400 603072 7207018) (hNw : gNw (x_s x)) (hst : l.stackTraces = false) (hS : gScr x b L xs) {K : lwK} {i : Int32} (h1 : vp_in (i + 1) L) (h2 : vp_in (i + 2) L) (h3 : vp_in (i + 3) L) {k n : Nat} (hk : k + 8 ≤ 603072) (hn : n + 48 ≤ 7207018) (hK : ∀ (E M : Off) (z : Nat → Int64) (zd : Nat → UInt64), K E M z zd → G x g 9 (k + 8) (n + 48) (lawW g A a v u E M z zd) 3590 [(0, .ref b), (1, .ref (A 0 0)), (2, .ref (a 0)), (3, .ref u), (4, .ref v), (5, .int i)] []) {E M : Off} {z : Nat → Int64} {zd : Nat → UInt64} (h : wc_34 K E M z zd (xs (i + 1).toNatClampNeg) (xs (i + 2).toNatClampNeg) (xs (i + 3).toNatClampNeg)) : G x g 9 k n (lawW g A a v u E M z zd) 2390 [(0, .ref b), (1, .ref (A 0 0)), (2, .ref (a 0)), (3, .ref u), (4, .ref v), (5, .int i)] [] := by
  unfold wc_34 at h
  refine g_aload_n hC dL_law_2390 2391 rfl rfl 1 rfl ?_
  refine g_aload_n hC dL_law_2391 2392 rfl rfl 0 rfl ?_
  refine g_iload hC dL_law_2392 2394 rfl 5 rfl ?_
  refine g_iconst hC (1 : Int32) dL_law_2394 2395 rfl iconst_1 ?_
  refine g_iadd hC dL_law_2395 2396 rfl ?_
  refine g_sld hC hS dL_law_2396 2397 rfl h1 ?_
  refine g_aload_n hC dL_law_2397 2398 rfl rfl 3 rfl ?_
  refine g_callW hC hNw hst (cw_quotaOf l g A u E z (xs (i + 1).toNatClampNeg) _ h) gY_L_quotaOf dL_law_2398 2401 rfl ml_L_310 _ _ (law_out g A a v u E M z zd) [] rfl rfl ⟨Nat.le_of_ble_eq_true rfl, Nat.le_of_ble_eq_true rfl⟩ (Nat.le_of_ble_eq_true rfl) ⟨by omega, by omega⟩ ?_
  rintro r w1 ⟨kx, E1, z1, rfl, rfl, h⟩
  rw [law_out1]
  show G x g 9 (k + 1) (n + 6) (lawW g A a v u E1 M z1 zd) 2401 [(0, .ref b), (1, .ref (A 0 0)), (2, .ref (a 0)), (3, .ref u), (4, .ref v), (5, .int i)] [.int kx]
  refine g_istore (lv2 := [(6, .int kx), (0, .ref b), (1, .ref (A 0 0)), (2, .ref (a 0)), (3, .ref u), (4, .ref v), (5, .int i)]) hC dL_law_2401 2403 rfl (by decide) rfl ?_
  refine g_aload_n hC dL_law_2403 2404 rfl rfl 3 rfl ?_
  refine g_aload_n hC dL_law_2404 2405 rfl rfl 1 rfl ?_
  refine g_iload hC dL_law_2405 2407 rfl 6 rfl ?_
  refine g_iconst hC (1 : Int32) dL_law_2407 2408 rfl iconst_1 ?_
  refine g_iadd hC dL_law_2408 2409 rfl ?_
  refine g_sld hC hS dL_law_2409 2410 rfl h1 ?_
  refine g_subI hC (ct_X5_quotaOf l g a M (xs (i + 1).toNatClampNeg) _ h) gY_X5_quotaOf dL_law_2410 2413 rfl ml_L_312 (law_mod g A a v u E1 M z1 zd) (law_mod1 g A a v u E1 z1 zd) [] rfl rfl rfl 0 9 rfl rfl ⟨Nat.le_of_ble_eq_true rfl, Nat.le_of_ble_eq_true rfl⟩ (Nat.le_of_ble_eq_true rfl) ⟨by omega, by omega⟩ (fun bx M1 h => ?_)
  refine g_istore (lv2 := [(7, .int bx), (6, .int kx), (0, .ref b), (1, .ref (A 0 0)), (2, .ref (a 0)), (3, .ref u), (4, .ref v), (5, .int i)]) hC dL_law_2413 2415 rfl (by decide) rfl ?_
  refine g_aload_n hC dL_law_2415 2416 rfl rfl 4 rfl ?_
  refine g_readV hC (ct_X5_thrown l g a M1 _ h) gY_X5_thrown dL_law_2416 2419 rfl ml_L_203 _ _ (law_mod g A a v u E1 M1 z1 zd) [] rfl rfl rfl 0 9 rfl rfl ⟨Nat.le_of_ble_eq_true rfl, Nat.le_of_ble_eq_true rfl⟩ (Nat.le_of_ble_eq_true rfl) ⟨by omega, by omega⟩ (fun t h => ?_)
  refine g_iload hC dL_law_2419 2421 rfl 1 rfl ?_
  obtain ⟨h9, h⟩ := h
  refine g_icmp_eq hC dL_law_2421 2426 (by decide) 2424 rfl (fun _ => ?_) (fun c9 => absurd h9 c9)
  refine g_iload hC dL_law_2426 2428 rfl 1 rfl ?_
  obtain ⟨hz9, hK9⟩ := h
  refine g_if_ne hC dL_law_2428 2443 (by decide) 2431 rfl (fun _ => ?_) (fun c9 => ?_)
  · skip
    refine g_goto hC dL_law_2443 3590 (by decide) ?_
    refine g_lv (lv2 := [(0, .ref b), (1, .ref (A 0 0)), (2, .ref (a 0)), (3, .ref u), (4, .ref v), (5, .int i)]) [2, 3, 4, 5, 6, 7] rfl ?_
    refine g_widen (k2 := k + 8) (n2 := n + 48) (by omega) (by omega) ?_
    exact hK _ _ _ _ hK9
  · have hz9 := hz9 c9
    refine g_aload_n hC dL_law_2431 2432 rfl rfl 5 rfl ?_
    refine g_iconst hC (0 : Int32) dL_law_2432 2433 rfl iconst_0 ?_
    refine g_lald hC dL_law_2433 2434 rfl 11 rfl (vp_in_d (by decide)) ?_
    refine g_iload hC dL_law_2434 2436 rfl 0 rfl ?_
    refine g_i2l hC dL_law_2436 2437 rfl ?_
    refine g_lcmp hC dL_law_2437 2438 rfl ?_
    refine g_if_eq hC dL_law_2438 2443 (by decide) 2441 rfl (fun _ => ?_) (fun c7 => absurd hz9 c7)
    refine g_goto hC dL_law_2443 3590 (by decide) ?_
    refine g_lv (lv2 := [(0, .ref b), (1, .ref (A 0 0)), (2, .ref (a 0)), (3, .ref u), (4, .ref v), (5, .int i)]) [2, 3, 4, 5, 6, 7] rfl ?_
    refine g_widen (k2 := k + 8) (n2 := n + 48) (by omega) (by omega) ?_
    exact hK _ _ _ _ hK9
def wc_35 (K : lwK) (E M : Off) (z : Nat → Int64) (zd : Nat → UInt64) (a1 a2 a3 : Int32) : Prop := ww_residents (fun kx E1 z1 => wp_X5_residents (fun bx M1 => wp_X5_thrown (fun t => (t = kx ∧ ((kx = 0 → lg_cmp (z1 (0 : Int32).toNatClampNeg) (bx).toInt64 = 0) ∧ K E1 M1 z1 zd))) M1) M a1) E z a1
set_option maxRecDepth 100000 in
set_option maxHeartbeats 4000000 in
theorem cs_35 {x : gX} {l : Launch} {g : gE} {A : Nat → Nat → Nat} {a : Nat → Nat} {v u b L : Nat} {xs : Nat → Int32} (hC : gC x l cL_law 9 RL g 2048 94400 603072 7207018) (hNw : gNw (x_s x)) (hst : l.stackTraces = false) (hS : gScr x b L xs) {K : lwK} {i : Int32} (h1 : vp_in (i + 1) L) (h2 : vp_in (i + 2) L) (h3 : vp_in (i + 3) L) {k n : Nat} (hk : k + 8 ≤ 603072) (hn : n + 48 ≤ 7207018) (hK : ∀ (E M : Off) (z : Nat → Int64) (zd : Nat → UInt64), K E M z zd → G x g 9 (k + 8) (n + 48) (lawW g A a v u E M z zd) 3590 [(0, .ref b), (1, .ref (A 0 0)), (2, .ref (a 0)), (3, .ref u), (4, .ref v), (5, .int i)] []) {E M : Off} {z : Nat → Int64} {zd : Nat → UInt64} (h : wc_35 K E M z zd (xs (i + 1).toNatClampNeg) (xs (i + 2).toNatClampNeg) (xs (i + 3).toNatClampNeg)) : G x g 9 k n (lawW g A a v u E M z zd) 2446 [(0, .ref b), (1, .ref (A 0 0)), (2, .ref (a 0)), (3, .ref u), (4, .ref v), (5, .int i)] [] := by
  unfold wc_35 at h
  refine g_aload_n hC dL_law_2446 2447 rfl rfl 1 rfl ?_
  refine g_aload_n hC dL_law_2447 2448 rfl rfl 0 rfl ?_
  refine g_iload hC dL_law_2448 2450 rfl 5 rfl ?_
  refine g_iconst hC (1 : Int32) dL_law_2450 2451 rfl iconst_1 ?_
  refine g_iadd hC dL_law_2451 2452 rfl ?_
  refine g_sld hC hS dL_law_2452 2453 rfl h1 ?_
  refine g_aload_n hC dL_law_2453 2454 rfl rfl 3 rfl ?_
  refine g_callW hC hNw hst (cw_residents l g A u E z (xs (i + 1).toNatClampNeg) _ h) gY_L_residents dL_law_2454 2457 rfl ml_L_313 _ _ (law_out g A a v u E M z zd) [] rfl rfl ⟨Nat.le_of_ble_eq_true rfl, Nat.le_of_ble_eq_true rfl⟩ (Nat.le_of_ble_eq_true rfl) ⟨by omega, by omega⟩ ?_
  rintro r w1 ⟨kx, E1, z1, rfl, rfl, h⟩
  rw [law_out1]
  show G x g 9 (k + 1) (n + 6) (lawW g A a v u E1 M z1 zd) 2457 [(0, .ref b), (1, .ref (A 0 0)), (2, .ref (a 0)), (3, .ref u), (4, .ref v), (5, .int i)] [.int kx]
  refine g_istore (lv2 := [(6, .int kx), (0, .ref b), (1, .ref (A 0 0)), (2, .ref (a 0)), (3, .ref u), (4, .ref v), (5, .int i)]) hC dL_law_2457 2459 rfl (by decide) rfl ?_
  refine g_aload_n hC dL_law_2459 2460 rfl rfl 3 rfl ?_
  refine g_aload_n hC dL_law_2460 2461 rfl rfl 1 rfl ?_
  refine g_iload hC dL_law_2461 2463 rfl 6 rfl ?_
  refine g_iconst hC (1 : Int32) dL_law_2463 2464 rfl iconst_1 ?_
  refine g_iadd hC dL_law_2464 2465 rfl ?_
  refine g_sld hC hS dL_law_2465 2466 rfl h1 ?_
  refine g_subI hC (ct_X5_residents l g a M (xs (i + 1).toNatClampNeg) _ h) gY_X5_residents dL_law_2466 2469 rfl ml_L_315 (law_mod g A a v u E1 M z1 zd) (law_mod1 g A a v u E1 z1 zd) [] rfl rfl rfl 0 9 rfl rfl ⟨Nat.le_of_ble_eq_true rfl, Nat.le_of_ble_eq_true rfl⟩ (Nat.le_of_ble_eq_true rfl) ⟨by omega, by omega⟩ (fun bx M1 h => ?_)
  refine g_istore (lv2 := [(7, .int bx), (6, .int kx), (0, .ref b), (1, .ref (A 0 0)), (2, .ref (a 0)), (3, .ref u), (4, .ref v), (5, .int i)]) hC dL_law_2469 2471 rfl (by decide) rfl ?_
  refine g_aload_n hC dL_law_2471 2472 rfl rfl 4 rfl ?_
  refine g_readV hC (ct_X5_thrown l g a M1 _ h) gY_X5_thrown dL_law_2472 2475 rfl ml_L_203 _ _ (law_mod g A a v u E1 M1 z1 zd) [] rfl rfl rfl 0 9 rfl rfl ⟨Nat.le_of_ble_eq_true rfl, Nat.le_of_ble_eq_true rfl⟩ (Nat.le_of_ble_eq_true rfl) ⟨by omega, by omega⟩ (fun t h => ?_)
  refine g_iload hC dL_law_2475 2477 rfl 1 rfl ?_
  obtain ⟨h9, h⟩ := h
  refine g_icmp_eq hC dL_law_2477 2482 (by decide) 2480 rfl (fun _ => ?_) (fun c9 => absurd h9 c9)
  refine g_iload hC dL_law_2482 2484 rfl 1 rfl ?_
  obtain ⟨hz9, hK9⟩ := h
  refine g_if_ne hC dL_law_2484 2499 (by decide) 2487 rfl (fun _ => ?_) (fun c9 => ?_)
  · skip
    refine g_goto hC dL_law_2499 3590 (by decide) ?_
    refine g_lv (lv2 := [(0, .ref b), (1, .ref (A 0 0)), (2, .ref (a 0)), (3, .ref u), (4, .ref v), (5, .int i)]) [2, 3, 4, 5, 6, 7] rfl ?_
    refine g_widen (k2 := k + 8) (n2 := n + 48) (by omega) (by omega) ?_
    exact hK _ _ _ _ hK9
  · have hz9 := hz9 c9
    refine g_aload_n hC dL_law_2487 2488 rfl rfl 5 rfl ?_
    refine g_iconst hC (0 : Int32) dL_law_2488 2489 rfl iconst_0 ?_
    refine g_lald hC dL_law_2489 2490 rfl 11 rfl (vp_in_d (by decide)) ?_
    refine g_iload hC dL_law_2490 2492 rfl 0 rfl ?_
    refine g_i2l hC dL_law_2492 2493 rfl ?_
    refine g_lcmp hC dL_law_2493 2494 rfl ?_
    refine g_if_eq hC dL_law_2494 2499 (by decide) 2497 rfl (fun _ => ?_) (fun c7 => absurd hz9 c7)
    refine g_goto hC dL_law_2499 3590 (by decide) ?_
    refine g_lv (lv2 := [(0, .ref b), (1, .ref (A 0 0)), (2, .ref (a 0)), (3, .ref u), (4, .ref v), (5, .int i)]) [2, 3, 4, 5, 6, 7] rfl ?_
    refine g_widen (k2 := k + 8) (n2 := n + 48) (by omega) (by omega) ?_
    exact hK _ _ _ _ hK9
def wc_36 (K : lwK) (E M : Off) (z : Nat → Int64) (zd : Nat → UInt64) (a1 a2 a3 : Int32) : Prop := ww_residentAt (fun kx E1 z1 => wp_X5_residentAt (fun bx M1 => wp_X5_thrown (fun t => (t = kx ∧ ((kx = 0 → lg_cmp (z1 (0 : Int32).toNatClampNeg) (bx).toInt64 = 0) ∧ K E1 M1 z1 zd))) M1) M a1 a2) E z a1 a2
set_option maxRecDepth 100000 in
set_option maxHeartbeats 4000000 in
theorem cs_36 {x : gX} {l : Launch} {g : gE} {A : Nat → Nat → Nat} {a : Nat → Nat} {v u b L : Nat} {xs : Nat → Int32} (hC : gC x l cL_law 9 RL g 2048 94400 603072 7207018) (hNw : gNw (x_s x)) (hst : l.stackTraces = false) (hS : gScr x b L xs) {K : lwK} {i : Int32} (h1 : vp_in (i + 1) L) (h2 : vp_in (i + 2) L) (h3 : vp_in (i + 3) L) {k n : Nat} (hk : k + 8 ≤ 603072) (hn : n + 48 ≤ 7207018) (hK : ∀ (E M : Off) (z : Nat → Int64) (zd : Nat → UInt64), K E M z zd → G x g 9 (k + 8) (n + 48) (lawW g A a v u E M z zd) 3590 [(0, .ref b), (1, .ref (A 0 0)), (2, .ref (a 0)), (3, .ref u), (4, .ref v), (5, .int i)] []) {E M : Off} {z : Nat → Int64} {zd : Nat → UInt64} (h : wc_36 K E M z zd (xs (i + 1).toNatClampNeg) (xs (i + 2).toNatClampNeg) (xs (i + 3).toNatClampNeg)) : G x g 9 k n (lawW g A a v u E M z zd) 2502 [(0, .ref b), (1, .ref (A 0 0)), (2, .ref (a 0)), (3, .ref u), (4, .ref v), (5, .int i)] [] := by
  unfold wc_36 at h
  refine g_aload_n hC dL_law_2502 2503 rfl rfl 1 rfl ?_
  refine g_aload_n hC dL_law_2503 2504 rfl rfl 0 rfl ?_
  refine g_iload hC dL_law_2504 2506 rfl 5 rfl ?_
  refine g_iconst hC (1 : Int32) dL_law_2506 2507 rfl iconst_1 ?_
  refine g_iadd hC dL_law_2507 2508 rfl ?_
  refine g_sld hC hS dL_law_2508 2509 rfl h1 ?_
  refine g_aload_n hC dL_law_2509 2510 rfl rfl 0 rfl ?_
  refine g_iload hC dL_law_2510 2512 rfl 5 rfl ?_
  refine g_iconst hC (2 : Int32) dL_law_2512 2513 rfl iconst_2 ?_
  refine g_iadd hC dL_law_2513 2514 rfl ?_
  refine g_sld hC hS dL_law_2514 2515 rfl h2 ?_
  refine g_aload_n hC dL_law_2515 2516 rfl rfl 3 rfl ?_
  refine g_callW hC hNw hst (cw_residentAt l g A u E z (xs (i + 1).toNatClampNeg) (xs (i + 2).toNatClampNeg) _ h) gY_L_residentAt dL_law_2516 2519 rfl ml_L_316 _ _ (law_out g A a v u E M z zd) [] rfl rfl ⟨Nat.le_of_ble_eq_true rfl, Nat.le_of_ble_eq_true rfl⟩ (Nat.le_of_ble_eq_true rfl) ⟨by omega, by omega⟩ ?_
  rintro r w1 ⟨kx, E1, z1, rfl, rfl, h⟩
  rw [law_out1]
  show G x g 9 (k + 2) (n + 12) (lawW g A a v u E1 M z1 zd) 2519 [(0, .ref b), (1, .ref (A 0 0)), (2, .ref (a 0)), (3, .ref u), (4, .ref v), (5, .int i)] [.int kx]
  refine g_istore (lv2 := [(6, .int kx), (0, .ref b), (1, .ref (A 0 0)), (2, .ref (a 0)), (3, .ref u), (4, .ref v), (5, .int i)]) hC dL_law_2519 2521 rfl (by decide) rfl ?_
  refine g_aload_n hC dL_law_2521 2522 rfl rfl 3 rfl ?_
  refine g_aload_n hC dL_law_2522 2523 rfl rfl 1 rfl ?_
  refine g_iload hC dL_law_2523 2525 rfl 6 rfl ?_
  refine g_iconst hC (1 : Int32) dL_law_2525 2526 rfl iconst_1 ?_
  refine g_iadd hC dL_law_2526 2527 rfl ?_
  refine g_sld hC hS dL_law_2527 2528 rfl h1 ?_
  refine g_aload_n hC dL_law_2528 2529 rfl rfl 1 rfl ?_
  refine g_iload hC dL_law_2529 2531 rfl 6 rfl ?_
  refine g_iconst hC (2 : Int32) dL_law_2531 2532 rfl iconst_2 ?_
  refine g_iadd hC dL_law_2532 2533 rfl ?_
  refine g_sld hC hS dL_law_2533 2534 rfl h2 ?_
  refine g_subI hC (ct_X5_residentAt l g a M (xs (i + 1).toNatClampNeg) (xs (i + 2).toNatClampNeg) _ h) gY_X5_residentAt dL_law_2534 2537 rfl ml_L_318 (law_mod g A a v u E1 M z1 zd) (law_mod1 g A a v u E1 z1 zd) [] rfl rfl rfl 0 9 rfl rfl ⟨Nat.le_of_ble_eq_true rfl, Nat.le_of_ble_eq_true rfl⟩ (Nat.le_of_ble_eq_true rfl) ⟨by omega, by omega⟩ (fun bx M1 h => ?_)
  refine g_istore (lv2 := [(7, .int bx), (6, .int kx), (0, .ref b), (1, .ref (A 0 0)), (2, .ref (a 0)), (3, .ref u), (4, .ref v), (5, .int i)]) hC dL_law_2537 2539 rfl (by decide) rfl ?_
  refine g_aload_n hC dL_law_2539 2540 rfl rfl 4 rfl ?_
  refine g_readV hC (ct_X5_thrown l g a M1 _ h) gY_X5_thrown dL_law_2540 2543 rfl ml_L_203 _ _ (law_mod g A a v u E1 M1 z1 zd) [] rfl rfl rfl 0 9 rfl rfl ⟨Nat.le_of_ble_eq_true rfl, Nat.le_of_ble_eq_true rfl⟩ (Nat.le_of_ble_eq_true rfl) ⟨by omega, by omega⟩ (fun t h => ?_)
  refine g_iload hC dL_law_2543 2545 rfl 1 rfl ?_
  obtain ⟨h9, h⟩ := h
  refine g_icmp_eq hC dL_law_2545 2550 (by decide) 2548 rfl (fun _ => ?_) (fun c9 => absurd h9 c9)
  refine g_iload hC dL_law_2550 2552 rfl 1 rfl ?_
  obtain ⟨hz9, hK9⟩ := h
  refine g_if_ne hC dL_law_2552 2567 (by decide) 2555 rfl (fun _ => ?_) (fun c9 => ?_)
  · skip
    refine g_goto hC dL_law_2567 3590 (by decide) ?_
    refine g_lv (lv2 := [(0, .ref b), (1, .ref (A 0 0)), (2, .ref (a 0)), (3, .ref u), (4, .ref v), (5, .int i)]) [2, 3, 4, 5, 6, 7] rfl ?_
    refine g_widen (k2 := k + 8) (n2 := n + 48) (by omega) (by omega) ?_
    exact hK _ _ _ _ hK9
  · have hz9 := hz9 c9
    refine g_aload_n hC dL_law_2555 2556 rfl rfl 5 rfl ?_
    refine g_iconst hC (0 : Int32) dL_law_2556 2557 rfl iconst_0 ?_
    refine g_lald hC dL_law_2557 2558 rfl 11 rfl (vp_in_d (by decide)) ?_
    refine g_iload hC dL_law_2558 2560 rfl 0 rfl ?_
    refine g_i2l hC dL_law_2560 2561 rfl ?_
    refine g_lcmp hC dL_law_2561 2562 rfl ?_
    refine g_if_eq hC dL_law_2562 2567 (by decide) 2565 rfl (fun _ => ?_) (fun c7 => absurd hz9 c7)
    refine g_goto hC dL_law_2567 3590 (by decide) ?_
    refine g_lv (lv2 := [(0, .ref b), (1, .ref (A 0 0)), (2, .ref (a 0)), (3, .ref u), (4, .ref v), (5, .int i)]) [2, 3, 4, 5, 6, 7] rfl ?_
    refine g_widen (k2 := k + 8) (n2 := n + 48) (by omega) (by omega) ?_
    exact hK _ _ _ _ hK9
def wc_37 (K : lwK) (E M : Off) (z : Nat → Int64) (zd : Nat → UInt64) (a1 a2 a3 : Int32) : Prop := ww_isBanned (fun kx E1 z1 => wp_X5_isBanned (fun bx M1 => wp_X5_thrown (fun t => (t = kx ∧ ((kx = 0 → ((bx = 0 → lg_cmp (z1 (0 : Int32).toNatClampNeg) 0 = 0) ∧ (¬ bx = 0 → lg_cmp (z1 (0 : Int32).toNatClampNeg) 1 = 0))) ∧ K E1 M1 z1 zd))) M1) M a1 (((a2).toUInt32 % 65536).toInt32)) E z a1 (((a2).toUInt32 % 65536).toInt32)
set_option maxRecDepth 100000 in
set_option maxHeartbeats 4000000 in
theorem cs_37 {x : gX} {l : Launch} {g : gE} {A : Nat → Nat → Nat} {a : Nat → Nat} {v u b L : Nat} {xs : Nat → Int32} (hC : gC x l cL_law 9 RL g 2048 94400 603072 7207018) (hNw : gNw (x_s x)) (hst : l.stackTraces = false) (hS : gScr x b L xs) {K : lwK} {i : Int32} (h1 : vp_in (i + 1) L) (h2 : vp_in (i + 2) L) (h3 : vp_in (i + 3) L) {k n : Nat} (hk : k + 8 ≤ 603072) (hn : n + 48 ≤ 7207018) (hK : ∀ (E M : Off) (z : Nat → Int64) (zd : Nat → UInt64), K E M z zd → G x g 9 (k + 8) (n + 48) (lawW g A a v u E M z zd) 3590 [(0, .ref b), (1, .ref (A 0 0)), (2, .ref (a 0)), (3, .ref u), (4, .ref v), (5, .int i)] []) {E M : Off} {z : Nat → Int64} {zd : Nat → UInt64} (h : wc_37 K E M z zd (xs (i + 1).toNatClampNeg) (xs (i + 2).toNatClampNeg) (xs (i + 3).toNatClampNeg)) : G x g 9 k n (lawW g A a v u E M z zd) 2570 [(0, .ref b), (1, .ref (A 0 0)), (2, .ref (a 0)), (3, .ref u), (4, .ref v), (5, .int i)] [] := by
  unfold wc_37 at h
  refine g_aload_n hC dL_law_2570 2571 rfl rfl 1 rfl ?_
  refine g_aload_n hC dL_law_2571 2572 rfl rfl 0 rfl ?_
  refine g_iload hC dL_law_2572 2574 rfl 5 rfl ?_
  refine g_iconst hC (1 : Int32) dL_law_2574 2575 rfl iconst_1 ?_
  refine g_iadd hC dL_law_2575 2576 rfl ?_
  refine g_sld hC hS dL_law_2576 2577 rfl h1 ?_
  refine g_aload_n hC dL_law_2577 2578 rfl rfl 0 rfl ?_
  refine g_iload hC dL_law_2578 2580 rfl 5 rfl ?_
  refine g_iconst hC (2 : Int32) dL_law_2580 2581 rfl iconst_2 ?_
  refine g_iadd hC dL_law_2581 2582 rfl ?_
  refine g_sld hC hS dL_law_2582 2583 rfl h2 ?_
  refine g_i2c hC dL_law_2583 2584 rfl ?_
  refine g_aload_n hC dL_law_2584 2585 rfl rfl 3 rfl ?_
  refine g_callW hC hNw hst (cw_isBanned l g A u E z (xs (i + 1).toNatClampNeg) ((((xs (i + 2).toNatClampNeg)).toUInt32 % 65536).toInt32) _ h) gY_L_isBanned dL_law_2585 2588 rfl ml_L_319 _ _ (law_out g A a v u E M z zd) [] rfl rfl ⟨Nat.le_of_ble_eq_true rfl, Nat.le_of_ble_eq_true rfl⟩ (Nat.le_of_ble_eq_true rfl) ⟨by omega, by omega⟩ ?_
  rintro r w1 ⟨kx, E1, z1, rfl, rfl, h⟩
  rw [law_out1]
  show G x g 9 (k + 4) (n + 24) (lawW g A a v u E1 M z1 zd) 2588 [(0, .ref b), (1, .ref (A 0 0)), (2, .ref (a 0)), (3, .ref u), (4, .ref v), (5, .int i)] [.int kx]
  refine g_istore (lv2 := [(6, .int kx), (0, .ref b), (1, .ref (A 0 0)), (2, .ref (a 0)), (3, .ref u), (4, .ref v), (5, .int i)]) hC dL_law_2588 2590 rfl (by decide) rfl ?_
  refine g_aload_n hC dL_law_2590 2591 rfl rfl 3 rfl ?_
  refine g_aload_n hC dL_law_2591 2592 rfl rfl 1 rfl ?_
  refine g_iload hC dL_law_2592 2594 rfl 6 rfl ?_
  refine g_iconst hC (1 : Int32) dL_law_2594 2595 rfl iconst_1 ?_
  refine g_iadd hC dL_law_2595 2596 rfl ?_
  refine g_sld hC hS dL_law_2596 2597 rfl h1 ?_
  refine g_aload_n hC dL_law_2597 2598 rfl rfl 1 rfl ?_
  refine g_iload hC dL_law_2598 2600 rfl 6 rfl ?_
  refine g_iconst hC (2 : Int32) dL_law_2600 2601 rfl iconst_2 ?_
  refine g_iadd hC dL_law_2601 2602 rfl ?_
  refine g_sld hC hS dL_law_2602 2603 rfl h2 ?_
  refine g_i2c hC dL_law_2603 2604 rfl ?_
  refine g_subI hC (ct_X5_isBanned l g a M (xs (i + 1).toNatClampNeg) ((((xs (i + 2).toNatClampNeg)).toUInt32 % 65536).toInt32) _ h) gY_X5_isBanned dL_law_2604 2607 rfl ml_L_321 (law_mod g A a v u E1 M z1 zd) (law_mod1 g A a v u E1 z1 zd) [] rfl rfl rfl 0 9 rfl rfl ⟨Nat.le_of_ble_eq_true rfl, Nat.le_of_ble_eq_true rfl⟩ (Nat.le_of_ble_eq_true rfl) ⟨by omega, by omega⟩ (fun bx M1 h => ?_)
  refine g_istore (lv2 := [(7, .int bx), (6, .int kx), (0, .ref b), (1, .ref (A 0 0)), (2, .ref (a 0)), (3, .ref u), (4, .ref v), (5, .int i)]) hC dL_law_2607 2609 rfl (by decide) rfl ?_
  refine g_aload_n hC dL_law_2609 2610 rfl rfl 4 rfl ?_
  refine g_readV hC (ct_X5_thrown l g a M1 _ h) gY_X5_thrown dL_law_2610 2613 rfl ml_L_203 _ _ (law_mod g A a v u E1 M1 z1 zd) [] rfl rfl rfl 0 9 rfl rfl ⟨Nat.le_of_ble_eq_true rfl, Nat.le_of_ble_eq_true rfl⟩ (Nat.le_of_ble_eq_true rfl) ⟨by omega, by omega⟩ (fun t h => ?_)
  refine g_iload hC dL_law_2613 2615 rfl 1 rfl ?_
  obtain ⟨h9, h⟩ := h
  refine g_icmp_eq hC dL_law_2615 2620 (by decide) 2618 rfl (fun _ => ?_) (fun c9 => absurd h9 c9)
  refine g_iload hC dL_law_2620 2622 rfl 1 rfl ?_
  obtain ⟨hz9, hK9⟩ := h
  refine g_if_ne hC dL_law_2622 2644 (by decide) 2625 rfl (fun _ => ?_) (fun c9 => ?_)
  · skip
    refine g_goto hC dL_law_2644 3590 (by decide) ?_
    refine g_lv (lv2 := [(0, .ref b), (1, .ref (A 0 0)), (2, .ref (a 0)), (3, .ref u), (4, .ref v), (5, .int i)]) [2, 3, 4, 5, 6, 7] rfl ?_
    refine g_widen (k2 := k + 8) (n2 := n + 48) (by omega) (by omega) ?_
    exact hK _ _ _ _ hK9
  · have hz9 := hz9 c9
    refine g_aload_n hC dL_law_2625 2626 rfl rfl 5 rfl ?_
    refine g_iconst hC (0 : Int32) dL_law_2626 2627 rfl iconst_0 ?_
    refine g_lald hC dL_law_2627 2628 rfl 11 rfl (vp_in_d (by decide)) ?_
    refine g_iload hC dL_law_2628 2630 rfl 0 rfl ?_
    refine g_if_eq hC dL_law_2630 2637 (by decide) 2633 rfl (fun c8 => ?_) (fun c8 => ?_)
    · have hz9 := hz9.1 c8
      refine g_lconst hC (0 : Int64) dL_law_2637 2638 rfl rfl ?_
      refine g_lcmp hC dL_law_2638 2639 rfl ?_
      refine g_if_eq hC dL_law_2639 2644 (by decide) 2642 rfl (fun _ => ?_) (fun c7 => absurd hz9 c7)
      refine g_goto hC dL_law_2644 3590 (by decide) ?_
      refine g_lv (lv2 := [(0, .ref b), (1, .ref (A 0 0)), (2, .ref (a 0)), (3, .ref u), (4, .ref v), (5, .int i)]) [2, 3, 4, 5, 6, 7] rfl ?_
      refine g_widen (k2 := k + 8) (n2 := n + 48) (by omega) (by omega) ?_
      exact hK _ _ _ _ hK9
    · have hz9 := hz9.2 c8
      refine g_lconst hC (1 : Int64) dL_law_2633 2634 rfl rfl ?_
      refine g_goto hC dL_law_2634 2638 (by decide) ?_
      refine g_lcmp hC dL_law_2638 2639 rfl ?_
      refine g_if_eq hC dL_law_2639 2644 (by decide) 2642 rfl (fun _ => ?_) (fun c7 => absurd hz9 c7)
      refine g_goto hC dL_law_2644 3590 (by decide) ?_
      refine g_lv (lv2 := [(0, .ref b), (1, .ref (A 0 0)), (2, .ref (a 0)), (3, .ref u), (4, .ref v), (5, .int i)]) [2, 3, 4, 5, 6, 7] rfl ?_
      refine g_widen (k2 := k + 8) (n2 := n + 48) (by omega) (by omega) ?_
      exact hK _ _ _ _ hK9
def wc_38 (K : lwK) (E M : Off) (z : Nat → Int64) (zd : Nat → UInt64) (a1 a2 a3 : Int32) : Prop := ww_canMove (fun kx E1 z1 => wp_X5_canMove (fun bx M1 => wp_X5_thrown (fun t => (t = kx ∧ ((kx = 0 → ((bx = 0 → lg_cmp (z1 (0 : Int32).toNatClampNeg) 0 = 0) ∧ (¬ bx = 0 → lg_cmp (z1 (0 : Int32).toNatClampNeg) 1 = 0))) ∧ K E1 M1 z1 zd))) M1) M a1 a2) E z a1 a2
set_option maxRecDepth 100000 in
set_option maxHeartbeats 4000000 in
theorem cs_38 {x : gX} {l : Launch} {g : gE} {A : Nat → Nat → Nat} {a : Nat → Nat} {v u b L : Nat} {xs : Nat → Int32} (hC : gC x l cL_law 9 RL g 2048 94400 603072 7207018) (hNw : gNw (x_s x)) (hst : l.stackTraces = false) (hS : gScr x b L xs) {K : lwK} {i : Int32} (h1 : vp_in (i + 1) L) (h2 : vp_in (i + 2) L) (h3 : vp_in (i + 3) L) {k n : Nat} (hk : k + 8 ≤ 603072) (hn : n + 48 ≤ 7207018) (hK : ∀ (E M : Off) (z : Nat → Int64) (zd : Nat → UInt64), K E M z zd → G x g 9 (k + 8) (n + 48) (lawW g A a v u E M z zd) 3590 [(0, .ref b), (1, .ref (A 0 0)), (2, .ref (a 0)), (3, .ref u), (4, .ref v), (5, .int i)] []) {E M : Off} {z : Nat → Int64} {zd : Nat → UInt64} (h : wc_38 K E M z zd (xs (i + 1).toNatClampNeg) (xs (i + 2).toNatClampNeg) (xs (i + 3).toNatClampNeg)) : G x g 9 k n (lawW g A a v u E M z zd) 2647 [(0, .ref b), (1, .ref (A 0 0)), (2, .ref (a 0)), (3, .ref u), (4, .ref v), (5, .int i)] [] := by
  unfold wc_38 at h
  refine g_aload_n hC dL_law_2647 2648 rfl rfl 1 rfl ?_
  refine g_aload_n hC dL_law_2648 2649 rfl rfl 0 rfl ?_
  refine g_iload hC dL_law_2649 2651 rfl 5 rfl ?_
  refine g_iconst hC (1 : Int32) dL_law_2651 2652 rfl iconst_1 ?_
  refine g_iadd hC dL_law_2652 2653 rfl ?_
  refine g_sld hC hS dL_law_2653 2654 rfl h1 ?_
  refine g_aload_n hC dL_law_2654 2655 rfl rfl 0 rfl ?_
  refine g_iload hC dL_law_2655 2657 rfl 5 rfl ?_
  refine g_iconst hC (2 : Int32) dL_law_2657 2658 rfl iconst_2 ?_
  refine g_iadd hC dL_law_2658 2659 rfl ?_
  refine g_sld hC hS dL_law_2659 2660 rfl h2 ?_
  refine g_aload_n hC dL_law_2660 2661 rfl rfl 3 rfl ?_
  refine g_callW hC hNw hst (cw_canMove l g A u E z (xs (i + 1).toNatClampNeg) (xs (i + 2).toNatClampNeg) _ h) gY_L_canMove dL_law_2661 2664 rfl ml_L_322 _ _ (law_out g A a v u E M z zd) [] rfl rfl ⟨Nat.le_of_ble_eq_true rfl, Nat.le_of_ble_eq_true rfl⟩ (Nat.le_of_ble_eq_true rfl) ⟨by omega, by omega⟩ ?_
  rintro r w1 ⟨kx, E1, z1, rfl, rfl, h⟩
  rw [law_out1]
  show G x g 9 (k + 2) (n + 12) (lawW g A a v u E1 M z1 zd) 2664 [(0, .ref b), (1, .ref (A 0 0)), (2, .ref (a 0)), (3, .ref u), (4, .ref v), (5, .int i)] [.int kx]
  refine g_istore (lv2 := [(6, .int kx), (0, .ref b), (1, .ref (A 0 0)), (2, .ref (a 0)), (3, .ref u), (4, .ref v), (5, .int i)]) hC dL_law_2664 2666 rfl (by decide) rfl ?_
  refine g_aload_n hC dL_law_2666 2667 rfl rfl 3 rfl ?_
  refine g_aload_n hC dL_law_2667 2668 rfl rfl 1 rfl ?_
  refine g_iload hC dL_law_2668 2670 rfl 6 rfl ?_
  refine g_iconst hC (1 : Int32) dL_law_2670 2671 rfl iconst_1 ?_
  refine g_iadd hC dL_law_2671 2672 rfl ?_
  refine g_sld hC hS dL_law_2672 2673 rfl h1 ?_
  refine g_aload_n hC dL_law_2673 2674 rfl rfl 1 rfl ?_
  refine g_iload hC dL_law_2674 2676 rfl 6 rfl ?_
  refine g_iconst hC (2 : Int32) dL_law_2676 2677 rfl iconst_2 ?_
  refine g_iadd hC dL_law_2677 2678 rfl ?_
  refine g_sld hC hS dL_law_2678 2679 rfl h2 ?_
  refine g_subI hC (ct_X5_canMove l g a M (xs (i + 1).toNatClampNeg) (xs (i + 2).toNatClampNeg) _ h) gY_X5_canMove dL_law_2679 2682 rfl ml_L_324 (law_mod g A a v u E1 M z1 zd) (law_mod1 g A a v u E1 z1 zd) [] rfl rfl rfl 0 9 rfl rfl ⟨Nat.le_of_ble_eq_true rfl, Nat.le_of_ble_eq_true rfl⟩ (Nat.le_of_ble_eq_true rfl) ⟨by omega, by omega⟩ (fun bx M1 h => ?_)
  refine g_istore (lv2 := [(7, .int bx), (6, .int kx), (0, .ref b), (1, .ref (A 0 0)), (2, .ref (a 0)), (3, .ref u), (4, .ref v), (5, .int i)]) hC dL_law_2682 2684 rfl (by decide) rfl ?_
  refine g_aload_n hC dL_law_2684 2685 rfl rfl 4 rfl ?_
  refine g_readV hC (ct_X5_thrown l g a M1 _ h) gY_X5_thrown dL_law_2685 2688 rfl ml_L_203 _ _ (law_mod g A a v u E1 M1 z1 zd) [] rfl rfl rfl 0 9 rfl rfl ⟨Nat.le_of_ble_eq_true rfl, Nat.le_of_ble_eq_true rfl⟩ (Nat.le_of_ble_eq_true rfl) ⟨by omega, by omega⟩ (fun t h => ?_)
  refine g_iload hC dL_law_2688 2690 rfl 1 rfl ?_
  obtain ⟨h9, h⟩ := h
  refine g_icmp_eq hC dL_law_2690 2695 (by decide) 2693 rfl (fun _ => ?_) (fun c9 => absurd h9 c9)
  refine g_iload hC dL_law_2695 2697 rfl 1 rfl ?_
  obtain ⟨hz9, hK9⟩ := h
  refine g_if_ne hC dL_law_2697 2719 (by decide) 2700 rfl (fun _ => ?_) (fun c9 => ?_)
  · skip
    refine g_goto hC dL_law_2719 3590 (by decide) ?_
    refine g_lv (lv2 := [(0, .ref b), (1, .ref (A 0 0)), (2, .ref (a 0)), (3, .ref u), (4, .ref v), (5, .int i)]) [2, 3, 4, 5, 6, 7] rfl ?_
    refine g_widen (k2 := k + 8) (n2 := n + 48) (by omega) (by omega) ?_
    exact hK _ _ _ _ hK9
  · have hz9 := hz9 c9
    refine g_aload_n hC dL_law_2700 2701 rfl rfl 5 rfl ?_
    refine g_iconst hC (0 : Int32) dL_law_2701 2702 rfl iconst_0 ?_
    refine g_lald hC dL_law_2702 2703 rfl 11 rfl (vp_in_d (by decide)) ?_
    refine g_iload hC dL_law_2703 2705 rfl 0 rfl ?_
    refine g_if_eq hC dL_law_2705 2712 (by decide) 2708 rfl (fun c8 => ?_) (fun c8 => ?_)
    · have hz9 := hz9.1 c8
      refine g_lconst hC (0 : Int64) dL_law_2712 2713 rfl rfl ?_
      refine g_lcmp hC dL_law_2713 2714 rfl ?_
      refine g_if_eq hC dL_law_2714 2719 (by decide) 2717 rfl (fun _ => ?_) (fun c7 => absurd hz9 c7)
      refine g_goto hC dL_law_2719 3590 (by decide) ?_
      refine g_lv (lv2 := [(0, .ref b), (1, .ref (A 0 0)), (2, .ref (a 0)), (3, .ref u), (4, .ref v), (5, .int i)]) [2, 3, 4, 5, 6, 7] rfl ?_
      refine g_widen (k2 := k + 8) (n2 := n + 48) (by omega) (by omega) ?_
      exact hK _ _ _ _ hK9
    · have hz9 := hz9.2 c8
      refine g_lconst hC (1 : Int64) dL_law_2708 2709 rfl rfl ?_
      refine g_goto hC dL_law_2709 2713 (by decide) ?_
      refine g_lcmp hC dL_law_2713 2714 rfl ?_
      refine g_if_eq hC dL_law_2714 2719 (by decide) 2717 rfl (fun _ => ?_) (fun c7 => absurd hz9 c7)
      refine g_goto hC dL_law_2719 3590 (by decide) ?_
      refine g_lv (lv2 := [(0, .ref b), (1, .ref (A 0 0)), (2, .ref (a 0)), (3, .ref u), (4, .ref v), (5, .int i)]) [2, 3, 4, 5, 6, 7] rfl ?_
      refine g_widen (k2 := k + 8) (n2 := n + 48) (by omega) (by omega) ?_
      exact hK _ _ _ _ hK9
def wc_39 (K : lwK) (E M : Off) (z : Nat → Int64) (zd : Nat → UInt64) (a1 a2 a3 : Int32) : Prop := ww_passDays (fun kx E1 z1 => wp_X5_passDays (fun bx M1 => wp_X5_thrown (fun t => (t = kx ∧ ((kx = 0 → lg_cmp (z1 (0 : Int32).toNatClampNeg) (bx).toInt64 = 0) ∧ K E1 M1 z1 zd))) M1) M a1) E z a1
set_option maxRecDepth 100000 in
set_option maxHeartbeats 4000000 in
theorem cs_39 {x : gX} {l : Launch} {g : gE} {A : Nat → Nat → Nat} {a : Nat → Nat} {v u b L : Nat} {xs : Nat → Int32} (hC : gC x l cL_law 9 RL g 2048 94400 603072 7207018) (hNw : gNw (x_s x)) (hst : l.stackTraces = false) (hS : gScr x b L xs) {K : lwK} {i : Int32} (h1 : vp_in (i + 1) L) (h2 : vp_in (i + 2) L) (h3 : vp_in (i + 3) L) {k n : Nat} (hk : k + 8 ≤ 603072) (hn : n + 48 ≤ 7207018) (hK : ∀ (E M : Off) (z : Nat → Int64) (zd : Nat → UInt64), K E M z zd → G x g 9 (k + 8) (n + 48) (lawW g A a v u E M z zd) 3590 [(0, .ref b), (1, .ref (A 0 0)), (2, .ref (a 0)), (3, .ref u), (4, .ref v), (5, .int i)] []) {E M : Off} {z : Nat → Int64} {zd : Nat → UInt64} (h : wc_39 K E M z zd (xs (i + 1).toNatClampNeg) (xs (i + 2).toNatClampNeg) (xs (i + 3).toNatClampNeg)) : G x g 9 k n (lawW g A a v u E M z zd) 2722 [(0, .ref b), (1, .ref (A 0 0)), (2, .ref (a 0)), (3, .ref u), (4, .ref v), (5, .int i)] [] := by
  unfold wc_39 at h
  refine g_aload_n hC dL_law_2722 2723 rfl rfl 1 rfl ?_
  refine g_aload_n hC dL_law_2723 2724 rfl rfl 0 rfl ?_
  refine g_iload hC dL_law_2724 2726 rfl 5 rfl ?_
  refine g_iconst hC (1 : Int32) dL_law_2726 2727 rfl iconst_1 ?_
  refine g_iadd hC dL_law_2727 2728 rfl ?_
  refine g_sld hC hS dL_law_2728 2729 rfl h1 ?_
  refine g_aload_n hC dL_law_2729 2730 rfl rfl 3 rfl ?_
  refine g_callW hC hNw hst (cw_passDays l g A u E z (xs (i + 1).toNatClampNeg) _ h) gY_L_passDays dL_law_2730 2733 rfl ml_L_325 _ _ (law_out g A a v u E M z zd) [] rfl rfl ⟨Nat.le_of_ble_eq_true rfl, Nat.le_of_ble_eq_true rfl⟩ (Nat.le_of_ble_eq_true rfl) ⟨by omega, by omega⟩ ?_
  rintro r w1 ⟨kx, E1, z1, rfl, rfl, h⟩
  rw [law_out1]
  show G x g 9 (k + 4) (n + 24) (lawW g A a v u E1 M z1 zd) 2733 [(0, .ref b), (1, .ref (A 0 0)), (2, .ref (a 0)), (3, .ref u), (4, .ref v), (5, .int i)] [.int kx]
  refine g_istore (lv2 := [(6, .int kx), (0, .ref b), (1, .ref (A 0 0)), (2, .ref (a 0)), (3, .ref u), (4, .ref v), (5, .int i)]) hC dL_law_2733 2735 rfl (by decide) rfl ?_
  refine g_aload_n hC dL_law_2735 2736 rfl rfl 3 rfl ?_
  refine g_aload_n hC dL_law_2736 2737 rfl rfl 1 rfl ?_
  refine g_iload hC dL_law_2737 2739 rfl 6 rfl ?_
  refine g_iconst hC (1 : Int32) dL_law_2739 2740 rfl iconst_1 ?_
  refine g_iadd hC dL_law_2740 2741 rfl ?_
  refine g_sld hC hS dL_law_2741 2742 rfl h1 ?_
  refine g_subI hC (ct_X5_passDays l g a M (xs (i + 1).toNatClampNeg) _ h) gY_X5_passDays dL_law_2742 2745 rfl ml_L_327 (law_mod g A a v u E1 M z1 zd) (law_mod1 g A a v u E1 z1 zd) [] rfl rfl rfl 0 9 rfl rfl ⟨Nat.le_of_ble_eq_true rfl, Nat.le_of_ble_eq_true rfl⟩ (Nat.le_of_ble_eq_true rfl) ⟨by omega, by omega⟩ (fun bx M1 h => ?_)
  refine g_istore (lv2 := [(7, .int bx), (6, .int kx), (0, .ref b), (1, .ref (A 0 0)), (2, .ref (a 0)), (3, .ref u), (4, .ref v), (5, .int i)]) hC dL_law_2745 2747 rfl (by decide) rfl ?_
  refine g_aload_n hC dL_law_2747 2748 rfl rfl 4 rfl ?_
  refine g_readV hC (ct_X5_thrown l g a M1 _ h) gY_X5_thrown dL_law_2748 2751 rfl ml_L_203 _ _ (law_mod g A a v u E1 M1 z1 zd) [] rfl rfl rfl 0 9 rfl rfl ⟨Nat.le_of_ble_eq_true rfl, Nat.le_of_ble_eq_true rfl⟩ (Nat.le_of_ble_eq_true rfl) ⟨by omega, by omega⟩ (fun t h => ?_)
  refine g_iload hC dL_law_2751 2753 rfl 1 rfl ?_
  obtain ⟨h9, h⟩ := h
  refine g_icmp_eq hC dL_law_2753 2758 (by decide) 2756 rfl (fun _ => ?_) (fun c9 => absurd h9 c9)
  refine g_iload hC dL_law_2758 2760 rfl 1 rfl ?_
  obtain ⟨hz9, hK9⟩ := h
  refine g_if_ne hC dL_law_2760 2775 (by decide) 2763 rfl (fun _ => ?_) (fun c9 => ?_)
  · skip
    refine g_goto hC dL_law_2775 3590 (by decide) ?_
    refine g_lv (lv2 := [(0, .ref b), (1, .ref (A 0 0)), (2, .ref (a 0)), (3, .ref u), (4, .ref v), (5, .int i)]) [2, 3, 4, 5, 6, 7] rfl ?_
    refine g_widen (k2 := k + 8) (n2 := n + 48) (by omega) (by omega) ?_
    exact hK _ _ _ _ hK9
  · have hz9 := hz9 c9
    refine g_aload_n hC dL_law_2763 2764 rfl rfl 5 rfl ?_
    refine g_iconst hC (0 : Int32) dL_law_2764 2765 rfl iconst_0 ?_
    refine g_lald hC dL_law_2765 2766 rfl 11 rfl (vp_in_d (by decide)) ?_
    refine g_iload hC dL_law_2766 2768 rfl 0 rfl ?_
    refine g_i2l hC dL_law_2768 2769 rfl ?_
    refine g_lcmp hC dL_law_2769 2770 rfl ?_
    refine g_if_eq hC dL_law_2770 2775 (by decide) 2773 rfl (fun _ => ?_) (fun c7 => absurd hz9 c7)
    refine g_goto hC dL_law_2775 3590 (by decide) ?_
    refine g_lv (lv2 := [(0, .ref b), (1, .ref (A 0 0)), (2, .ref (a 0)), (3, .ref u), (4, .ref v), (5, .int i)]) [2, 3, 4, 5, 6, 7] rfl ?_
    refine g_widen (k2 := k + 8) (n2 := n + 48) (by omega) (by omega) ?_
    exact hK _ _ _ _ hK9
def wc_40 (K : lwK) (E M : Off) (z : Nat → Int64) (zd : Nat → UInt64) (a1 a2 a3 : Int32) : Prop := wp_X4_day (fun kx E1 => wp_X5_day (fun bx M1 => (kx = bx ∧ K E1 M1 z zd)) M ) E
set_option maxRecDepth 100000 in
set_option maxHeartbeats 4000000 in
theorem cs_40 {x : gX} {l : Launch} {g : gE} {A : Nat → Nat → Nat} {a : Nat → Nat} {v u b L : Nat} {xs : Nat → Int32} (hC : gC x l cL_law 9 RL g 2048 94400 603072 7207018) (hNw : gNw (x_s x)) (hst : l.stackTraces = false) (hS : gScr x b L xs) {K : lwK} {i : Int32} (h1 : vp_in (i + 1) L) (h2 : vp_in (i + 2) L) (h3 : vp_in (i + 3) L) {k n : Nat} (hk : k + 8 ≤ 603072) (hn : n + 48 ≤ 7207018) (hK : ∀ (E M : Off) (z : Nat → Int64) (zd : Nat → UInt64), K E M z zd → G x g 9 (k + 8) (n + 48) (lawW g A a v u E M z zd) 3590 [(0, .ref b), (1, .ref (A 0 0)), (2, .ref (a 0)), (3, .ref u), (4, .ref v), (5, .int i)] []) {E M : Off} {z : Nat → Int64} {zd : Nat → UInt64} (h : wc_40 K E M z zd (xs (i + 1).toNatClampNeg) (xs (i + 2).toNatClampNeg) (xs (i + 3).toNatClampNeg)) : G x g 9 k n (lawW g A a v u E M z zd) 2778 [(0, .ref b), (1, .ref (A 0 0)), (2, .ref (a 0)), (3, .ref u), (4, .ref v), (5, .int i)] [] := by
  unfold wc_40 at h
  refine g_aload_n hC dL_law_2778 2779 rfl rfl 1 rfl ?_
  refine g_subI hC (ct_X4_day l g A E _ h) gY_X4_day dL_law_2779 2782 rfl ml_L_328 (law_emb g A a v u E M z zd) (law_emb1 g A a v u M z zd) [] rfl rfl rfl 0 8 rfl rfl ⟨Nat.le_of_ble_eq_true rfl, Nat.le_of_ble_eq_true rfl⟩ (Nat.le_of_ble_eq_true rfl) ⟨by omega, by omega⟩ (fun kx E1 h => ?_)
  refine g_aload_n hC dL_law_2782 2783 rfl rfl 2 rfl ?_
  refine g_subI hC (ct_X5_day l g a M  _ h) gY_X5_day dL_law_2783 2786 rfl ml_L_331 (law_mod g A a v u E1 M z zd) (law_mod1 g A a v u E1 z zd) [.int kx] rfl rfl rfl 0 9 rfl rfl ⟨Nat.le_of_ble_eq_true rfl, Nat.le_of_ble_eq_true rfl⟩ (Nat.le_of_ble_eq_true rfl) ⟨by omega, by omega⟩ (fun bx M1 h => ?_)
  obtain ⟨h9, h⟩ := h
  refine g_icmp_eq hC dL_law_2786 3590 (by decide) 2789 rfl (fun _ => ?_) (fun c9 => absurd h9 c9)
  refine g_widen (k2 := k + 8) (n2 := n + 48) (by omega) (by omega) ?_
  exact hK _ _ _ _ h
def wc_41 (K : lwK) (E M : Off) (z : Nat → Int64) (zd : Nat → UInt64) (a1 a2 a3 : Int32) : Prop := ww_wouldExpel (fun kx E1 z1 => wp_X5_wouldExpel (fun bx M1 => wp_X5_thrown (fun t => (t = kx ∧ ((kx = 0 → lg_cmp (z1 (0 : Int32).toNatClampNeg) (bx).toInt64 = 0) ∧ K E1 M1 z1 zd))) M1) M a1) E z a1
set_option maxRecDepth 100000 in
set_option maxHeartbeats 4000000 in
theorem cs_41 {x : gX} {l : Launch} {g : gE} {A : Nat → Nat → Nat} {a : Nat → Nat} {v u b L : Nat} {xs : Nat → Int32} (hC : gC x l cL_law 9 RL g 2048 94400 603072 7207018) (hNw : gNw (x_s x)) (hst : l.stackTraces = false) (hS : gScr x b L xs) {K : lwK} {i : Int32} (h1 : vp_in (i + 1) L) (h2 : vp_in (i + 2) L) (h3 : vp_in (i + 3) L) {k n : Nat} (hk : k + 8 ≤ 603072) (hn : n + 48 ≤ 7207018) (hK : ∀ (E M : Off) (z : Nat → Int64) (zd : Nat → UInt64), K E M z zd → G x g 9 (k + 8) (n + 48) (lawW g A a v u E M z zd) 3590 [(0, .ref b), (1, .ref (A 0 0)), (2, .ref (a 0)), (3, .ref u), (4, .ref v), (5, .int i)] []) {E M : Off} {z : Nat → Int64} {zd : Nat → UInt64} (h : wc_41 K E M z zd (xs (i + 1).toNatClampNeg) (xs (i + 2).toNatClampNeg) (xs (i + 3).toNatClampNeg)) : G x g 9 k n (lawW g A a v u E M z zd) 2791 [(0, .ref b), (1, .ref (A 0 0)), (2, .ref (a 0)), (3, .ref u), (4, .ref v), (5, .int i)] [] := by
  unfold wc_41 at h
  refine g_aload_n hC dL_law_2791 2792 rfl rfl 1 rfl ?_
  refine g_aload_n hC dL_law_2792 2793 rfl rfl 0 rfl ?_
  refine g_iload hC dL_law_2793 2795 rfl 5 rfl ?_
  refine g_iconst hC (1 : Int32) dL_law_2795 2796 rfl iconst_1 ?_
  refine g_iadd hC dL_law_2796 2797 rfl ?_
  refine g_sld hC hS dL_law_2797 2798 rfl h1 ?_
  refine g_aload_n hC dL_law_2798 2799 rfl rfl 3 rfl ?_
  refine g_callW hC hNw hst (cw_wouldExpel l g A u E z (xs (i + 1).toNatClampNeg) _ h) gY_L_wouldExpel dL_law_2799 2802 rfl ml_L_332 _ _ (law_out g A a v u E M z zd) [] rfl rfl ⟨Nat.le_of_ble_eq_true rfl, Nat.le_of_ble_eq_true rfl⟩ (Nat.le_of_ble_eq_true rfl) ⟨by omega, by omega⟩ ?_
  rintro r w1 ⟨kx, E1, z1, rfl, rfl, h⟩
  rw [law_out1]
  show G x g 9 (k + 4) (n + 24) (lawW g A a v u E1 M z1 zd) 2802 [(0, .ref b), (1, .ref (A 0 0)), (2, .ref (a 0)), (3, .ref u), (4, .ref v), (5, .int i)] [.int kx]
  refine g_istore (lv2 := [(6, .int kx), (0, .ref b), (1, .ref (A 0 0)), (2, .ref (a 0)), (3, .ref u), (4, .ref v), (5, .int i)]) hC dL_law_2802 2804 rfl (by decide) rfl ?_
  refine g_aload_n hC dL_law_2804 2805 rfl rfl 3 rfl ?_
  refine g_aload_n hC dL_law_2805 2806 rfl rfl 1 rfl ?_
  refine g_iload hC dL_law_2806 2808 rfl 6 rfl ?_
  refine g_iconst hC (1 : Int32) dL_law_2808 2809 rfl iconst_1 ?_
  refine g_iadd hC dL_law_2809 2810 rfl ?_
  refine g_sld hC hS dL_law_2810 2811 rfl h1 ?_
  refine g_subI hC (ct_X5_wouldExpel l g a M (xs (i + 1).toNatClampNeg) _ h) gY_X5_wouldExpel dL_law_2811 2814 rfl ml_L_334 (law_mod g A a v u E1 M z1 zd) (law_mod1 g A a v u E1 z1 zd) [] rfl rfl rfl 0 9 rfl rfl ⟨Nat.le_of_ble_eq_true rfl, Nat.le_of_ble_eq_true rfl⟩ (Nat.le_of_ble_eq_true rfl) ⟨by omega, by omega⟩ (fun bx M1 h => ?_)
  refine g_istore (lv2 := [(7, .int bx), (6, .int kx), (0, .ref b), (1, .ref (A 0 0)), (2, .ref (a 0)), (3, .ref u), (4, .ref v), (5, .int i)]) hC dL_law_2814 2816 rfl (by decide) rfl ?_
  refine g_aload_n hC dL_law_2816 2817 rfl rfl 4 rfl ?_
  refine g_readV hC (ct_X5_thrown l g a M1 _ h) gY_X5_thrown dL_law_2817 2820 rfl ml_L_203 _ _ (law_mod g A a v u E1 M1 z1 zd) [] rfl rfl rfl 0 9 rfl rfl ⟨Nat.le_of_ble_eq_true rfl, Nat.le_of_ble_eq_true rfl⟩ (Nat.le_of_ble_eq_true rfl) ⟨by omega, by omega⟩ (fun t h => ?_)
  refine g_iload hC dL_law_2820 2822 rfl 1 rfl ?_
  obtain ⟨h9, h⟩ := h
  refine g_icmp_eq hC dL_law_2822 2827 (by decide) 2825 rfl (fun _ => ?_) (fun c9 => absurd h9 c9)
  refine g_iload hC dL_law_2827 2829 rfl 1 rfl ?_
  obtain ⟨hz9, hK9⟩ := h
  refine g_if_ne hC dL_law_2829 2844 (by decide) 2832 rfl (fun _ => ?_) (fun c9 => ?_)
  · skip
    refine g_goto hC dL_law_2844 3590 (by decide) ?_
    refine g_lv (lv2 := [(0, .ref b), (1, .ref (A 0 0)), (2, .ref (a 0)), (3, .ref u), (4, .ref v), (5, .int i)]) [2, 3, 4, 5, 6, 7] rfl ?_
    refine g_widen (k2 := k + 8) (n2 := n + 48) (by omega) (by omega) ?_
    exact hK _ _ _ _ hK9
  · have hz9 := hz9 c9
    refine g_aload_n hC dL_law_2832 2833 rfl rfl 5 rfl ?_
    refine g_iconst hC (0 : Int32) dL_law_2833 2834 rfl iconst_0 ?_
    refine g_lald hC dL_law_2834 2835 rfl 11 rfl (vp_in_d (by decide)) ?_
    refine g_iload hC dL_law_2835 2837 rfl 0 rfl ?_
    refine g_i2l hC dL_law_2837 2838 rfl ?_
    refine g_lcmp hC dL_law_2838 2839 rfl ?_
    refine g_if_eq hC dL_law_2839 2844 (by decide) 2842 rfl (fun _ => ?_) (fun c7 => absurd hz9 c7)
    refine g_goto hC dL_law_2844 3590 (by decide) ?_
    refine g_lv (lv2 := [(0, .ref b), (1, .ref (A 0 0)), (2, .ref (a 0)), (3, .ref u), (4, .ref v), (5, .int i)]) [2, 3, 4, 5, 6, 7] rfl ?_
    refine g_widen (k2 := k + 8) (n2 := n + 48) (by omega) (by omega) ?_
    exact hK _ _ _ _ hK9
def wc_42 (K : lwK) (E M : Off) (z : Nat → Int64) (zd : Nat → UInt64) (a1 a2 a3 : Int32) : Prop := wp_X4_admittedCount (fun kx E1 => wp_X5_admittedCount (fun bx M1 => (kx = bx ∧ K E1 M1 z zd)) M ) E
set_option maxRecDepth 100000 in
set_option maxHeartbeats 4000000 in
theorem cs_42 {x : gX} {l : Launch} {g : gE} {A : Nat → Nat → Nat} {a : Nat → Nat} {v u b L : Nat} {xs : Nat → Int32} (hC : gC x l cL_law 9 RL g 2048 94400 603072 7207018) (hNw : gNw (x_s x)) (hst : l.stackTraces = false) (hS : gScr x b L xs) {K : lwK} {i : Int32} (h1 : vp_in (i + 1) L) (h2 : vp_in (i + 2) L) (h3 : vp_in (i + 3) L) {k n : Nat} (hk : k + 8 ≤ 603072) (hn : n + 48 ≤ 7207018) (hK : ∀ (E M : Off) (z : Nat → Int64) (zd : Nat → UInt64), K E M z zd → G x g 9 (k + 8) (n + 48) (lawW g A a v u E M z zd) 3590 [(0, .ref b), (1, .ref (A 0 0)), (2, .ref (a 0)), (3, .ref u), (4, .ref v), (5, .int i)] []) {E M : Off} {z : Nat → Int64} {zd : Nat → UInt64} (h : wc_42 K E M z zd (xs (i + 1).toNatClampNeg) (xs (i + 2).toNatClampNeg) (xs (i + 3).toNatClampNeg)) : G x g 9 k n (lawW g A a v u E M z zd) 2847 [(0, .ref b), (1, .ref (A 0 0)), (2, .ref (a 0)), (3, .ref u), (4, .ref v), (5, .int i)] [] := by
  unfold wc_42 at h
  refine g_aload_n hC dL_law_2847 2848 rfl rfl 1 rfl ?_
  refine g_subI hC (ct_X4_admittedCount l g A E _ h) gY_X4_admittedCount dL_law_2848 2851 rfl ml_L_335 (law_emb g A a v u E M z zd) (law_emb1 g A a v u M z zd) [] rfl rfl rfl 0 8 rfl rfl ⟨Nat.le_of_ble_eq_true rfl, Nat.le_of_ble_eq_true rfl⟩ (Nat.le_of_ble_eq_true rfl) ⟨by omega, by omega⟩ (fun kx E1 h => ?_)
  refine g_aload_n hC dL_law_2851 2852 rfl rfl 2 rfl ?_
  refine g_subI hC (ct_X5_admittedCount l g a M  _ h) gY_X5_admittedCount dL_law_2852 2855 rfl ml_L_338 (law_mod g A a v u E1 M z zd) (law_mod1 g A a v u E1 z zd) [.int kx] rfl rfl rfl 0 9 rfl rfl ⟨Nat.le_of_ble_eq_true rfl, Nat.le_of_ble_eq_true rfl⟩ (Nat.le_of_ble_eq_true rfl) ⟨by omega, by omega⟩ (fun bx M1 h => ?_)
  obtain ⟨h9, h⟩ := h
  refine g_icmp_eq hC dL_law_2855 3590 (by decide) 2858 rfl (fun _ => ?_) (fun c9 => absurd h9 c9)
  refine g_widen (k2 := k + 8) (n2 := n + 48) (by omega) (by omega) ?_
  exact hK _ _ _ _ h
def wc_43 (K : lwK) (E M : Off) (z : Nat → Int64) (zd : Nat → UInt64) (a1 a2 a3 : Int32) : Prop := wp_X4_refusedCount (fun kx E1 => wp_X5_refusedCount (fun bx M1 => (kx = bx ∧ K E1 M1 z zd)) M ) E
set_option maxRecDepth 100000 in
set_option maxHeartbeats 4000000 in
theorem cs_43 {x : gX} {l : Launch} {g : gE} {A : Nat → Nat → Nat} {a : Nat → Nat} {v u b L : Nat} {xs : Nat → Int32} (hC : gC x l cL_law 9 RL g 2048 94400 603072 7207018) (hNw : gNw (x_s x)) (hst : l.stackTraces = false) (hS : gScr x b L xs) {K : lwK} {i : Int32} (h1 : vp_in (i + 1) L) (h2 : vp_in (i + 2) L) (h3 : vp_in (i + 3) L) {k n : Nat} (hk : k + 8 ≤ 603072) (hn : n + 48 ≤ 7207018) (hK : ∀ (E M : Off) (z : Nat → Int64) (zd : Nat → UInt64), K E M z zd → G x g 9 (k + 8) (n + 48) (lawW g A a v u E M z zd) 3590 [(0, .ref b), (1, .ref (A 0 0)), (2, .ref (a 0)), (3, .ref u), (4, .ref v), (5, .int i)] []) {E M : Off} {z : Nat → Int64} {zd : Nat → UInt64} (h : wc_43 K E M z zd (xs (i + 1).toNatClampNeg) (xs (i + 2).toNatClampNeg) (xs (i + 3).toNatClampNeg)) : G x g 9 k n (lawW g A a v u E M z zd) 2860 [(0, .ref b), (1, .ref (A 0 0)), (2, .ref (a 0)), (3, .ref u), (4, .ref v), (5, .int i)] [] := by
  unfold wc_43 at h
  refine g_aload_n hC dL_law_2860 2861 rfl rfl 1 rfl ?_
  refine g_subI hC (ct_X4_refusedCount l g A E _ h) gY_X4_refusedCount dL_law_2861 2864 rfl ml_L_339 (law_emb g A a v u E M z zd) (law_emb1 g A a v u M z zd) [] rfl rfl rfl 0 8 rfl rfl ⟨Nat.le_of_ble_eq_true rfl, Nat.le_of_ble_eq_true rfl⟩ (Nat.le_of_ble_eq_true rfl) ⟨by omega, by omega⟩ (fun kx E1 h => ?_)
  refine g_aload_n hC dL_law_2864 2865 rfl rfl 2 rfl ?_
  refine g_subI hC (ct_X5_refusedCount l g a M  _ h) gY_X5_refusedCount dL_law_2865 2868 rfl ml_L_342 (law_mod g A a v u E1 M z zd) (law_mod1 g A a v u E1 z zd) [.int kx] rfl rfl rfl 0 9 rfl rfl ⟨Nat.le_of_ble_eq_true rfl, Nat.le_of_ble_eq_true rfl⟩ (Nat.le_of_ble_eq_true rfl) ⟨by omega, by omega⟩ (fun bx M1 h => ?_)
  obtain ⟨h9, h⟩ := h
  refine g_icmp_eq hC dL_law_2868 3590 (by decide) 2871 rfl (fun _ => ?_) (fun c9 => absurd h9 c9)
  refine g_widen (k2 := k + 8) (n2 := n + 48) (by omega) (by omega) ?_
  exact hK _ _ _ _ h
def wc_44 (K : lwK) (E M : Off) (z : Nat → Int64) (zd : Nat → UInt64) (a1 a2 a3 : Int32) : Prop := wp_X4_expelledCount (fun kx E1 => wp_X5_expelledCount (fun bx M1 => (kx = bx ∧ K E1 M1 z zd)) M ) E
set_option maxRecDepth 100000 in
set_option maxHeartbeats 4000000 in
theorem cs_44 {x : gX} {l : Launch} {g : gE} {A : Nat → Nat → Nat} {a : Nat → Nat} {v u b L : Nat} {xs : Nat → Int32} (hC : gC x l cL_law 9 RL g 2048 94400 603072 7207018) (hNw : gNw (x_s x)) (hst : l.stackTraces = false) (hS : gScr x b L xs) {K : lwK} {i : Int32} (h1 : vp_in (i + 1) L) (h2 : vp_in (i + 2) L) (h3 : vp_in (i + 3) L) {k n : Nat} (hk : k + 8 ≤ 603072) (hn : n + 48 ≤ 7207018) (hK : ∀ (E M : Off) (z : Nat → Int64) (zd : Nat → UInt64), K E M z zd → G x g 9 (k + 8) (n + 48) (lawW g A a v u E M z zd) 3590 [(0, .ref b), (1, .ref (A 0 0)), (2, .ref (a 0)), (3, .ref u), (4, .ref v), (5, .int i)] []) {E M : Off} {z : Nat → Int64} {zd : Nat → UInt64} (h : wc_44 K E M z zd (xs (i + 1).toNatClampNeg) (xs (i + 2).toNatClampNeg) (xs (i + 3).toNatClampNeg)) : G x g 9 k n (lawW g A a v u E M z zd) 2873 [(0, .ref b), (1, .ref (A 0 0)), (2, .ref (a 0)), (3, .ref u), (4, .ref v), (5, .int i)] [] := by
  unfold wc_44 at h
  refine g_aload_n hC dL_law_2873 2874 rfl rfl 1 rfl ?_
  refine g_subI hC (ct_X4_expelledCount l g A E _ h) gY_X4_expelledCount dL_law_2874 2877 rfl ml_L_343 (law_emb g A a v u E M z zd) (law_emb1 g A a v u M z zd) [] rfl rfl rfl 0 8 rfl rfl ⟨Nat.le_of_ble_eq_true rfl, Nat.le_of_ble_eq_true rfl⟩ (Nat.le_of_ble_eq_true rfl) ⟨by omega, by omega⟩ (fun kx E1 h => ?_)
  refine g_aload_n hC dL_law_2877 2878 rfl rfl 2 rfl ?_
  refine g_subI hC (ct_X5_expelledCount l g a M  _ h) gY_X5_expelledCount dL_law_2878 2881 rfl ml_L_346 (law_mod g A a v u E1 M z zd) (law_mod1 g A a v u E1 z zd) [.int kx] rfl rfl rfl 0 9 rfl rfl ⟨Nat.le_of_ble_eq_true rfl, Nat.le_of_ble_eq_true rfl⟩ (Nat.le_of_ble_eq_true rfl) ⟨by omega, by omega⟩ (fun bx M1 h => ?_)
  obtain ⟨h9, h⟩ := h
  refine g_icmp_eq hC dL_law_2881 3590 (by decide) 2884 rfl (fun _ => ?_) (fun c9 => absurd h9 c9)
  refine g_widen (k2 := k + 8) (n2 := n + 48) (by omega) (by omega) ?_
  exact hK _ _ _ _ h
def wc_45 (K : lwK) (E M : Off) (z : Nat → Int64) (zd : Nat → UInt64) (a1 a2 a3 : Int32) : Prop := wp_X4_admissionBalance (fun kx E1 => wp_X5_admissionBalance (fun bx M1 => (kx = bx ∧ K E1 M1 z zd)) M ) E
set_option maxRecDepth 100000 in
set_option maxHeartbeats 4000000 in
theorem cs_45 {x : gX} {l : Launch} {g : gE} {A : Nat → Nat → Nat} {a : Nat → Nat} {v u b L : Nat} {xs : Nat → Int32} (hC : gC x l cL_law 9 RL g 2048 94400 603072 7207018) (hNw : gNw (x_s x)) (hst : l.stackTraces = false) (hS : gScr x b L xs) {K : lwK} {i : Int32} (h1 : vp_in (i + 1) L) (h2 : vp_in (i + 2) L) (h3 : vp_in (i + 3) L) {k n : Nat} (hk : k + 8 ≤ 603072) (hn : n + 48 ≤ 7207018) (hK : ∀ (E M : Off) (z : Nat → Int64) (zd : Nat → UInt64), K E M z zd → G x g 9 (k + 8) (n + 48) (lawW g A a v u E M z zd) 3590 [(0, .ref b), (1, .ref (A 0 0)), (2, .ref (a 0)), (3, .ref u), (4, .ref v), (5, .int i)] []) {E M : Off} {z : Nat → Int64} {zd : Nat → UInt64} (h : wc_45 K E M z zd (xs (i + 1).toNatClampNeg) (xs (i + 2).toNatClampNeg) (xs (i + 3).toNatClampNeg)) : G x g 9 k n (lawW g A a v u E M z zd) 2886 [(0, .ref b), (1, .ref (A 0 0)), (2, .ref (a 0)), (3, .ref u), (4, .ref v), (5, .int i)] [] := by
  unfold wc_45 at h
  refine g_aload_n hC dL_law_2886 2887 rfl rfl 1 rfl ?_
  refine g_subI hC (ct_X4_admissionBalance l g A E _ h) gY_X4_admissionBalance dL_law_2887 2890 rfl ml_L_347 (law_emb g A a v u E M z zd) (law_emb1 g A a v u M z zd) [] rfl rfl rfl 0 8 rfl rfl ⟨Nat.le_of_ble_eq_true rfl, Nat.le_of_ble_eq_true rfl⟩ (Nat.le_of_ble_eq_true rfl) ⟨by omega, by omega⟩ (fun kx E1 h => ?_)
  refine g_aload_n hC dL_law_2890 2891 rfl rfl 2 rfl ?_
  refine g_subI hC (ct_X5_admissionBalance l g a M  _ h) gY_X5_admissionBalance dL_law_2891 2894 rfl ml_L_350 (law_mod g A a v u E1 M z zd) (law_mod1 g A a v u E1 z zd) [.int kx] rfl rfl rfl 0 9 rfl rfl ⟨Nat.le_of_ble_eq_true rfl, Nat.le_of_ble_eq_true rfl⟩ (Nat.le_of_ble_eq_true rfl) ⟨by omega, by omega⟩ (fun bx M1 h => ?_)
  obtain ⟨h9, h⟩ := h
  refine g_icmp_eq hC dL_law_2894 3590 (by decide) 2897 rfl (fun _ => ?_) (fun c9 => absurd h9 c9)
  refine g_widen (k2 := k + 8) (n2 := n + 48) (by omega) (by omega) ?_
  exact hK _ _ _ _ h
def wc_46 (K : lwK) (E M : Off) (z : Nat → Int64) (zd : Nat → UInt64) (a1 a2 a3 : Int32) : Prop := ww_drawerByResidents (fun kx E1 z1 => wp_X5_drawerByResidents (fun bx M1 => wp_X5_thrown (fun t => (t = kx ∧ ((kx = 0 → lg_cmp (z1 (0 : Int32).toNatClampNeg) (bx).toInt64 = 0) ∧ K E1 M1 z1 zd))) M1) M a1) E z a1
set_option maxRecDepth 100000 in
set_option maxHeartbeats 4000000 in
theorem cs_46 {x : gX} {l : Launch} {g : gE} {A : Nat → Nat → Nat} {a : Nat → Nat} {v u b L : Nat} {xs : Nat → Int32} (hC : gC x l cL_law 9 RL g 2048 94400 603072 7207018) (hNw : gNw (x_s x)) (hst : l.stackTraces = false) (hS : gScr x b L xs) {K : lwK} {i : Int32} (h1 : vp_in (i + 1) L) (h2 : vp_in (i + 2) L) (h3 : vp_in (i + 3) L) {k n : Nat} (hk : k + 8 ≤ 603072) (hn : n + 48 ≤ 7207018) (hK : ∀ (E M : Off) (z : Nat → Int64) (zd : Nat → UInt64), K E M z zd → G x g 9 (k + 8) (n + 48) (lawW g A a v u E M z zd) 3590 [(0, .ref b), (1, .ref (A 0 0)), (2, .ref (a 0)), (3, .ref u), (4, .ref v), (5, .int i)] []) {E M : Off} {z : Nat → Int64} {zd : Nat → UInt64} (h : wc_46 K E M z zd (xs (i + 1).toNatClampNeg) (xs (i + 2).toNatClampNeg) (xs (i + 3).toNatClampNeg)) : G x g 9 k n (lawW g A a v u E M z zd) 2899 [(0, .ref b), (1, .ref (A 0 0)), (2, .ref (a 0)), (3, .ref u), (4, .ref v), (5, .int i)] [] := by
  unfold wc_46 at h
  refine g_aload_n hC dL_law_2899 2900 rfl rfl 1 rfl ?_
  refine g_aload_n hC dL_law_2900 2901 rfl rfl 0 rfl ?_
  refine g_iload hC dL_law_2901 2903 rfl 5 rfl ?_
  refine g_iconst hC (1 : Int32) dL_law_2903 2904 rfl iconst_1 ?_
  refine g_iadd hC dL_law_2904 2905 rfl ?_
  refine g_sld hC hS dL_law_2905 2906 rfl h1 ?_
  refine g_aload_n hC dL_law_2906 2907 rfl rfl 3 rfl ?_
  refine g_callW hC hNw hst (cw_drawerByResidents l g A u E z (xs (i + 1).toNatClampNeg) _ h) gY_L_drawerByResidents dL_law_2907 2910 rfl ml_L_351 _ _ (law_out g A a v u E M z zd) [] rfl rfl ⟨Nat.le_of_ble_eq_true rfl, Nat.le_of_ble_eq_true rfl⟩ (Nat.le_of_ble_eq_true rfl) ⟨by omega, by omega⟩ ?_
  rintro r w1 ⟨kx, E1, z1, rfl, rfl, h⟩
  rw [law_out1]
  show G x g 9 (k + 1) (n + 6) (lawW g A a v u E1 M z1 zd) 2910 [(0, .ref b), (1, .ref (A 0 0)), (2, .ref (a 0)), (3, .ref u), (4, .ref v), (5, .int i)] [.int kx]
  refine g_istore (lv2 := [(6, .int kx), (0, .ref b), (1, .ref (A 0 0)), (2, .ref (a 0)), (3, .ref u), (4, .ref v), (5, .int i)]) hC dL_law_2910 2912 rfl (by decide) rfl ?_
  refine g_aload_n hC dL_law_2912 2913 rfl rfl 3 rfl ?_
  refine g_aload_n hC dL_law_2913 2914 rfl rfl 1 rfl ?_
  refine g_iload hC dL_law_2914 2916 rfl 6 rfl ?_
  refine g_iconst hC (1 : Int32) dL_law_2916 2917 rfl iconst_1 ?_
  refine g_iadd hC dL_law_2917 2918 rfl ?_
  refine g_sld hC hS dL_law_2918 2919 rfl h1 ?_
  refine g_subI hC (ct_X5_drawerByResidents l g a M (xs (i + 1).toNatClampNeg) _ h) gY_X5_drawerByResidents dL_law_2919 2922 rfl ml_L_353 (law_mod g A a v u E1 M z1 zd) (law_mod1 g A a v u E1 z1 zd) [] rfl rfl rfl 0 9 rfl rfl ⟨Nat.le_of_ble_eq_true rfl, Nat.le_of_ble_eq_true rfl⟩ (Nat.le_of_ble_eq_true rfl) ⟨by omega, by omega⟩ (fun bx M1 h => ?_)
  refine g_istore (lv2 := [(7, .int bx), (6, .int kx), (0, .ref b), (1, .ref (A 0 0)), (2, .ref (a 0)), (3, .ref u), (4, .ref v), (5, .int i)]) hC dL_law_2922 2924 rfl (by decide) rfl ?_
  refine g_aload_n hC dL_law_2924 2925 rfl rfl 4 rfl ?_
  refine g_readV hC (ct_X5_thrown l g a M1 _ h) gY_X5_thrown dL_law_2925 2928 rfl ml_L_203 _ _ (law_mod g A a v u E1 M1 z1 zd) [] rfl rfl rfl 0 9 rfl rfl ⟨Nat.le_of_ble_eq_true rfl, Nat.le_of_ble_eq_true rfl⟩ (Nat.le_of_ble_eq_true rfl) ⟨by omega, by omega⟩ (fun t h => ?_)
  refine g_iload hC dL_law_2928 2930 rfl 1 rfl ?_
  obtain ⟨h9, h⟩ := h
  refine g_icmp_eq hC dL_law_2930 2935 (by decide) 2933 rfl (fun _ => ?_) (fun c9 => absurd h9 c9)
  refine g_iload hC dL_law_2935 2937 rfl 1 rfl ?_
  obtain ⟨hz9, hK9⟩ := h
  refine g_if_ne hC dL_law_2937 2952 (by decide) 2940 rfl (fun _ => ?_) (fun c9 => ?_)
  · skip
    refine g_goto hC dL_law_2952 3590 (by decide) ?_
    refine g_lv (lv2 := [(0, .ref b), (1, .ref (A 0 0)), (2, .ref (a 0)), (3, .ref u), (4, .ref v), (5, .int i)]) [2, 3, 4, 5, 6, 7] rfl ?_
    refine g_widen (k2 := k + 8) (n2 := n + 48) (by omega) (by omega) ?_
    exact hK _ _ _ _ hK9
  · have hz9 := hz9 c9
    refine g_aload_n hC dL_law_2940 2941 rfl rfl 5 rfl ?_
    refine g_iconst hC (0 : Int32) dL_law_2941 2942 rfl iconst_0 ?_
    refine g_lald hC dL_law_2942 2943 rfl 11 rfl (vp_in_d (by decide)) ?_
    refine g_iload hC dL_law_2943 2945 rfl 0 rfl ?_
    refine g_i2l hC dL_law_2945 2946 rfl ?_
    refine g_lcmp hC dL_law_2946 2947 rfl ?_
    refine g_if_eq hC dL_law_2947 2952 (by decide) 2950 rfl (fun _ => ?_) (fun c7 => absurd hz9 c7)
    refine g_goto hC dL_law_2952 3590 (by decide) ?_
    refine g_lv (lv2 := [(0, .ref b), (1, .ref (A 0 0)), (2, .ref (a 0)), (3, .ref u), (4, .ref v), (5, .int i)]) [2, 3, 4, 5, 6, 7] rfl ?_
    refine g_widen (k2 := k + 8) (n2 := n + 48) (by omega) (by omega) ?_
    exact hK _ _ _ _ hK9
def wc_47 (K : lwK) (E M : Off) (z : Nat → Int64) (zd : Nat → UInt64) (a1 a2 a3 : Int32) : Prop := ww_meanSize (fun kx E1 zd1 => wp_X5_meanSize (fun bx M1 => wp_X5_thrown (fun t => (t = kx ∧ ((kx = 0 → Op.cmpValue (FP.dcmp (zd1 (0 : Int32).toNatClampNeg) bx) .l = 0) ∧ K E1 M1 z zd1))) M1) M ) E zd 
set_option maxRecDepth 100000 in
set_option maxHeartbeats 4000000 in
theorem cs_47 {x : gX} {l : Launch} {g : gE} {A : Nat → Nat → Nat} {a : Nat → Nat} {v u b L : Nat} {xs : Nat → Int32} (hC : gC x l cL_law 9 RL g 2048 94400 603072 7207018) (hNw : gNw (x_s x)) (hst : l.stackTraces = false) (hS : gScr x b L xs) {K : lwK} {i : Int32} (h1 : vp_in (i + 1) L) (h2 : vp_in (i + 2) L) (h3 : vp_in (i + 3) L) {k n : Nat} (hk : k + 8 ≤ 603072) (hn : n + 48 ≤ 7207018) (hK : ∀ (E M : Off) (z : Nat → Int64) (zd : Nat → UInt64), K E M z zd → G x g 9 (k + 8) (n + 48) (lawW g A a v u E M z zd) 3590 [(0, .ref b), (1, .ref (A 0 0)), (2, .ref (a 0)), (3, .ref u), (4, .ref v), (5, .int i)] []) {E M : Off} {z : Nat → Int64} {zd : Nat → UInt64} (h : wc_47 K E M z zd (xs (i + 1).toNatClampNeg) (xs (i + 2).toNatClampNeg) (xs (i + 3).toNatClampNeg)) : G x g 9 k n (lawW g A a v u E M z zd) 2955 [(0, .ref b), (1, .ref (A 0 0)), (2, .ref (a 0)), (3, .ref u), (4, .ref v), (5, .int i)] [] := by
  unfold wc_47 at h
  refine g_aload_n hC dL_law_2955 2956 rfl rfl 1 rfl ?_
  refine g_aload hC dL_law_2956 2958 rfl 4 rfl ?_
  refine g_callW hC hNw hst (cw_meanSize l g A v u z E zd  _ h) gY_L_meanSize dL_law_2958 2961 rfl ml_L_354 _ _ (law_dut g A a v u E M z zd) [] rfl rfl ⟨Nat.le_of_ble_eq_true rfl, Nat.le_of_ble_eq_true rfl⟩ (Nat.le_of_ble_eq_true rfl) ⟨by omega, by omega⟩ ?_
  rintro r w1 ⟨kx, E1, zd1, rfl, rfl, h⟩
  rw [law_dut1]
  show G x g 9 (k + 1) (n + 6) (lawW g A a v u E1 M z zd1) 2961 [(0, .ref b), (1, .ref (A 0 0)), (2, .ref (a 0)), (3, .ref u), (4, .ref v), (5, .int i)] [.int kx]
  refine g_istore (lv2 := [(6, .int kx), (0, .ref b), (1, .ref (A 0 0)), (2, .ref (a 0)), (3, .ref u), (4, .ref v), (5, .int i)]) hC dL_law_2961 2963 rfl (by decide) rfl ?_
  refine g_aload_n hC dL_law_2963 2964 rfl rfl 3 rfl ?_
  refine g_subD hC (ct_X5_meanSize l g a M  _ h) gY_X5_meanSize dL_law_2964 2967 rfl ml_L_357 (law_mod g A a v u E1 M z zd1) (law_mod1 g A a v u E1 z zd1) [] rfl rfl rfl 0 9 rfl rfl ⟨Nat.le_of_ble_eq_true rfl, Nat.le_of_ble_eq_true rfl⟩ (Nat.le_of_ble_eq_true rfl) ⟨by omega, by omega⟩ (fun bx M1 h => ?_)
  refine g_dstore (lv2 := [(7, .double bx), (6, .int kx), (0, .ref b), (1, .ref (A 0 0)), (2, .ref (a 0)), (3, .ref u), (4, .ref v), (5, .int i)]) hC dL_law_2967 2969 rfl (by decide) rfl ?_
  refine g_aload_n hC dL_law_2969 2970 rfl rfl 4 rfl ?_
  refine g_readV hC (ct_X5_thrown l g a M1 _ h) gY_X5_thrown dL_law_2970 2973 rfl ml_L_203 _ _ (law_mod g A a v u E1 M1 z zd1) [] rfl rfl rfl 0 9 rfl rfl ⟨Nat.le_of_ble_eq_true rfl, Nat.le_of_ble_eq_true rfl⟩ (Nat.le_of_ble_eq_true rfl) ⟨by omega, by omega⟩ (fun t h => ?_)
  refine g_iload hC dL_law_2973 2975 rfl 1 rfl ?_
  obtain ⟨h9, h⟩ := h
  refine g_icmp_eq hC dL_law_2975 2980 (by decide) 2978 rfl (fun _ => ?_) (fun c9 => absurd h9 c9)
  refine g_iload hC dL_law_2980 2982 rfl 1 rfl ?_
  obtain ⟨hz9, hK9⟩ := h
  refine g_if_ne hC dL_law_2982 3017 (by decide) 2985 rfl (fun _ => ?_) (fun c9 => ?_)
  · skip
    refine g_goto hC dL_law_3017 3590 (by decide) ?_
    refine g_lv (lv2 := [(0, .ref b), (1, .ref (A 0 0)), (2, .ref (a 0)), (3, .ref u), (4, .ref v), (5, .int i)]) [2, 3, 4, 5, 6, 7] rfl ?_
    refine g_widen (k2 := k + 8) (n2 := n + 48) (by omega) (by omega) ?_
    exact hK _ _ _ _ hK9
  · have hz9 := hz9 c9
    refine g_aload hC dL_law_2985 2987 rfl 6 rfl ?_
    refine g_iconst hC (0 : Int32) dL_law_2987 2988 rfl iconst_0 ?_
    refine g_dald hC dL_law_2988 2989 rfl 10 rfl (vp_in_d (by decide)) ?_
    refine g_dload hC dL_law_2989 2991 rfl 0 rfl ?_
    refine g_dcmp hC dL_law_2991 2992 rfl ?_
    refine g_if_eq hC dL_law_2992 3017 (by decide) 2995 rfl (fun _ => ?_) (fun c7 => absurd hz9 c7)
    refine g_goto hC dL_law_3017 3590 (by decide) ?_
    refine g_lv (lv2 := [(0, .ref b), (1, .ref (A 0 0)), (2, .ref (a 0)), (3, .ref u), (4, .ref v), (5, .int i)]) [2, 3, 4, 5, 6, 7] rfl ?_
    refine g_widen (k2 := k + 8) (n2 := n + 48) (by omega) (by omega) ?_
    exact hK _ _ _ _ hK9
def wc_48 (K : lwK) (E M : Off) (z : Nat → Int64) (zd : Nat → UInt64) (a1 a2 a3 : Int32) : Prop := ww_residentShare (fun kx E1 zd1 => wp_X5_residentShare (fun bx M1 => wp_X5_thrown (fun t => (t = kx ∧ ((kx = 0 → (vf_n64 (FP.f2d bx) ∧ Op.cmpValue (FP.dcmp (zd1 (0 : Int32).toNatClampNeg) (FP.f2d bx)) .l = 0)) ∧ K E1 M1 z zd1))) M1) M ) E zd 
set_option maxRecDepth 100000 in
set_option maxHeartbeats 4000000 in
theorem cs_48 {x : gX} {l : Launch} {g : gE} {A : Nat → Nat → Nat} {a : Nat → Nat} {v u b L : Nat} {xs : Nat → Int32} (hC : gC x l cL_law 9 RL g 2048 94400 603072 7207018) (hNw : gNw (x_s x)) (hst : l.stackTraces = false) (hS : gScr x b L xs) {K : lwK} {i : Int32} (h1 : vp_in (i + 1) L) (h2 : vp_in (i + 2) L) (h3 : vp_in (i + 3) L) {k n : Nat} (hk : k + 8 ≤ 603072) (hn : n + 48 ≤ 7207018) (hK : ∀ (E M : Off) (z : Nat → Int64) (zd : Nat → UInt64), K E M z zd → G x g 9 (k + 8) (n + 48) (lawW g A a v u E M z zd) 3590 [(0, .ref b), (1, .ref (A 0 0)), (2, .ref (a 0)), (3, .ref u), (4, .ref v), (5, .int i)] []) {E M : Off} {z : Nat → Int64} {zd : Nat → UInt64} (h : wc_48 K E M z zd (xs (i + 1).toNatClampNeg) (xs (i + 2).toNatClampNeg) (xs (i + 3).toNatClampNeg)) : G x g 9 k n (lawW g A a v u E M z zd) 3020 [(0, .ref b), (1, .ref (A 0 0)), (2, .ref (a 0)), (3, .ref u), (4, .ref v), (5, .int i)] [] := by
  unfold wc_48 at h
  refine g_aload_n hC dL_law_3020 3021 rfl rfl 1 rfl ?_
  refine g_aload hC dL_law_3021 3023 rfl 4 rfl ?_
  refine g_callW hC hNw hst (cw_residentShare l g A v u z E zd  _ h) gY_L_residentShare dL_law_3023 3026 rfl ml_L_358 _ _ (law_dut g A a v u E M z zd) [] rfl rfl ⟨Nat.le_of_ble_eq_true rfl, Nat.le_of_ble_eq_true rfl⟩ (Nat.le_of_ble_eq_true rfl) ⟨by omega, by omega⟩ ?_
  rintro r w1 ⟨kx, E1, zd1, rfl, rfl, h⟩
  rw [law_dut1]
  show G x g 9 (k + 1) (n + 6) (lawW g A a v u E1 M z zd1) 3026 [(0, .ref b), (1, .ref (A 0 0)), (2, .ref (a 0)), (3, .ref u), (4, .ref v), (5, .int i)] [.int kx]
  refine g_istore (lv2 := [(6, .int kx), (0, .ref b), (1, .ref (A 0 0)), (2, .ref (a 0)), (3, .ref u), (4, .ref v), (5, .int i)]) hC dL_law_3026 3028 rfl (by decide) rfl ?_
  refine g_aload_n hC dL_law_3028 3029 rfl rfl 3 rfl ?_
  refine g_subF hC (ct_X5_residentShare l g a M  _ h) gY_X5_residentShare dL_law_3029 3032 rfl ml_L_360 (law_mod g A a v u E1 M z zd1) (law_mod1 g A a v u E1 z zd1) [] rfl rfl rfl 0 9 rfl rfl ⟨Nat.le_of_ble_eq_true rfl, Nat.le_of_ble_eq_true rfl⟩ (Nat.le_of_ble_eq_true rfl) ⟨by omega, by omega⟩ (fun bx M1 h => ?_)
  refine g_fstore (lv2 := [(7, .float bx), (6, .int kx), (0, .ref b), (1, .ref (A 0 0)), (2, .ref (a 0)), (3, .ref u), (4, .ref v), (5, .int i)]) hC dL_law_3032 3034 rfl (by decide) rfl ?_
  refine g_aload_n hC dL_law_3034 3035 rfl rfl 4 rfl ?_
  refine g_readV hC (ct_X5_thrown l g a M1 _ h) gY_X5_thrown dL_law_3035 3038 rfl ml_L_203 _ _ (law_mod g A a v u E1 M1 z zd1) [] rfl rfl rfl 0 9 rfl rfl ⟨Nat.le_of_ble_eq_true rfl, Nat.le_of_ble_eq_true rfl⟩ (Nat.le_of_ble_eq_true rfl) ⟨by omega, by omega⟩ (fun t h => ?_)
  refine g_iload hC dL_law_3038 3040 rfl 1 rfl ?_
  obtain ⟨h9, h⟩ := h
  refine g_icmp_eq hC dL_law_3040 3045 (by decide) 3043 rfl (fun _ => ?_) (fun c9 => absurd h9 c9)
  refine g_iload hC dL_law_3045 3047 rfl 1 rfl ?_
  obtain ⟨hz9, hK9⟩ := h
  refine g_if_ne hC dL_law_3047 3083 (by decide) 3050 rfl (fun _ => ?_) (fun c9 => ?_)
  · skip
    refine g_goto hC dL_law_3083 3590 (by decide) ?_
    refine g_lv (lv2 := [(0, .ref b), (1, .ref (A 0 0)), (2, .ref (a 0)), (3, .ref u), (4, .ref v), (5, .int i)]) [2, 3, 4, 5, 6, 7] rfl ?_
    refine g_widen (k2 := k + 8) (n2 := n + 48) (by omega) (by omega) ?_
    exact hK _ _ _ _ hK9
  · have hz9 := hz9 c9
    refine g_aload hC dL_law_3050 3052 rfl 6 rfl ?_
    refine g_iconst hC (0 : Int32) dL_law_3052 3053 rfl iconst_0 ?_
    refine g_dald hC dL_law_3053 3054 rfl 10 rfl (vp_in_d (by decide)) ?_
    refine g_fload hC dL_law_3054 3056 rfl 0 rfl ?_
    obtain ⟨hf9, hz9⟩ := hz9
    refine g_f2d hC dL_law_3056 3057 rfl hf9 ?_
    refine g_dcmp hC dL_law_3057 3058 rfl ?_
    refine g_if_eq hC dL_law_3058 3083 (by decide) 3061 rfl (fun _ => ?_) (fun c7 => absurd hz9 c7)
    refine g_goto hC dL_law_3083 3590 (by decide) ?_
    refine g_lv (lv2 := [(0, .ref b), (1, .ref (A 0 0)), (2, .ref (a 0)), (3, .ref u), (4, .ref v), (5, .int i)]) [2, 3, 4, 5, 6, 7] rfl ?_
    refine g_widen (k2 := k + 8) (n2 := n + 48) (by omega) (by omega) ?_
    exact hK _ _ _ _ hK9
def wc_49 (K : lwK) (E M : Off) (z : Nat → Int64) (zd : Nat → UInt64) (a1 a2 a3 : Int32) : Prop := wp_X4_isConsistent (fun kx E1 => wp_X5_isConsistent (fun bx M1 => (kx = bx ∧ K E1 M1 z zd)) M ) E
set_option maxRecDepth 100000 in
set_option maxHeartbeats 4000000 in
theorem cs_49 {x : gX} {l : Launch} {g : gE} {A : Nat → Nat → Nat} {a : Nat → Nat} {v u b L : Nat} {xs : Nat → Int32} (hC : gC x l cL_law 9 RL g 2048 94400 603072 7207018) (hNw : gNw (x_s x)) (hst : l.stackTraces = false) (hS : gScr x b L xs) {K : lwK} {i : Int32} (h1 : vp_in (i + 1) L) (h2 : vp_in (i + 2) L) (h3 : vp_in (i + 3) L) {k n : Nat} (hk : k + 8 ≤ 603072) (hn : n + 48 ≤ 7207018) (hK : ∀ (E M : Off) (z : Nat → Int64) (zd : Nat → UInt64), K E M z zd → G x g 9 (k + 8) (n + 48) (lawW g A a v u E M z zd) 3590 [(0, .ref b), (1, .ref (A 0 0)), (2, .ref (a 0)), (3, .ref u), (4, .ref v), (5, .int i)] []) {E M : Off} {z : Nat → Int64} {zd : Nat → UInt64} (h : wc_49 K E M z zd (xs (i + 1).toNatClampNeg) (xs (i + 2).toNatClampNeg) (xs (i + 3).toNatClampNeg)) : G x g 9 k n (lawW g A a v u E M z zd) 3086 [(0, .ref b), (1, .ref (A 0 0)), (2, .ref (a 0)), (3, .ref u), (4, .ref v), (5, .int i)] [] := by
  unfold wc_49 at h
  refine g_aload_n hC dL_law_3086 3087 rfl rfl 1 rfl ?_
  refine g_subI hC (ct_X4_isConsistent l g A E _ h) gY_X4_isConsistent dL_law_3087 3090 rfl ml_L_361 (law_emb g A a v u E M z zd) (law_emb1 g A a v u M z zd) [] rfl rfl rfl 0 8 rfl rfl ⟨Nat.le_of_ble_eq_true rfl, Nat.le_of_ble_eq_true rfl⟩ (Nat.le_of_ble_eq_true rfl) ⟨by omega, by omega⟩ (fun kx E1 h => ?_)
  refine g_aload_n hC dL_law_3090 3091 rfl rfl 2 rfl ?_
  refine g_subI hC (ct_X5_isConsistent l g a M  _ h) gY_X5_isConsistent dL_law_3091 3094 rfl ml_L_365 (law_mod g A a v u E1 M z zd) (law_mod1 g A a v u E1 z zd) [.int kx] rfl rfl rfl 0 9 rfl rfl ⟨Nat.le_of_ble_eq_true rfl, Nat.le_of_ble_eq_true rfl⟩ (Nat.le_of_ble_eq_true rfl) ⟨by omega, by omega⟩ (fun bx M1 h => ?_)
  obtain ⟨h9, h⟩ := h
  refine g_icmp_eq hC dL_law_3094 3590 (by decide) 3097 rfl (fun _ => ?_) (fun c9 => absurd h9 c9)
  refine g_widen (k2 := k + 8) (n2 := n + 48) (by omega) (by omega) ?_
  exact hK _ _ _ _ h
def wc_50 (K : lwK) (E M : Off) (z : Nat → Int64) (zd : Nat → UInt64) (a1 a2 a3 : Int32) : Prop := ww_writeSock (fun kx E1 z1 => wp_X5_writeSock (fun bx M1 => wp_X5_thrown (fun t => (t = kx ∧ ((kx = 0 → lg_cmp (z1 (0 : Int32).toNatClampNeg) (bx).toInt64 = 0) ∧ K E1 M1 z1 zd))) M1) M a1) E z a1
set_option maxRecDepth 100000 in
set_option maxHeartbeats 4000000 in
theorem cs_50 {x : gX} {l : Launch} {g : gE} {A : Nat → Nat → Nat} {a : Nat → Nat} {v u b L : Nat} {xs : Nat → Int32} (hC : gC x l cL_law 9 RL g 2048 94400 603072 7207018) (hNw : gNw (x_s x)) (hst : l.stackTraces = false) (hS : gScr x b L xs) {K : lwK} {i : Int32} (h1 : vp_in (i + 1) L) (h2 : vp_in (i + 2) L) (h3 : vp_in (i + 3) L) {k n : Nat} (hk : k + 8 ≤ 603072) (hn : n + 48 ≤ 7207018) (hK : ∀ (E M : Off) (z : Nat → Int64) (zd : Nat → UInt64), K E M z zd → G x g 9 (k + 8) (n + 48) (lawW g A a v u E M z zd) 3590 [(0, .ref b), (1, .ref (A 0 0)), (2, .ref (a 0)), (3, .ref u), (4, .ref v), (5, .int i)] []) {E M : Off} {z : Nat → Int64} {zd : Nat → UInt64} (h : wc_50 K E M z zd (xs (i + 1).toNatClampNeg) (xs (i + 2).toNatClampNeg) (xs (i + 3).toNatClampNeg)) : G x g 9 k n (lawW g A a v u E M z zd) 3099 [(0, .ref b), (1, .ref (A 0 0)), (2, .ref (a 0)), (3, .ref u), (4, .ref v), (5, .int i)] [] := by
  unfold wc_50 at h
  refine g_aload_n hC dL_law_3099 3100 rfl rfl 1 rfl ?_
  refine g_aload_n hC dL_law_3100 3101 rfl rfl 0 rfl ?_
  refine g_iload hC dL_law_3101 3103 rfl 5 rfl ?_
  refine g_iconst hC (1 : Int32) dL_law_3103 3104 rfl iconst_1 ?_
  refine g_iadd hC dL_law_3104 3105 rfl ?_
  refine g_sld hC hS dL_law_3105 3106 rfl h1 ?_
  refine g_aload_n hC dL_law_3106 3107 rfl rfl 3 rfl ?_
  refine g_callW hC hNw hst (cw_writeSock l g A u E z (xs (i + 1).toNatClampNeg) _ h) gY_L_writeSock dL_law_3107 3110 rfl ml_L_366 _ _ (law_out g A a v u E M z zd) [] rfl rfl ⟨Nat.le_of_ble_eq_true rfl, Nat.le_of_ble_eq_true rfl⟩ (Nat.le_of_ble_eq_true rfl) ⟨by omega, by omega⟩ ?_
  rintro r w1 ⟨kx, E1, z1, rfl, rfl, h⟩
  rw [law_out1]
  show G x g 9 (k + 1) (n + 6) (lawW g A a v u E1 M z1 zd) 3110 [(0, .ref b), (1, .ref (A 0 0)), (2, .ref (a 0)), (3, .ref u), (4, .ref v), (5, .int i)] [.int kx]
  refine g_istore (lv2 := [(6, .int kx), (0, .ref b), (1, .ref (A 0 0)), (2, .ref (a 0)), (3, .ref u), (4, .ref v), (5, .int i)]) hC dL_law_3110 3112 rfl (by decide) rfl ?_
  refine g_aload_n hC dL_law_3112 3113 rfl rfl 3 rfl ?_
  refine g_aload_n hC dL_law_3113 3114 rfl rfl 1 rfl ?_
  refine g_iload hC dL_law_3114 3116 rfl 6 rfl ?_
  refine g_iconst hC (1 : Int32) dL_law_3116 3117 rfl iconst_1 ?_
  refine g_iadd hC dL_law_3117 3118 rfl ?_
  refine g_sld hC hS dL_law_3118 3119 rfl h1 ?_
  refine g_subI hC (ct_X5_writeSock l g a M (xs (i + 1).toNatClampNeg) _ h) gY_X5_writeSock dL_law_3119 3122 rfl ml_L_368 (law_mod g A a v u E1 M z1 zd) (law_mod1 g A a v u E1 z1 zd) [] rfl rfl rfl 0 9 rfl rfl ⟨Nat.le_of_ble_eq_true rfl, Nat.le_of_ble_eq_true rfl⟩ (Nat.le_of_ble_eq_true rfl) ⟨by omega, by omega⟩ (fun bx M1 h => ?_)
  refine g_istore (lv2 := [(7, .int bx), (6, .int kx), (0, .ref b), (1, .ref (A 0 0)), (2, .ref (a 0)), (3, .ref u), (4, .ref v), (5, .int i)]) hC dL_law_3122 3124 rfl (by decide) rfl ?_
  refine g_aload_n hC dL_law_3124 3125 rfl rfl 4 rfl ?_
  refine g_readV hC (ct_X5_thrown l g a M1 _ h) gY_X5_thrown dL_law_3125 3128 rfl ml_L_203 _ _ (law_mod g A a v u E1 M1 z1 zd) [] rfl rfl rfl 0 9 rfl rfl ⟨Nat.le_of_ble_eq_true rfl, Nat.le_of_ble_eq_true rfl⟩ (Nat.le_of_ble_eq_true rfl) ⟨by omega, by omega⟩ (fun t h => ?_)
  refine g_iload hC dL_law_3128 3130 rfl 1 rfl ?_
  obtain ⟨h9, h⟩ := h
  refine g_icmp_eq hC dL_law_3130 3135 (by decide) 3133 rfl (fun _ => ?_) (fun c9 => absurd h9 c9)
  refine g_iload hC dL_law_3135 3137 rfl 1 rfl ?_
  obtain ⟨hz9, hK9⟩ := h
  refine g_if_ne hC dL_law_3137 3152 (by decide) 3140 rfl (fun _ => ?_) (fun c9 => ?_)
  · skip
    refine g_goto hC dL_law_3152 3590 (by decide) ?_
    refine g_lv (lv2 := [(0, .ref b), (1, .ref (A 0 0)), (2, .ref (a 0)), (3, .ref u), (4, .ref v), (5, .int i)]) [2, 3, 4, 5, 6, 7] rfl ?_
    refine g_widen (k2 := k + 8) (n2 := n + 48) (by omega) (by omega) ?_
    exact hK _ _ _ _ hK9
  · have hz9 := hz9 c9
    refine g_aload_n hC dL_law_3140 3141 rfl rfl 5 rfl ?_
    refine g_iconst hC (0 : Int32) dL_law_3141 3142 rfl iconst_0 ?_
    refine g_lald hC dL_law_3142 3143 rfl 11 rfl (vp_in_d (by decide)) ?_
    refine g_iload hC dL_law_3143 3145 rfl 0 rfl ?_
    refine g_i2l hC dL_law_3145 3146 rfl ?_
    refine g_lcmp hC dL_law_3146 3147 rfl ?_
    refine g_if_eq hC dL_law_3147 3152 (by decide) 3150 rfl (fun _ => ?_) (fun c7 => absurd hz9 c7)
    refine g_goto hC dL_law_3152 3590 (by decide) ?_
    refine g_lv (lv2 := [(0, .ref b), (1, .ref (A 0 0)), (2, .ref (a 0)), (3, .ref u), (4, .ref v), (5, .int i)]) [2, 3, 4, 5, 6, 7] rfl ?_
    refine g_widen (k2 := k + 8) (n2 := n + 48) (by omega) (by omega) ?_
    exact hK _ _ _ _ hK9
def wc_51 (K : lwK) (E M : Off) (z : Nat → Int64) (zd : Nat → UInt64) (a1 a2 a3 : Int32) : Prop := ww_outputAt (fun kx E1 z1 => wp_X5_outputAt (fun bx M1 => wp_X5_thrown (fun t => (t = kx ∧ ((kx = 0 → lg_cmp (z1 (0 : Int32).toNatClampNeg) (bx).toInt64 = 0) ∧ K E1 M1 z1 zd))) M1) M a1) E z a1
set_option maxRecDepth 100000 in
set_option maxHeartbeats 4000000 in
theorem cs_51 {x : gX} {l : Launch} {g : gE} {A : Nat → Nat → Nat} {a : Nat → Nat} {v u b L : Nat} {xs : Nat → Int32} (hC : gC x l cL_law 9 RL g 2048 94400 603072 7207018) (hNw : gNw (x_s x)) (hst : l.stackTraces = false) (hS : gScr x b L xs) {K : lwK} {i : Int32} (h1 : vp_in (i + 1) L) (h2 : vp_in (i + 2) L) (h3 : vp_in (i + 3) L) {k n : Nat} (hk : k + 8 ≤ 603072) (hn : n + 48 ≤ 7207018) (hK : ∀ (E M : Off) (z : Nat → Int64) (zd : Nat → UInt64), K E M z zd → G x g 9 (k + 8) (n + 48) (lawW g A a v u E M z zd) 3590 [(0, .ref b), (1, .ref (A 0 0)), (2, .ref (a 0)), (3, .ref u), (4, .ref v), (5, .int i)] []) {E M : Off} {z : Nat → Int64} {zd : Nat → UInt64} (h : wc_51 K E M z zd (xs (i + 1).toNatClampNeg) (xs (i + 2).toNatClampNeg) (xs (i + 3).toNatClampNeg)) : G x g 9 k n (lawW g A a v u E M z zd) 3155 [(0, .ref b), (1, .ref (A 0 0)), (2, .ref (a 0)), (3, .ref u), (4, .ref v), (5, .int i)] [] := by
  unfold wc_51 at h
  refine g_aload_n hC dL_law_3155 3156 rfl rfl 1 rfl ?_
  refine g_aload_n hC dL_law_3156 3157 rfl rfl 0 rfl ?_
  refine g_iload hC dL_law_3157 3159 rfl 5 rfl ?_
  refine g_iconst hC (1 : Int32) dL_law_3159 3160 rfl iconst_1 ?_
  refine g_iadd hC dL_law_3160 3161 rfl ?_
  refine g_sld hC hS dL_law_3161 3162 rfl h1 ?_
  refine g_aload_n hC dL_law_3162 3163 rfl rfl 3 rfl ?_
  refine g_callW hC hNw hst (cw_outputAt l g A u E z (xs (i + 1).toNatClampNeg) _ h) gY_L_outputAt dL_law_3163 3166 rfl ml_L_369 _ _ (law_out g A a v u E M z zd) [] rfl rfl ⟨Nat.le_of_ble_eq_true rfl, Nat.le_of_ble_eq_true rfl⟩ (Nat.le_of_ble_eq_true rfl) ⟨by omega, by omega⟩ ?_
  rintro r w1 ⟨kx, E1, z1, rfl, rfl, h⟩
  rw [law_out1]
  show G x g 9 (k + 1) (n + 6) (lawW g A a v u E1 M z1 zd) 3166 [(0, .ref b), (1, .ref (A 0 0)), (2, .ref (a 0)), (3, .ref u), (4, .ref v), (5, .int i)] [.int kx]
  refine g_istore (lv2 := [(6, .int kx), (0, .ref b), (1, .ref (A 0 0)), (2, .ref (a 0)), (3, .ref u), (4, .ref v), (5, .int i)]) hC dL_law_3166 3168 rfl (by decide) rfl ?_
  refine g_aload_n hC dL_law_3168 3169 rfl rfl 3 rfl ?_
  refine g_aload_n hC dL_law_3169 3170 rfl rfl 1 rfl ?_
  refine g_iload hC dL_law_3170 3172 rfl 6 rfl ?_
  refine g_iconst hC (1 : Int32) dL_law_3172 3173 rfl iconst_1 ?_
  refine g_iadd hC dL_law_3173 3174 rfl ?_
  refine g_sld hC hS dL_law_3174 3175 rfl h1 ?_
  refine g_subI hC (ct_X5_outputAt l g a M (xs (i + 1).toNatClampNeg) _ h) gY_X5_outputAt dL_law_3175 3178 rfl ml_L_371 (law_mod g A a v u E1 M z1 zd) (law_mod1 g A a v u E1 z1 zd) [] rfl rfl rfl 0 9 rfl rfl ⟨Nat.le_of_ble_eq_true rfl, Nat.le_of_ble_eq_true rfl⟩ (Nat.le_of_ble_eq_true rfl) ⟨by omega, by omega⟩ (fun bx M1 h => ?_)
  refine g_istore (lv2 := [(7, .int bx), (6, .int kx), (0, .ref b), (1, .ref (A 0 0)), (2, .ref (a 0)), (3, .ref u), (4, .ref v), (5, .int i)]) hC dL_law_3178 3180 rfl (by decide) rfl ?_
  refine g_aload_n hC dL_law_3180 3181 rfl rfl 4 rfl ?_
  refine g_readV hC (ct_X5_thrown l g a M1 _ h) gY_X5_thrown dL_law_3181 3184 rfl ml_L_203 _ _ (law_mod g A a v u E1 M1 z1 zd) [] rfl rfl rfl 0 9 rfl rfl ⟨Nat.le_of_ble_eq_true rfl, Nat.le_of_ble_eq_true rfl⟩ (Nat.le_of_ble_eq_true rfl) ⟨by omega, by omega⟩ (fun t h => ?_)
  refine g_iload hC dL_law_3184 3186 rfl 1 rfl ?_
  obtain ⟨h9, h⟩ := h
  refine g_icmp_eq hC dL_law_3186 3191 (by decide) 3189 rfl (fun _ => ?_) (fun c9 => absurd h9 c9)
  refine g_iload hC dL_law_3191 3193 rfl 1 rfl ?_
  obtain ⟨hz9, hK9⟩ := h
  refine g_if_ne hC dL_law_3193 3208 (by decide) 3196 rfl (fun _ => ?_) (fun c9 => ?_)
  · skip
    refine g_goto hC dL_law_3208 3590 (by decide) ?_
    refine g_lv (lv2 := [(0, .ref b), (1, .ref (A 0 0)), (2, .ref (a 0)), (3, .ref u), (4, .ref v), (5, .int i)]) [2, 3, 4, 5, 6, 7] rfl ?_
    refine g_widen (k2 := k + 8) (n2 := n + 48) (by omega) (by omega) ?_
    exact hK _ _ _ _ hK9
  · have hz9 := hz9 c9
    refine g_aload_n hC dL_law_3196 3197 rfl rfl 5 rfl ?_
    refine g_iconst hC (0 : Int32) dL_law_3197 3198 rfl iconst_0 ?_
    refine g_lald hC dL_law_3198 3199 rfl 11 rfl (vp_in_d (by decide)) ?_
    refine g_iload hC dL_law_3199 3201 rfl 0 rfl ?_
    refine g_i2l hC dL_law_3201 3202 rfl ?_
    refine g_lcmp hC dL_law_3202 3203 rfl ?_
    refine g_if_eq hC dL_law_3203 3208 (by decide) 3206 rfl (fun _ => ?_) (fun c7 => absurd hz9 c7)
    refine g_goto hC dL_law_3208 3590 (by decide) ?_
    refine g_lv (lv2 := [(0, .ref b), (1, .ref (A 0 0)), (2, .ref (a 0)), (3, .ref u), (4, .ref v), (5, .int i)]) [2, 3, 4, 5, 6, 7] rfl ?_
    refine g_widen (k2 := k + 8) (n2 := n + 48) (by omega) (by omega) ?_
    exact hK _ _ _ _ hK9
def wc_52 (K : lwK) (E M : Off) (z : Nat → Int64) (zd : Nat → UInt64) (a1 a2 a3 : Int32) : Prop := ww_appendInput (fun kx E1 z1 => wp_X5_appendInput (fun bx M1 => wp_X5_thrown (fun t => (t = kx ∧ ((kx = 0 → lg_cmp (z1 (0 : Int32).toNatClampNeg) (bx).toInt64 = 0) ∧ K E1 M1 z1 zd))) M1) M (((a1).toUInt32 % 65536).toInt32)) E z (((a1).toUInt32 % 65536).toInt32)
set_option maxRecDepth 100000 in
set_option maxHeartbeats 4000000 in
theorem cs_52 {x : gX} {l : Launch} {g : gE} {A : Nat → Nat → Nat} {a : Nat → Nat} {v u b L : Nat} {xs : Nat → Int32} (hC : gC x l cL_law 9 RL g 2048 94400 603072 7207018) (hNw : gNw (x_s x)) (hst : l.stackTraces = false) (hS : gScr x b L xs) {K : lwK} {i : Int32} (h1 : vp_in (i + 1) L) (h2 : vp_in (i + 2) L) (h3 : vp_in (i + 3) L) {k n : Nat} (hk : k + 8 ≤ 603072) (hn : n + 48 ≤ 7207018) (hK : ∀ (E M : Off) (z : Nat → Int64) (zd : Nat → UInt64), K E M z zd → G x g 9 (k + 8) (n + 48) (lawW g A a v u E M z zd) 3590 [(0, .ref b), (1, .ref (A 0 0)), (2, .ref (a 0)), (3, .ref u), (4, .ref v), (5, .int i)] []) {E M : Off} {z : Nat → Int64} {zd : Nat → UInt64} (h : wc_52 K E M z zd (xs (i + 1).toNatClampNeg) (xs (i + 2).toNatClampNeg) (xs (i + 3).toNatClampNeg)) : G x g 9 k n (lawW g A a v u E M z zd) 3211 [(0, .ref b), (1, .ref (A 0 0)), (2, .ref (a 0)), (3, .ref u), (4, .ref v), (5, .int i)] [] := by
  unfold wc_52 at h
  refine g_aload_n hC dL_law_3211 3212 rfl rfl 1 rfl ?_
  refine g_aload_n hC dL_law_3212 3213 rfl rfl 0 rfl ?_
  refine g_iload hC dL_law_3213 3215 rfl 5 rfl ?_
  refine g_iconst hC (1 : Int32) dL_law_3215 3216 rfl iconst_1 ?_
  refine g_iadd hC dL_law_3216 3217 rfl ?_
  refine g_sld hC hS dL_law_3217 3218 rfl h1 ?_
  refine g_i2c hC dL_law_3218 3219 rfl ?_
  refine g_aload_n hC dL_law_3219 3220 rfl rfl 3 rfl ?_
  refine g_callW hC hNw hst (cw_appendInput l g A u E z ((((xs (i + 1).toNatClampNeg)).toUInt32 % 65536).toInt32) _ h) gY_L_appendInput dL_law_3220 3223 rfl ml_L_372 _ _ (law_out g A a v u E M z zd) [] rfl rfl ⟨Nat.le_of_ble_eq_true rfl, Nat.le_of_ble_eq_true rfl⟩ (Nat.le_of_ble_eq_true rfl) ⟨by omega, by omega⟩ ?_
  rintro r w1 ⟨kx, E1, z1, rfl, rfl, h⟩
  rw [law_out1]
  show G x g 9 (k + 2) (n + 12) (lawW g A a v u E1 M z1 zd) 3223 [(0, .ref b), (1, .ref (A 0 0)), (2, .ref (a 0)), (3, .ref u), (4, .ref v), (5, .int i)] [.int kx]
  refine g_istore (lv2 := [(6, .int kx), (0, .ref b), (1, .ref (A 0 0)), (2, .ref (a 0)), (3, .ref u), (4, .ref v), (5, .int i)]) hC dL_law_3223 3225 rfl (by decide) rfl ?_
  refine g_aload_n hC dL_law_3225 3226 rfl rfl 3 rfl ?_
  refine g_aload_n hC dL_law_3226 3227 rfl rfl 1 rfl ?_
  refine g_iload hC dL_law_3227 3229 rfl 6 rfl ?_
  refine g_iconst hC (1 : Int32) dL_law_3229 3230 rfl iconst_1 ?_
  refine g_iadd hC dL_law_3230 3231 rfl ?_
  refine g_sld hC hS dL_law_3231 3232 rfl h1 ?_
  refine g_i2c hC dL_law_3232 3233 rfl ?_
  refine g_subI hC (ct_X5_appendInput l g a M ((((xs (i + 1).toNatClampNeg)).toUInt32 % 65536).toInt32) _ h) gY_X5_appendInput dL_law_3233 3236 rfl ml_L_375 (law_mod g A a v u E1 M z1 zd) (law_mod1 g A a v u E1 z1 zd) [] rfl rfl rfl 0 9 rfl rfl ⟨Nat.le_of_ble_eq_true rfl, Nat.le_of_ble_eq_true rfl⟩ (Nat.le_of_ble_eq_true rfl) ⟨by omega, by omega⟩ (fun bx M1 h => ?_)
  refine g_istore (lv2 := [(7, .int bx), (6, .int kx), (0, .ref b), (1, .ref (A 0 0)), (2, .ref (a 0)), (3, .ref u), (4, .ref v), (5, .int i)]) hC dL_law_3236 3238 rfl (by decide) rfl ?_
  refine g_aload_n hC dL_law_3238 3239 rfl rfl 4 rfl ?_
  refine g_readV hC (ct_X5_thrown l g a M1 _ h) gY_X5_thrown dL_law_3239 3242 rfl ml_L_203 _ _ (law_mod g A a v u E1 M1 z1 zd) [] rfl rfl rfl 0 9 rfl rfl ⟨Nat.le_of_ble_eq_true rfl, Nat.le_of_ble_eq_true rfl⟩ (Nat.le_of_ble_eq_true rfl) ⟨by omega, by omega⟩ (fun t h => ?_)
  refine g_iload hC dL_law_3242 3244 rfl 1 rfl ?_
  obtain ⟨h9, h⟩ := h
  refine g_icmp_eq hC dL_law_3244 3249 (by decide) 3247 rfl (fun _ => ?_) (fun c9 => absurd h9 c9)
  refine g_iload hC dL_law_3249 3251 rfl 1 rfl ?_
  obtain ⟨hz9, hK9⟩ := h
  refine g_if_ne hC dL_law_3251 3266 (by decide) 3254 rfl (fun _ => ?_) (fun c9 => ?_)
  · skip
    refine g_goto hC dL_law_3266 3590 (by decide) ?_
    refine g_lv (lv2 := [(0, .ref b), (1, .ref (A 0 0)), (2, .ref (a 0)), (3, .ref u), (4, .ref v), (5, .int i)]) [2, 3, 4, 5, 6, 7] rfl ?_
    refine g_widen (k2 := k + 8) (n2 := n + 48) (by omega) (by omega) ?_
    exact hK _ _ _ _ hK9
  · have hz9 := hz9 c9
    refine g_aload_n hC dL_law_3254 3255 rfl rfl 5 rfl ?_
    refine g_iconst hC (0 : Int32) dL_law_3255 3256 rfl iconst_0 ?_
    refine g_lald hC dL_law_3256 3257 rfl 11 rfl (vp_in_d (by decide)) ?_
    refine g_iload hC dL_law_3257 3259 rfl 0 rfl ?_
    refine g_i2l hC dL_law_3259 3260 rfl ?_
    refine g_lcmp hC dL_law_3260 3261 rfl ?_
    refine g_if_eq hC dL_law_3261 3266 (by decide) 3264 rfl (fun _ => ?_) (fun c7 => absurd hz9 c7)
    refine g_goto hC dL_law_3266 3590 (by decide) ?_
    refine g_lv (lv2 := [(0, .ref b), (1, .ref (A 0 0)), (2, .ref (a 0)), (3, .ref u), (4, .ref v), (5, .int i)]) [2, 3, 4, 5, 6, 7] rfl ?_
    refine g_widen (k2 := k + 8) (n2 := n + 48) (by omega) (by omega) ?_
    exact hK _ _ _ _ hK9
def wc_53 (K : lwK) (E M : Off) (z : Nat → Int64) (zd : Nat → UInt64) (a1 a2 a3 : Int32) : Prop := ww_execute (fun kx E1 z1 => wp_X5_execute (fun bx M1 => wp_X5_thrown (fun t => (t = kx ∧ ((kx = 0 → lg_cmp (z1 (0 : Int32).toNatClampNeg) (bx).toInt64 = 0) ∧ K E1 M1 z1 zd))) M1) M ) E z 
set_option maxRecDepth 100000 in
set_option maxHeartbeats 4000000 in
theorem cs_53 {x : gX} {l : Launch} {g : gE} {A : Nat → Nat → Nat} {a : Nat → Nat} {v u b L : Nat} {xs : Nat → Int32} (hC : gC x l cL_law 9 RL g 2048 94400 603072 7207018) (hNw : gNw (x_s x)) (hst : l.stackTraces = false) (hS : gScr x b L xs) {K : lwK} {i : Int32} (h1 : vp_in (i + 1) L) (h2 : vp_in (i + 2) L) (h3 : vp_in (i + 3) L) {k n : Nat} (hk : k + 8 ≤ 603072) (hn : n + 48 ≤ 7207018) (hK : ∀ (E M : Off) (z : Nat → Int64) (zd : Nat → UInt64), K E M z zd → G x g 9 (k + 8) (n + 48) (lawW g A a v u E M z zd) 3590 [(0, .ref b), (1, .ref (A 0 0)), (2, .ref (a 0)), (3, .ref u), (4, .ref v), (5, .int i)] []) {E M : Off} {z : Nat → Int64} {zd : Nat → UInt64} (h : wc_53 K E M z zd (xs (i + 1).toNatClampNeg) (xs (i + 2).toNatClampNeg) (xs (i + 3).toNatClampNeg)) : G x g 9 k n (lawW g A a v u E M z zd) 3269 [(0, .ref b), (1, .ref (A 0 0)), (2, .ref (a 0)), (3, .ref u), (4, .ref v), (5, .int i)] [] := by
  unfold wc_53 at h
  refine g_aload_n hC dL_law_3269 3270 rfl rfl 1 rfl ?_
  refine g_aload_n hC dL_law_3270 3271 rfl rfl 3 rfl ?_
  refine g_callW hC hNw hst (cw_execute l g A u E z  _ h) gY_L_execute dL_law_3271 3274 rfl ml_L_376 _ _ (law_out g A a v u E M z zd) [] rfl rfl ⟨Nat.le_of_ble_eq_true rfl, Nat.le_of_ble_eq_true rfl⟩ (Nat.le_of_ble_eq_true rfl) ⟨by omega, by omega⟩ ?_
  rintro r w1 ⟨kx, E1, z1, rfl, rfl, h⟩
  rw [law_out1]
  show G x g 9 (k + 3) (n + 18) (lawW g A a v u E1 M z1 zd) 3274 [(0, .ref b), (1, .ref (A 0 0)), (2, .ref (a 0)), (3, .ref u), (4, .ref v), (5, .int i)] [.int kx]
  refine g_istore (lv2 := [(6, .int kx), (0, .ref b), (1, .ref (A 0 0)), (2, .ref (a 0)), (3, .ref u), (4, .ref v), (5, .int i)]) hC dL_law_3274 3276 rfl (by decide) rfl ?_
  refine g_aload_n hC dL_law_3276 3277 rfl rfl 3 rfl ?_
  refine g_subI hC (ct_X5_execute l g a M  _ h) gY_X5_execute dL_law_3277 3280 rfl ml_L_379 (law_mod g A a v u E1 M z1 zd) (law_mod1 g A a v u E1 z1 zd) [] rfl rfl rfl 0 9 rfl rfl ⟨Nat.le_of_ble_eq_true rfl, Nat.le_of_ble_eq_true rfl⟩ (Nat.le_of_ble_eq_true rfl) ⟨by omega, by omega⟩ (fun bx M1 h => ?_)
  refine g_istore (lv2 := [(7, .int bx), (6, .int kx), (0, .ref b), (1, .ref (A 0 0)), (2, .ref (a 0)), (3, .ref u), (4, .ref v), (5, .int i)]) hC dL_law_3280 3282 rfl (by decide) rfl ?_
  refine g_aload_n hC dL_law_3282 3283 rfl rfl 4 rfl ?_
  refine g_readV hC (ct_X5_thrown l g a M1 _ h) gY_X5_thrown dL_law_3283 3286 rfl ml_L_203 _ _ (law_mod g A a v u E1 M1 z1 zd) [] rfl rfl rfl 0 9 rfl rfl ⟨Nat.le_of_ble_eq_true rfl, Nat.le_of_ble_eq_true rfl⟩ (Nat.le_of_ble_eq_true rfl) ⟨by omega, by omega⟩ (fun t h => ?_)
  refine g_iload hC dL_law_3286 3288 rfl 1 rfl ?_
  obtain ⟨h9, h⟩ := h
  refine g_icmp_eq hC dL_law_3288 3293 (by decide) 3291 rfl (fun _ => ?_) (fun c9 => absurd h9 c9)
  refine g_iload hC dL_law_3293 3295 rfl 1 rfl ?_
  obtain ⟨hz9, hK9⟩ := h
  refine g_if_ne hC dL_law_3295 3310 (by decide) 3298 rfl (fun _ => ?_) (fun c9 => ?_)
  · skip
    refine g_goto hC dL_law_3310 3590 (by decide) ?_
    refine g_lv (lv2 := [(0, .ref b), (1, .ref (A 0 0)), (2, .ref (a 0)), (3, .ref u), (4, .ref v), (5, .int i)]) [2, 3, 4, 5, 6, 7] rfl ?_
    refine g_widen (k2 := k + 8) (n2 := n + 48) (by omega) (by omega) ?_
    exact hK _ _ _ _ hK9
  · have hz9 := hz9 c9
    refine g_aload_n hC dL_law_3298 3299 rfl rfl 5 rfl ?_
    refine g_iconst hC (0 : Int32) dL_law_3299 3300 rfl iconst_0 ?_
    refine g_lald hC dL_law_3300 3301 rfl 11 rfl (vp_in_d (by decide)) ?_
    refine g_iload hC dL_law_3301 3303 rfl 0 rfl ?_
    refine g_i2l hC dL_law_3303 3304 rfl ?_
    refine g_lcmp hC dL_law_3304 3305 rfl ?_
    refine g_if_eq hC dL_law_3305 3310 (by decide) 3308 rfl (fun _ => ?_) (fun c7 => absurd hz9 c7)
    refine g_goto hC dL_law_3310 3590 (by decide) ?_
    refine g_lv (lv2 := [(0, .ref b), (1, .ref (A 0 0)), (2, .ref (a 0)), (3, .ref u), (4, .ref v), (5, .int i)]) [2, 3, 4, 5, 6, 7] rfl ?_
    refine g_widen (k2 := k + 8) (n2 := n + 48) (by omega) (by omega) ?_
    exact hK _ _ _ _ hK9
def wc_54 (K : lwK) (E M : Off) (z : Nat → Int64) (zd : Nat → UInt64) (a1 a2 a3 : Int32) : Prop := ww_syntaxErrorOffset (fun kx E1 z1 => wp_X5_syntaxErrorOffset (fun bx M1 => wp_X5_thrown (fun t => (t = kx ∧ ((kx = 0 → lg_cmp (z1 (0 : Int32).toNatClampNeg) (bx).toInt64 = 0) ∧ K E1 M1 z1 zd))) M1) M ) E z 
set_option maxRecDepth 100000 in
set_option maxHeartbeats 4000000 in
theorem cs_54 {x : gX} {l : Launch} {g : gE} {A : Nat → Nat → Nat} {a : Nat → Nat} {v u b L : Nat} {xs : Nat → Int32} (hC : gC x l cL_law 9 RL g 2048 94400 603072 7207018) (hNw : gNw (x_s x)) (hst : l.stackTraces = false) (hS : gScr x b L xs) {K : lwK} {i : Int32} (h1 : vp_in (i + 1) L) (h2 : vp_in (i + 2) L) (h3 : vp_in (i + 3) L) {k n : Nat} (hk : k + 8 ≤ 603072) (hn : n + 48 ≤ 7207018) (hK : ∀ (E M : Off) (z : Nat → Int64) (zd : Nat → UInt64), K E M z zd → G x g 9 (k + 8) (n + 48) (lawW g A a v u E M z zd) 3590 [(0, .ref b), (1, .ref (A 0 0)), (2, .ref (a 0)), (3, .ref u), (4, .ref v), (5, .int i)] []) {E M : Off} {z : Nat → Int64} {zd : Nat → UInt64} (h : wc_54 K E M z zd (xs (i + 1).toNatClampNeg) (xs (i + 2).toNatClampNeg) (xs (i + 3).toNatClampNeg)) : G x g 9 k n (lawW g A a v u E M z zd) 3313 [(0, .ref b), (1, .ref (A 0 0)), (2, .ref (a 0)), (3, .ref u), (4, .ref v), (5, .int i)] [] := by
  unfold wc_54 at h
  refine g_aload_n hC dL_law_3313 3314 rfl rfl 1 rfl ?_
  refine g_aload_n hC dL_law_3314 3315 rfl rfl 3 rfl ?_
  refine g_callW hC hNw hst (cw_syntaxErrorOffset l g A u E z  _ h) gY_L_syntaxErrorOffset dL_law_3315 3318 rfl ml_L_380 _ _ (law_out g A a v u E M z zd) [] rfl rfl ⟨Nat.le_of_ble_eq_true rfl, Nat.le_of_ble_eq_true rfl⟩ (Nat.le_of_ble_eq_true rfl) ⟨by omega, by omega⟩ ?_
  rintro r w1 ⟨kx, E1, z1, rfl, rfl, h⟩
  rw [law_out1]
  show G x g 9 (k + 1) (n + 6) (lawW g A a v u E1 M z1 zd) 3318 [(0, .ref b), (1, .ref (A 0 0)), (2, .ref (a 0)), (3, .ref u), (4, .ref v), (5, .int i)] [.int kx]
  refine g_istore (lv2 := [(6, .int kx), (0, .ref b), (1, .ref (A 0 0)), (2, .ref (a 0)), (3, .ref u), (4, .ref v), (5, .int i)]) hC dL_law_3318 3320 rfl (by decide) rfl ?_
  refine g_aload_n hC dL_law_3320 3321 rfl rfl 3 rfl ?_
  refine g_subI hC (ct_X5_syntaxErrorOffset l g a M  _ h) gY_X5_syntaxErrorOffset dL_law_3321 3324 rfl ml_L_382 (law_mod g A a v u E1 M z1 zd) (law_mod1 g A a v u E1 z1 zd) [] rfl rfl rfl 0 9 rfl rfl ⟨Nat.le_of_ble_eq_true rfl, Nat.le_of_ble_eq_true rfl⟩ (Nat.le_of_ble_eq_true rfl) ⟨by omega, by omega⟩ (fun bx M1 h => ?_)
  refine g_istore (lv2 := [(7, .int bx), (6, .int kx), (0, .ref b), (1, .ref (A 0 0)), (2, .ref (a 0)), (3, .ref u), (4, .ref v), (5, .int i)]) hC dL_law_3324 3326 rfl (by decide) rfl ?_
  refine g_aload_n hC dL_law_3326 3327 rfl rfl 4 rfl ?_
  refine g_readV hC (ct_X5_thrown l g a M1 _ h) gY_X5_thrown dL_law_3327 3330 rfl ml_L_203 _ _ (law_mod g A a v u E1 M1 z1 zd) [] rfl rfl rfl 0 9 rfl rfl ⟨Nat.le_of_ble_eq_true rfl, Nat.le_of_ble_eq_true rfl⟩ (Nat.le_of_ble_eq_true rfl) ⟨by omega, by omega⟩ (fun t h => ?_)
  refine g_iload hC dL_law_3330 3332 rfl 1 rfl ?_
  obtain ⟨h9, h⟩ := h
  refine g_icmp_eq hC dL_law_3332 3337 (by decide) 3335 rfl (fun _ => ?_) (fun c9 => absurd h9 c9)
  refine g_iload hC dL_law_3337 3339 rfl 1 rfl ?_
  obtain ⟨hz9, hK9⟩ := h
  refine g_if_ne hC dL_law_3339 3354 (by decide) 3342 rfl (fun _ => ?_) (fun c9 => ?_)
  · skip
    refine g_goto hC dL_law_3354 3590 (by decide) ?_
    refine g_lv (lv2 := [(0, .ref b), (1, .ref (A 0 0)), (2, .ref (a 0)), (3, .ref u), (4, .ref v), (5, .int i)]) [2, 3, 4, 5, 6, 7] rfl ?_
    refine g_widen (k2 := k + 8) (n2 := n + 48) (by omega) (by omega) ?_
    exact hK _ _ _ _ hK9
  · have hz9 := hz9 c9
    refine g_aload_n hC dL_law_3342 3343 rfl rfl 5 rfl ?_
    refine g_iconst hC (0 : Int32) dL_law_3343 3344 rfl iconst_0 ?_
    refine g_lald hC dL_law_3344 3345 rfl 11 rfl (vp_in_d (by decide)) ?_
    refine g_iload hC dL_law_3345 3347 rfl 0 rfl ?_
    refine g_i2l hC dL_law_3347 3348 rfl ?_
    refine g_lcmp hC dL_law_3348 3349 rfl ?_
    refine g_if_eq hC dL_law_3349 3354 (by decide) 3352 rfl (fun _ => ?_) (fun c7 => absurd hz9 c7)
    refine g_goto hC dL_law_3354 3590 (by decide) ?_
    refine g_lv (lv2 := [(0, .ref b), (1, .ref (A 0 0)), (2, .ref (a 0)), (3, .ref u), (4, .ref v), (5, .int i)]) [2, 3, 4, 5, 6, 7] rfl ?_
    refine g_widen (k2 := k + 8) (n2 := n + 48) (by omega) (by omega) ?_
    exact hK _ _ _ _ hK9
def wc_55 (K : lwK) (E M : Off) (z : Nat → Int64) (zd : Nat → UInt64) (a1 a2 a3 : Int32) : Prop := ww_rejectionReason (fun kx E1 z1 => wp_X5_rejectionReason (fun bx M1 => wp_X5_thrown (fun t => (t = kx ∧ ((kx = 0 → lg_cmp (z1 (0 : Int32).toNatClampNeg) (bx).toInt64 = 0) ∧ K E1 M1 z1 zd))) M1) M ) E z 
set_option maxRecDepth 100000 in
set_option maxHeartbeats 4000000 in
theorem cs_55 {x : gX} {l : Launch} {g : gE} {A : Nat → Nat → Nat} {a : Nat → Nat} {v u b L : Nat} {xs : Nat → Int32} (hC : gC x l cL_law 9 RL g 2048 94400 603072 7207018) (hNw : gNw (x_s x)) (hst : l.stackTraces = false) (hS : gScr x b L xs) {K : lwK} {i : Int32} (h1 : vp_in (i + 1) L) (h2 : vp_in (i + 2) L) (h3 : vp_in (i + 3) L) {k n : Nat} (hk : k + 8 ≤ 603072) (hn : n + 48 ≤ 7207018) (hK : ∀ (E M : Off) (z : Nat → Int64) (zd : Nat → UInt64), K E M z zd → G x g 9 (k + 8) (n + 48) (lawW g A a v u E M z zd) 3590 [(0, .ref b), (1, .ref (A 0 0)), (2, .ref (a 0)), (3, .ref u), (4, .ref v), (5, .int i)] []) {E M : Off} {z : Nat → Int64} {zd : Nat → UInt64} (h : wc_55 K E M z zd (xs (i + 1).toNatClampNeg) (xs (i + 2).toNatClampNeg) (xs (i + 3).toNatClampNeg)) : G x g 9 k n (lawW g A a v u E M z zd) 3357 [(0, .ref b), (1, .ref (A 0 0)), (2, .ref (a 0)), (3, .ref u), (4, .ref v), (5, .int i)] [] := by
  unfold wc_55 at h
  refine g_aload_n hC dL_law_3357 3358 rfl rfl 1 rfl ?_
  refine g_aload_n hC dL_law_3358 3359 rfl rfl 3 rfl ?_
  refine g_callW hC hNw hst (cw_rejectionReason l g A u E z  _ h) gY_L_rejectionReason dL_law_3359 3362 rfl ml_L_383 _ _ (law_out g A a v u E M z zd) [] rfl rfl ⟨Nat.le_of_ble_eq_true rfl, Nat.le_of_ble_eq_true rfl⟩ (Nat.le_of_ble_eq_true rfl) ⟨by omega, by omega⟩ ?_
  rintro r w1 ⟨kx, E1, z1, rfl, rfl, h⟩
  rw [law_out1]
  show G x g 9 (k + 1) (n + 6) (lawW g A a v u E1 M z1 zd) 3362 [(0, .ref b), (1, .ref (A 0 0)), (2, .ref (a 0)), (3, .ref u), (4, .ref v), (5, .int i)] [.int kx]
  refine g_istore (lv2 := [(6, .int kx), (0, .ref b), (1, .ref (A 0 0)), (2, .ref (a 0)), (3, .ref u), (4, .ref v), (5, .int i)]) hC dL_law_3362 3364 rfl (by decide) rfl ?_
  refine g_aload_n hC dL_law_3364 3365 rfl rfl 3 rfl ?_
  refine g_subI hC (ct_X5_rejectionReason l g a M  _ h) gY_X5_rejectionReason dL_law_3365 3368 rfl ml_L_385 (law_mod g A a v u E1 M z1 zd) (law_mod1 g A a v u E1 z1 zd) [] rfl rfl rfl 0 9 rfl rfl ⟨Nat.le_of_ble_eq_true rfl, Nat.le_of_ble_eq_true rfl⟩ (Nat.le_of_ble_eq_true rfl) ⟨by omega, by omega⟩ (fun bx M1 h => ?_)
  refine g_istore (lv2 := [(7, .int bx), (6, .int kx), (0, .ref b), (1, .ref (A 0 0)), (2, .ref (a 0)), (3, .ref u), (4, .ref v), (5, .int i)]) hC dL_law_3368 3370 rfl (by decide) rfl ?_
  refine g_aload_n hC dL_law_3370 3371 rfl rfl 4 rfl ?_
  refine g_readV hC (ct_X5_thrown l g a M1 _ h) gY_X5_thrown dL_law_3371 3374 rfl ml_L_203 _ _ (law_mod g A a v u E1 M1 z1 zd) [] rfl rfl rfl 0 9 rfl rfl ⟨Nat.le_of_ble_eq_true rfl, Nat.le_of_ble_eq_true rfl⟩ (Nat.le_of_ble_eq_true rfl) ⟨by omega, by omega⟩ (fun t h => ?_)
  refine g_iload hC dL_law_3374 3376 rfl 1 rfl ?_
  obtain ⟨h9, h⟩ := h
  refine g_icmp_eq hC dL_law_3376 3381 (by decide) 3379 rfl (fun _ => ?_) (fun c9 => absurd h9 c9)
  refine g_iload hC dL_law_3381 3383 rfl 1 rfl ?_
  obtain ⟨hz9, hK9⟩ := h
  refine g_if_ne hC dL_law_3383 3398 (by decide) 3386 rfl (fun _ => ?_) (fun c9 => ?_)
  · skip
    refine g_goto hC dL_law_3398 3590 (by decide) ?_
    refine g_lv (lv2 := [(0, .ref b), (1, .ref (A 0 0)), (2, .ref (a 0)), (3, .ref u), (4, .ref v), (5, .int i)]) [2, 3, 4, 5, 6, 7] rfl ?_
    refine g_widen (k2 := k + 8) (n2 := n + 48) (by omega) (by omega) ?_
    exact hK _ _ _ _ hK9
  · have hz9 := hz9 c9
    refine g_aload_n hC dL_law_3386 3387 rfl rfl 5 rfl ?_
    refine g_iconst hC (0 : Int32) dL_law_3387 3388 rfl iconst_0 ?_
    refine g_lald hC dL_law_3388 3389 rfl 11 rfl (vp_in_d (by decide)) ?_
    refine g_iload hC dL_law_3389 3391 rfl 0 rfl ?_
    refine g_i2l hC dL_law_3391 3392 rfl ?_
    refine g_lcmp hC dL_law_3392 3393 rfl ?_
    refine g_if_eq hC dL_law_3393 3398 (by decide) 3396 rfl (fun _ => ?_) (fun c7 => absurd hz9 c7)
    refine g_goto hC dL_law_3398 3590 (by decide) ?_
    refine g_lv (lv2 := [(0, .ref b), (1, .ref (A 0 0)), (2, .ref (a 0)), (3, .ref u), (4, .ref v), (5, .int i)]) [2, 3, 4, 5, 6, 7] rfl ?_
    refine g_widen (k2 := k + 8) (n2 := n + 48) (by omega) (by omega) ?_
    exact hK _ _ _ _ hK9
def wc_56 (K : lwK) (E M : Off) (z : Nat → Int64) (zd : Nat → UInt64) (a1 a2 a3 : Int32) : Prop := ww_rejectionDetail (fun kx E1 z1 => wp_X5_rejectionDetail (fun bx M1 => wp_X5_thrown (fun t => (t = kx ∧ ((kx = 0 → lg_cmp (z1 (0 : Int32).toNatClampNeg) (bx).toInt64 = 0) ∧ K E1 M1 z1 zd))) M1) M ) E z 
set_option maxRecDepth 100000 in
set_option maxHeartbeats 4000000 in
theorem cs_56 {x : gX} {l : Launch} {g : gE} {A : Nat → Nat → Nat} {a : Nat → Nat} {v u b L : Nat} {xs : Nat → Int32} (hC : gC x l cL_law 9 RL g 2048 94400 603072 7207018) (hNw : gNw (x_s x)) (hst : l.stackTraces = false) (hS : gScr x b L xs) {K : lwK} {i : Int32} (h1 : vp_in (i + 1) L) (h2 : vp_in (i + 2) L) (h3 : vp_in (i + 3) L) {k n : Nat} (hk : k + 8 ≤ 603072) (hn : n + 48 ≤ 7207018) (hK : ∀ (E M : Off) (z : Nat → Int64) (zd : Nat → UInt64), K E M z zd → G x g 9 (k + 8) (n + 48) (lawW g A a v u E M z zd) 3590 [(0, .ref b), (1, .ref (A 0 0)), (2, .ref (a 0)), (3, .ref u), (4, .ref v), (5, .int i)] []) {E M : Off} {z : Nat → Int64} {zd : Nat → UInt64} (h : wc_56 K E M z zd (xs (i + 1).toNatClampNeg) (xs (i + 2).toNatClampNeg) (xs (i + 3).toNatClampNeg)) : G x g 9 k n (lawW g A a v u E M z zd) 3401 [(0, .ref b), (1, .ref (A 0 0)), (2, .ref (a 0)), (3, .ref u), (4, .ref v), (5, .int i)] [] := by
  unfold wc_56 at h
  refine g_aload_n hC dL_law_3401 3402 rfl rfl 1 rfl ?_
  refine g_aload_n hC dL_law_3402 3403 rfl rfl 3 rfl ?_
  refine g_callW hC hNw hst (cw_rejectionDetail l g A u E z  _ h) gY_L_rejectionDetail dL_law_3403 3406 rfl ml_L_386 _ _ (law_out g A a v u E M z zd) [] rfl rfl ⟨Nat.le_of_ble_eq_true rfl, Nat.le_of_ble_eq_true rfl⟩ (Nat.le_of_ble_eq_true rfl) ⟨by omega, by omega⟩ ?_
  rintro r w1 ⟨kx, E1, z1, rfl, rfl, h⟩
  rw [law_out1]
  show G x g 9 (k + 1) (n + 6) (lawW g A a v u E1 M z1 zd) 3406 [(0, .ref b), (1, .ref (A 0 0)), (2, .ref (a 0)), (3, .ref u), (4, .ref v), (5, .int i)] [.int kx]
  refine g_istore (lv2 := [(6, .int kx), (0, .ref b), (1, .ref (A 0 0)), (2, .ref (a 0)), (3, .ref u), (4, .ref v), (5, .int i)]) hC dL_law_3406 3408 rfl (by decide) rfl ?_
  refine g_aload_n hC dL_law_3408 3409 rfl rfl 3 rfl ?_
  refine g_subI hC (ct_X5_rejectionDetail l g a M  _ h) gY_X5_rejectionDetail dL_law_3409 3412 rfl ml_L_388 (law_mod g A a v u E1 M z1 zd) (law_mod1 g A a v u E1 z1 zd) [] rfl rfl rfl 0 9 rfl rfl ⟨Nat.le_of_ble_eq_true rfl, Nat.le_of_ble_eq_true rfl⟩ (Nat.le_of_ble_eq_true rfl) ⟨by omega, by omega⟩ (fun bx M1 h => ?_)
  refine g_istore (lv2 := [(7, .int bx), (6, .int kx), (0, .ref b), (1, .ref (A 0 0)), (2, .ref (a 0)), (3, .ref u), (4, .ref v), (5, .int i)]) hC dL_law_3412 3414 rfl (by decide) rfl ?_
  refine g_aload_n hC dL_law_3414 3415 rfl rfl 4 rfl ?_
  refine g_readV hC (ct_X5_thrown l g a M1 _ h) gY_X5_thrown dL_law_3415 3418 rfl ml_L_203 _ _ (law_mod g A a v u E1 M1 z1 zd) [] rfl rfl rfl 0 9 rfl rfl ⟨Nat.le_of_ble_eq_true rfl, Nat.le_of_ble_eq_true rfl⟩ (Nat.le_of_ble_eq_true rfl) ⟨by omega, by omega⟩ (fun t h => ?_)
  refine g_iload hC dL_law_3418 3420 rfl 1 rfl ?_
  obtain ⟨h9, h⟩ := h
  refine g_icmp_eq hC dL_law_3420 3425 (by decide) 3423 rfl (fun _ => ?_) (fun c9 => absurd h9 c9)
  refine g_iload hC dL_law_3425 3427 rfl 1 rfl ?_
  obtain ⟨hz9, hK9⟩ := h
  refine g_if_ne hC dL_law_3427 3442 (by decide) 3430 rfl (fun _ => ?_) (fun c9 => ?_)
  · skip
    refine g_goto hC dL_law_3442 3590 (by decide) ?_
    refine g_lv (lv2 := [(0, .ref b), (1, .ref (A 0 0)), (2, .ref (a 0)), (3, .ref u), (4, .ref v), (5, .int i)]) [2, 3, 4, 5, 6, 7] rfl ?_
    refine g_widen (k2 := k + 8) (n2 := n + 48) (by omega) (by omega) ?_
    exact hK _ _ _ _ hK9
  · have hz9 := hz9 c9
    refine g_aload_n hC dL_law_3430 3431 rfl rfl 5 rfl ?_
    refine g_iconst hC (0 : Int32) dL_law_3431 3432 rfl iconst_0 ?_
    refine g_lald hC dL_law_3432 3433 rfl 11 rfl (vp_in_d (by decide)) ?_
    refine g_iload hC dL_law_3433 3435 rfl 0 rfl ?_
    refine g_i2l hC dL_law_3435 3436 rfl ?_
    refine g_lcmp hC dL_law_3436 3437 rfl ?_
    refine g_if_eq hC dL_law_3437 3442 (by decide) 3440 rfl (fun _ => ?_) (fun c7 => absurd hz9 c7)
    refine g_goto hC dL_law_3442 3590 (by decide) ?_
    refine g_lv (lv2 := [(0, .ref b), (1, .ref (A 0 0)), (2, .ref (a 0)), (3, .ref u), (4, .ref v), (5, .int i)]) [2, 3, 4, 5, 6, 7] rfl ?_
    refine g_widen (k2 := k + 8) (n2 := n + 48) (by omega) (by omega) ?_
    exact hK _ _ _ _ hK9
def wc_57 (K : lwK) (E M : Off) (z : Nat → Int64) (zd : Nat → UInt64) (a1 a2 a3 : Int32) : Prop := ww_causeReason (fun kx E1 z1 => wp_X5_causeReason (fun bx M1 => wp_X5_thrown (fun t => (t = kx ∧ ((kx = 0 → lg_cmp (z1 (0 : Int32).toNatClampNeg) (bx).toInt64 = 0) ∧ K E1 M1 z1 zd))) M1) M ) E z 
set_option maxRecDepth 100000 in
set_option maxHeartbeats 4000000 in
theorem cs_57 {x : gX} {l : Launch} {g : gE} {A : Nat → Nat → Nat} {a : Nat → Nat} {v u b L : Nat} {xs : Nat → Int32} (hC : gC x l cL_law 9 RL g 2048 94400 603072 7207018) (hNw : gNw (x_s x)) (hst : l.stackTraces = false) (hS : gScr x b L xs) {K : lwK} {i : Int32} (h1 : vp_in (i + 1) L) (h2 : vp_in (i + 2) L) (h3 : vp_in (i + 3) L) {k n : Nat} (hk : k + 8 ≤ 603072) (hn : n + 48 ≤ 7207018) (hK : ∀ (E M : Off) (z : Nat → Int64) (zd : Nat → UInt64), K E M z zd → G x g 9 (k + 8) (n + 48) (lawW g A a v u E M z zd) 3590 [(0, .ref b), (1, .ref (A 0 0)), (2, .ref (a 0)), (3, .ref u), (4, .ref v), (5, .int i)] []) {E M : Off} {z : Nat → Int64} {zd : Nat → UInt64} (h : wc_57 K E M z zd (xs (i + 1).toNatClampNeg) (xs (i + 2).toNatClampNeg) (xs (i + 3).toNatClampNeg)) : G x g 9 k n (lawW g A a v u E M z zd) 3445 [(0, .ref b), (1, .ref (A 0 0)), (2, .ref (a 0)), (3, .ref u), (4, .ref v), (5, .int i)] [] := by
  unfold wc_57 at h
  refine g_aload_n hC dL_law_3445 3446 rfl rfl 1 rfl ?_
  refine g_aload_n hC dL_law_3446 3447 rfl rfl 3 rfl ?_
  refine g_callW hC hNw hst (cw_causeReason l g A u E z  _ h) gY_L_causeReason dL_law_3447 3450 rfl ml_L_389 _ _ (law_out g A a v u E M z zd) [] rfl rfl ⟨Nat.le_of_ble_eq_true rfl, Nat.le_of_ble_eq_true rfl⟩ (Nat.le_of_ble_eq_true rfl) ⟨by omega, by omega⟩ ?_
  rintro r w1 ⟨kx, E1, z1, rfl, rfl, h⟩
  rw [law_out1]
  show G x g 9 (k + 1) (n + 6) (lawW g A a v u E1 M z1 zd) 3450 [(0, .ref b), (1, .ref (A 0 0)), (2, .ref (a 0)), (3, .ref u), (4, .ref v), (5, .int i)] [.int kx]
  refine g_istore (lv2 := [(6, .int kx), (0, .ref b), (1, .ref (A 0 0)), (2, .ref (a 0)), (3, .ref u), (4, .ref v), (5, .int i)]) hC dL_law_3450 3452 rfl (by decide) rfl ?_
  refine g_aload_n hC dL_law_3452 3453 rfl rfl 3 rfl ?_
  refine g_subI hC (ct_X5_causeReason l g a M  _ h) gY_X5_causeReason dL_law_3453 3456 rfl ml_L_391 (law_mod g A a v u E1 M z1 zd) (law_mod1 g A a v u E1 z1 zd) [] rfl rfl rfl 0 9 rfl rfl ⟨Nat.le_of_ble_eq_true rfl, Nat.le_of_ble_eq_true rfl⟩ (Nat.le_of_ble_eq_true rfl) ⟨by omega, by omega⟩ (fun bx M1 h => ?_)
  refine g_istore (lv2 := [(7, .int bx), (6, .int kx), (0, .ref b), (1, .ref (A 0 0)), (2, .ref (a 0)), (3, .ref u), (4, .ref v), (5, .int i)]) hC dL_law_3456 3458 rfl (by decide) rfl ?_
  refine g_aload_n hC dL_law_3458 3459 rfl rfl 4 rfl ?_
  refine g_readV hC (ct_X5_thrown l g a M1 _ h) gY_X5_thrown dL_law_3459 3462 rfl ml_L_203 _ _ (law_mod g A a v u E1 M1 z1 zd) [] rfl rfl rfl 0 9 rfl rfl ⟨Nat.le_of_ble_eq_true rfl, Nat.le_of_ble_eq_true rfl⟩ (Nat.le_of_ble_eq_true rfl) ⟨by omega, by omega⟩ (fun t h => ?_)
  refine g_iload hC dL_law_3462 3464 rfl 1 rfl ?_
  obtain ⟨h9, h⟩ := h
  refine g_icmp_eq hC dL_law_3464 3469 (by decide) 3467 rfl (fun _ => ?_) (fun c9 => absurd h9 c9)
  refine g_iload hC dL_law_3469 3471 rfl 1 rfl ?_
  obtain ⟨hz9, hK9⟩ := h
  refine g_if_ne hC dL_law_3471 3486 (by decide) 3474 rfl (fun _ => ?_) (fun c9 => ?_)
  · skip
    refine g_goto hC dL_law_3486 3590 (by decide) ?_
    refine g_lv (lv2 := [(0, .ref b), (1, .ref (A 0 0)), (2, .ref (a 0)), (3, .ref u), (4, .ref v), (5, .int i)]) [2, 3, 4, 5, 6, 7] rfl ?_
    refine g_widen (k2 := k + 8) (n2 := n + 48) (by omega) (by omega) ?_
    exact hK _ _ _ _ hK9
  · have hz9 := hz9 c9
    refine g_aload_n hC dL_law_3474 3475 rfl rfl 5 rfl ?_
    refine g_iconst hC (0 : Int32) dL_law_3475 3476 rfl iconst_0 ?_
    refine g_lald hC dL_law_3476 3477 rfl 11 rfl (vp_in_d (by decide)) ?_
    refine g_iload hC dL_law_3477 3479 rfl 0 rfl ?_
    refine g_i2l hC dL_law_3479 3480 rfl ?_
    refine g_lcmp hC dL_law_3480 3481 rfl ?_
    refine g_if_eq hC dL_law_3481 3486 (by decide) 3484 rfl (fun _ => ?_) (fun c7 => absurd hz9 c7)
    refine g_goto hC dL_law_3486 3590 (by decide) ?_
    refine g_lv (lv2 := [(0, .ref b), (1, .ref (A 0 0)), (2, .ref (a 0)), (3, .ref u), (4, .ref v), (5, .int i)]) [2, 3, 4, 5, 6, 7] rfl ?_
    refine g_widen (k2 := k + 8) (n2 := n + 48) (by omega) (by omega) ?_
    exact hK _ _ _ _ hK9
def wc_58 (K : lwK) (E M : Off) (z : Nat → Int64) (zd : Nat → UInt64) (a1 a2 a3 : Int32) : Prop := ww_undo (fun kx E1 z1 => wp_X5_undo (fun bx M1 => wp_X5_thrown (fun t => (t = kx ∧ ((kx = 0 → lg_cmp (z1 (0 : Int32).toNatClampNeg) (bx).toInt64 = 0) ∧ K E1 M1 z1 zd))) M1) M ) E z 
set_option maxRecDepth 100000 in
set_option maxHeartbeats 4000000 in
theorem cs_58 {x : gX} {l : Launch} {g : gE} {A : Nat → Nat → Nat} {a : Nat → Nat} {v u b L : Nat} {xs : Nat → Int32} (hC : gC x l cL_law 9 RL g 2048 94400 603072 7207018) (hNw : gNw (x_s x)) (hst : l.stackTraces = false) (hS : gScr x b L xs) {K : lwK} {i : Int32} (h1 : vp_in (i + 1) L) (h2 : vp_in (i + 2) L) (h3 : vp_in (i + 3) L) {k n : Nat} (hk : k + 8 ≤ 603072) (hn : n + 48 ≤ 7207018) (hK : ∀ (E M : Off) (z : Nat → Int64) (zd : Nat → UInt64), K E M z zd → G x g 9 (k + 8) (n + 48) (lawW g A a v u E M z zd) 3590 [(0, .ref b), (1, .ref (A 0 0)), (2, .ref (a 0)), (3, .ref u), (4, .ref v), (5, .int i)] []) {E M : Off} {z : Nat → Int64} {zd : Nat → UInt64} (h : wc_58 K E M z zd (xs (i + 1).toNatClampNeg) (xs (i + 2).toNatClampNeg) (xs (i + 3).toNatClampNeg)) : G x g 9 k n (lawW g A a v u E M z zd) 3489 [(0, .ref b), (1, .ref (A 0 0)), (2, .ref (a 0)), (3, .ref u), (4, .ref v), (5, .int i)] [] := by
  unfold wc_58 at h
  refine g_aload_n hC dL_law_3489 3490 rfl rfl 1 rfl ?_
  refine g_aload_n hC dL_law_3490 3491 rfl rfl 3 rfl ?_
  refine g_callW hC hNw hst (cw_undo l g A u E z  _ h) gY_L_undo dL_law_3491 3494 rfl ml_L_392 _ _ (law_out g A a v u E M z zd) [] rfl rfl ⟨Nat.le_of_ble_eq_true rfl, Nat.le_of_ble_eq_true rfl⟩ (Nat.le_of_ble_eq_true rfl) ⟨by omega, by omega⟩ ?_
  rintro r w1 ⟨kx, E1, z1, rfl, rfl, h⟩
  rw [law_out1]
  show G x g 9 (k + 1) (n + 6) (lawW g A a v u E1 M z1 zd) 3494 [(0, .ref b), (1, .ref (A 0 0)), (2, .ref (a 0)), (3, .ref u), (4, .ref v), (5, .int i)] [.int kx]
  refine g_istore (lv2 := [(6, .int kx), (0, .ref b), (1, .ref (A 0 0)), (2, .ref (a 0)), (3, .ref u), (4, .ref v), (5, .int i)]) hC dL_law_3494 3496 rfl (by decide) rfl ?_
  refine g_aload_n hC dL_law_3496 3497 rfl rfl 3 rfl ?_
  refine g_subI hC (ct_X5_undo l g a M  _ h) gY_X5_undo dL_law_3497 3500 rfl ml_L_394 (law_mod g A a v u E1 M z1 zd) (law_mod1 g A a v u E1 z1 zd) [] rfl rfl rfl 0 9 rfl rfl ⟨Nat.le_of_ble_eq_true rfl, Nat.le_of_ble_eq_true rfl⟩ (Nat.le_of_ble_eq_true rfl) ⟨by omega, by omega⟩ (fun bx M1 h => ?_)
  refine g_istore (lv2 := [(7, .int bx), (6, .int kx), (0, .ref b), (1, .ref (A 0 0)), (2, .ref (a 0)), (3, .ref u), (4, .ref v), (5, .int i)]) hC dL_law_3500 3502 rfl (by decide) rfl ?_
  refine g_aload_n hC dL_law_3502 3503 rfl rfl 4 rfl ?_
  refine g_readV hC (ct_X5_thrown l g a M1 _ h) gY_X5_thrown dL_law_3503 3506 rfl ml_L_203 _ _ (law_mod g A a v u E1 M1 z1 zd) [] rfl rfl rfl 0 9 rfl rfl ⟨Nat.le_of_ble_eq_true rfl, Nat.le_of_ble_eq_true rfl⟩ (Nat.le_of_ble_eq_true rfl) ⟨by omega, by omega⟩ (fun t h => ?_)
  refine g_iload hC dL_law_3506 3508 rfl 1 rfl ?_
  obtain ⟨h9, h⟩ := h
  refine g_icmp_eq hC dL_law_3508 3513 (by decide) 3511 rfl (fun _ => ?_) (fun c9 => absurd h9 c9)
  refine g_iload hC dL_law_3513 3515 rfl 1 rfl ?_
  obtain ⟨hz9, hK9⟩ := h
  refine g_if_ne hC dL_law_3515 3530 (by decide) 3518 rfl (fun _ => ?_) (fun c9 => ?_)
  · skip
    refine g_goto hC dL_law_3530 3590 (by decide) ?_
    refine g_lv (lv2 := [(0, .ref b), (1, .ref (A 0 0)), (2, .ref (a 0)), (3, .ref u), (4, .ref v), (5, .int i)]) [2, 3, 4, 5, 6, 7] rfl ?_
    refine g_widen (k2 := k + 8) (n2 := n + 48) (by omega) (by omega) ?_
    exact hK _ _ _ _ hK9
  · have hz9 := hz9 c9
    refine g_aload_n hC dL_law_3518 3519 rfl rfl 5 rfl ?_
    refine g_iconst hC (0 : Int32) dL_law_3519 3520 rfl iconst_0 ?_
    refine g_lald hC dL_law_3520 3521 rfl 11 rfl (vp_in_d (by decide)) ?_
    refine g_iload hC dL_law_3521 3523 rfl 0 rfl ?_
    refine g_i2l hC dL_law_3523 3524 rfl ?_
    refine g_lcmp hC dL_law_3524 3525 rfl ?_
    refine g_if_eq hC dL_law_3525 3530 (by decide) 3528 rfl (fun _ => ?_) (fun c7 => absurd hz9 c7)
    refine g_goto hC dL_law_3530 3590 (by decide) ?_
    refine g_lv (lv2 := [(0, .ref b), (1, .ref (A 0 0)), (2, .ref (a 0)), (3, .ref u), (4, .ref v), (5, .int i)]) [2, 3, 4, 5, 6, 7] rfl ?_
    refine g_widen (k2 := k + 8) (n2 := n + 48) (by omega) (by omega) ?_
    exact hK _ _ _ _ hK9
def wc_59 (K : lwK) (E M : Off) (z : Nat → Int64) (zd : Nat → UInt64) (a1 a2 a3 : Int32) : Prop := wp_X4_saveSnapshot (fun kx E1 => wp_X5_saveSnapshot (fun bx M1 => (kx = bx ∧ K E1 M1 z zd)) M ) E
set_option maxRecDepth 100000 in
set_option maxHeartbeats 4000000 in
theorem cs_59 {x : gX} {l : Launch} {g : gE} {A : Nat → Nat → Nat} {a : Nat → Nat} {v u b L : Nat} {xs : Nat → Int32} (hC : gC x l cL_law 9 RL g 2048 94400 603072 7207018) (hNw : gNw (x_s x)) (hst : l.stackTraces = false) (hS : gScr x b L xs) {K : lwK} {i : Int32} (h1 : vp_in (i + 1) L) (h2 : vp_in (i + 2) L) (h3 : vp_in (i + 3) L) {k n : Nat} (hk : k + 8 ≤ 603072) (hn : n + 48 ≤ 7207018) (hK : ∀ (E M : Off) (z : Nat → Int64) (zd : Nat → UInt64), K E M z zd → G x g 9 (k + 8) (n + 48) (lawW g A a v u E M z zd) 3590 [(0, .ref b), (1, .ref (A 0 0)), (2, .ref (a 0)), (3, .ref u), (4, .ref v), (5, .int i)] []) {E M : Off} {z : Nat → Int64} {zd : Nat → UInt64} (h : wc_59 K E M z zd (xs (i + 1).toNatClampNeg) (xs (i + 2).toNatClampNeg) (xs (i + 3).toNatClampNeg)) : G x g 9 k n (lawW g A a v u E M z zd) 3533 [(0, .ref b), (1, .ref (A 0 0)), (2, .ref (a 0)), (3, .ref u), (4, .ref v), (5, .int i)] [] := by
  unfold wc_59 at h
  refine g_aload_n hC dL_law_3533 3534 rfl rfl 1 rfl ?_
  refine g_subI hC (ct_X4_saveSnapshot l g A E _ h) gY_X4_saveSnapshot dL_law_3534 3537 rfl ml_L_395 (law_emb g A a v u E M z zd) (law_emb1 g A a v u M z zd) [] rfl rfl rfl 0 8 rfl rfl ⟨Nat.le_of_ble_eq_true rfl, Nat.le_of_ble_eq_true rfl⟩ (Nat.le_of_ble_eq_true rfl) ⟨by omega, by omega⟩ (fun kx E1 h => ?_)
  refine g_aload_n hC dL_law_3537 3538 rfl rfl 2 rfl ?_
  refine g_subI hC (ct_X5_saveSnapshot l g a M  _ h) gY_X5_saveSnapshot dL_law_3538 3541 rfl ml_L_398 (law_mod g A a v u E1 M z zd) (law_mod1 g A a v u E1 z zd) [.int kx] rfl rfl rfl 0 9 rfl rfl ⟨Nat.le_of_ble_eq_true rfl, Nat.le_of_ble_eq_true rfl⟩ (Nat.le_of_ble_eq_true rfl) ⟨by omega, by omega⟩ (fun bx M1 h => ?_)
  obtain ⟨h9, h⟩ := h
  refine g_icmp_eq hC dL_law_3541 3590 (by decide) 3544 rfl (fun _ => ?_) (fun c9 => absurd h9 c9)
  refine g_widen (k2 := k + 8) (n2 := n + 48) (by omega) (by omega) ?_
  exact hK _ _ _ _ h
def wc_60 (K : lwK) (E M : Off) (z : Nat → Int64) (zd : Nat → UInt64) (a1 a2 a3 : Int32) : Prop := ww_restoreSnapshot (fun kx E1 z1 => wp_X5_restoreSnapshot (fun bx M1 => wp_X5_thrown (fun t => (t = kx ∧ ((kx = 0 → lg_cmp (z1 (0 : Int32).toNatClampNeg) (bx).toInt64 = 0) ∧ K E1 M1 z1 zd))) M1) M ) E z 
set_option maxRecDepth 100000 in
set_option maxHeartbeats 4000000 in
theorem cs_60 {x : gX} {l : Launch} {g : gE} {A : Nat → Nat → Nat} {a : Nat → Nat} {v u b L : Nat} {xs : Nat → Int32} (hC : gC x l cL_law 9 RL g 2048 94400 603072 7207018) (hNw : gNw (x_s x)) (hst : l.stackTraces = false) (hS : gScr x b L xs) {K : lwK} {i : Int32} (h1 : vp_in (i + 1) L) (h2 : vp_in (i + 2) L) (h3 : vp_in (i + 3) L) {k n : Nat} (hk : k + 8 ≤ 603072) (hn : n + 48 ≤ 7207018) (hK : ∀ (E M : Off) (z : Nat → Int64) (zd : Nat → UInt64), K E M z zd → G x g 9 (k + 8) (n + 48) (lawW g A a v u E M z zd) 3590 [(0, .ref b), (1, .ref (A 0 0)), (2, .ref (a 0)), (3, .ref u), (4, .ref v), (5, .int i)] []) {E M : Off} {z : Nat → Int64} {zd : Nat → UInt64} (h : wc_60 K E M z zd (xs (i + 1).toNatClampNeg) (xs (i + 2).toNatClampNeg) (xs (i + 3).toNatClampNeg)) : G x g 9 k n (lawW g A a v u E M z zd) 3546 [(0, .ref b), (1, .ref (A 0 0)), (2, .ref (a 0)), (3, .ref u), (4, .ref v), (5, .int i)] [] := by
  unfold wc_60 at h
  refine g_aload_n hC dL_law_3546 3547 rfl rfl 1 rfl ?_
  refine g_aload_n hC dL_law_3547 3548 rfl rfl 3 rfl ?_
  refine g_callW hC hNw hst (cw_restoreSnapshot l g A u E z  _ h) gY_L_restoreSnapshot dL_law_3548 3551 rfl ml_L_399 _ _ (law_out g A a v u E M z zd) [] rfl rfl ⟨Nat.le_of_ble_eq_true rfl, Nat.le_of_ble_eq_true rfl⟩ (Nat.le_of_ble_eq_true rfl) ⟨by omega, by omega⟩ ?_
  rintro r w1 ⟨kx, E1, z1, rfl, rfl, h⟩
  rw [law_out1]
  show G x g 9 (k + 1) (n + 6) (lawW g A a v u E1 M z1 zd) 3551 [(0, .ref b), (1, .ref (A 0 0)), (2, .ref (a 0)), (3, .ref u), (4, .ref v), (5, .int i)] [.int kx]
  refine g_istore (lv2 := [(6, .int kx), (0, .ref b), (1, .ref (A 0 0)), (2, .ref (a 0)), (3, .ref u), (4, .ref v), (5, .int i)]) hC dL_law_3551 3553 rfl (by decide) rfl ?_
  refine g_aload_n hC dL_law_3553 3554 rfl rfl 3 rfl ?_
  refine g_subI hC (ct_X5_restoreSnapshot l g a M  _ h) gY_X5_restoreSnapshot dL_law_3554 3557 rfl ml_L_401 (law_mod g A a v u E1 M z1 zd) (law_mod1 g A a v u E1 z1 zd) [] rfl rfl rfl 0 9 rfl rfl ⟨Nat.le_of_ble_eq_true rfl, Nat.le_of_ble_eq_true rfl⟩ (Nat.le_of_ble_eq_true rfl) ⟨by omega, by omega⟩ (fun bx M1 h => ?_)
  refine g_istore (lv2 := [(7, .int bx), (6, .int kx), (0, .ref b), (1, .ref (A 0 0)), (2, .ref (a 0)), (3, .ref u), (4, .ref v), (5, .int i)]) hC dL_law_3557 3559 rfl (by decide) rfl ?_
  refine g_aload_n hC dL_law_3559 3560 rfl rfl 4 rfl ?_
  refine g_readV hC (ct_X5_thrown l g a M1 _ h) gY_X5_thrown dL_law_3560 3563 rfl ml_L_203 _ _ (law_mod g A a v u E1 M1 z1 zd) [] rfl rfl rfl 0 9 rfl rfl ⟨Nat.le_of_ble_eq_true rfl, Nat.le_of_ble_eq_true rfl⟩ (Nat.le_of_ble_eq_true rfl) ⟨by omega, by omega⟩ (fun t h => ?_)
  refine g_iload hC dL_law_3563 3565 rfl 1 rfl ?_
  obtain ⟨h9, h⟩ := h
  refine g_icmp_eq hC dL_law_3565 3570 (by decide) 3568 rfl (fun _ => ?_) (fun c9 => absurd h9 c9)
  refine g_iload hC dL_law_3570 3572 rfl 1 rfl ?_
  obtain ⟨hz9, hK9⟩ := h
  refine g_if_ne hC dL_law_3572 3587 (by decide) 3575 rfl (fun _ => ?_) (fun c9 => ?_)
  · skip
    refine g_goto hC dL_law_3587 3590 (by decide) ?_
    refine g_lv (lv2 := [(0, .ref b), (1, .ref (A 0 0)), (2, .ref (a 0)), (3, .ref u), (4, .ref v), (5, .int i)]) [2, 3, 4, 5, 6, 7] rfl ?_
    refine g_widen (k2 := k + 8) (n2 := n + 48) (by omega) (by omega) ?_
    exact hK _ _ _ _ hK9
  · have hz9 := hz9 c9
    refine g_aload_n hC dL_law_3575 3576 rfl rfl 5 rfl ?_
    refine g_iconst hC (0 : Int32) dL_law_3576 3577 rfl iconst_0 ?_
    refine g_lald hC dL_law_3577 3578 rfl 11 rfl (vp_in_d (by decide)) ?_
    refine g_iload hC dL_law_3578 3580 rfl 0 rfl ?_
    refine g_i2l hC dL_law_3580 3581 rfl ?_
    refine g_lcmp hC dL_law_3581 3582 rfl ?_
    refine g_if_eq hC dL_law_3582 3587 (by decide) 3585 rfl (fun _ => ?_) (fun c7 => absurd hz9 c7)
    refine g_goto hC dL_law_3587 3590 (by decide) ?_
    refine g_lv (lv2 := [(0, .ref b), (1, .ref (A 0 0)), (2, .ref (a 0)), (3, .ref u), (4, .ref v), (5, .int i)]) [2, 3, 4, 5, 6, 7] rfl ?_
    refine g_widen (k2 := k + 8) (n2 := n + 48) (by omega) (by omega) ?_
    exact hK _ _ _ _ hK9
/-- what one call asks -/
def stepW (K : lwK) (E M : Off) (z : Nat → Int64) (zd : Nat → UInt64) (op a1 a2 a3 : Int32) : Prop :=
  (op = 0 → wc_0 K E M z zd a1 a2 a3) ∧
  (op = 1 → wc_1 K E M z zd a1 a2 a3) ∧
  (op = 2 → wc_2 K E M z zd a1 a2 a3) ∧
  (op = 3 → wc_3 K E M z zd a1 a2 a3) ∧
  (op = 4 → wc_4 K E M z zd a1 a2 a3) ∧
  (op = 5 → wc_5 K E M z zd a1 a2 a3) ∧
  (op = 6 → wc_6 K E M z zd a1 a2 a3) ∧
  (op = 7 → wc_7 K E M z zd a1 a2 a3) ∧
  (op = 8 → wc_8 K E M z zd a1 a2 a3) ∧
  (op = 9 → wc_9 K E M z zd a1 a2 a3) ∧
  (op = 10 → wc_10 K E M z zd a1 a2 a3) ∧
  (op = 11 → wc_11 K E M z zd a1 a2 a3) ∧
  (op = 12 → wc_12 K E M z zd a1 a2 a3) ∧
  (op = 13 → wc_13 K E M z zd a1 a2 a3) ∧
  (op = 14 → wc_14 K E M z zd a1 a2 a3) ∧
  (op = 15 → wc_15 K E M z zd a1 a2 a3) ∧
  (op = 16 → wc_16 K E M z zd a1 a2 a3) ∧
  (op = 17 → wc_17 K E M z zd a1 a2 a3) ∧
  (op = 18 → wc_18 K E M z zd a1 a2 a3) ∧
  (op = 19 → wc_19 K E M z zd a1 a2 a3) ∧
  (op = 20 → wc_20 K E M z zd a1 a2 a3) ∧
  (op = 21 → wc_21 K E M z zd a1 a2 a3) ∧
  (op = 22 → wc_22 K E M z zd a1 a2 a3) ∧
  (op = 23 → wc_23 K E M z zd a1 a2 a3) ∧
  (op = 24 → wc_24 K E M z zd a1 a2 a3) ∧
  (op = 25 → wc_25 K E M z zd a1 a2 a3) ∧
  (op = 26 → wc_26 K E M z zd a1 a2 a3) ∧
  (op = 27 → wc_27 K E M z zd a1 a2 a3) ∧
  (op = 28 → wc_28 K E M z zd a1 a2 a3) ∧
  (op = 29 → wc_29 K E M z zd a1 a2 a3) ∧
  (op = 30 → wc_30 K E M z zd a1 a2 a3) ∧
  (op = 31 → wc_31 K E M z zd a1 a2 a3) ∧
  (op = 32 → wc_32 K E M z zd a1 a2 a3) ∧
  (op = 33 → wc_33 K E M z zd a1 a2 a3) ∧
  (op = 34 → wc_34 K E M z zd a1 a2 a3) ∧
  (op = 35 → wc_35 K E M z zd a1 a2 a3) ∧
  (op = 36 → wc_36 K E M z zd a1 a2 a3) ∧
  (op = 37 → wc_37 K E M z zd a1 a2 a3) ∧
  (op = 38 → wc_38 K E M z zd a1 a2 a3) ∧
  (op = 39 → wc_39 K E M z zd a1 a2 a3) ∧
  (op = 40 → wc_40 K E M z zd a1 a2 a3) ∧
  (op = 41 → wc_41 K E M z zd a1 a2 a3) ∧
  (op = 42 → wc_42 K E M z zd a1 a2 a3) ∧
  (op = 43 → wc_43 K E M z zd a1 a2 a3) ∧
  (op = 44 → wc_44 K E M z zd a1 a2 a3) ∧
  (op = 45 → wc_45 K E M z zd a1 a2 a3) ∧
  (op = 46 → wc_46 K E M z zd a1 a2 a3) ∧
  (op = 47 → wc_47 K E M z zd a1 a2 a3) ∧
  (op = 48 → wc_48 K E M z zd a1 a2 a3) ∧
  (op = 49 → wc_49 K E M z zd a1 a2 a3) ∧
  (op = 50 → wc_50 K E M z zd a1 a2 a3) ∧
  (op = 51 → wc_51 K E M z zd a1 a2 a3) ∧
  (op = 52 → wc_52 K E M z zd a1 a2 a3) ∧
  (op = 53 → wc_53 K E M z zd a1 a2 a3) ∧
  (op = 54 → wc_54 K E M z zd a1 a2 a3) ∧
  (op = 55 → wc_55 K E M z zd a1 a2 a3) ∧
  (op = 56 → wc_56 K E M z zd a1 a2 a3) ∧
  (op = 57 → wc_57 K E M z zd a1 a2 a3) ∧
  (op = 58 → wc_58 K E M z zd a1 a2 a3) ∧
  (op = 59 → wc_59 K E M z zd a1 a2 a3) ∧
  (op = 60 → wc_60 K E M z zd a1 a2 a3) ∧
  ((op.toInt < 0 ∨ 60 < op.toInt) → K E M z zd)
set_option maxRecDepth 100000 in
set_option maxHeartbeats 4000000 in
theorem cs_sw {x : gX} {l : Launch} {g : gE} {A : Nat → Nat → Nat} {a : Nat → Nat} {v u b L : Nat} {xs : Nat → Int32} (hC : gC x l cL_law 9 RL g 2048 94400 603072 7207018) (hNw : gNw (x_s x)) (hst : l.stackTraces = false) (hS : gScr x b L xs) {K : lwK} {i : Int32} (h1 : vp_in (i + 1) L) (h2 : vp_in (i + 2) L) (h3 : vp_in (i + 3) L) {k n : Nat} (hk : k + 8 ≤ 603072) (hn : n + 48 ≤ 7207018) (hK : ∀ (E M : Off) (z : Nat → Int64) (zd : Nat → UInt64), K E M z zd → G x g 9 (k + 8) (n + 48) (lawW g A a v u E M z zd) 3590 [(0, .ref b), (1, .ref (A 0 0)), (2, .ref (a 0)), (3, .ref u), (4, .ref v), (5, .int i)] []) {E M : Off} {z : Nat → Int64} {zd : Nat → UInt64} {op : Int32} (h : stepW K E M z zd op (xs (i + 1).toNatClampNeg) (xs (i + 2).toNatClampNeg) (xs (i + 3).toNatClampNeg)) : G x g 9 k n (lawW g A a v u E M z zd) 44 [(0, .ref b), (1, .ref (A 0 0)), (2, .ref (a 0)), (3, .ref u), (4, .ref v), (5, .int i)] [.int op] := by
  unfold stepW at h
  obtain ⟨q0, h⟩ := h
  by_cases c0 : op = 0
  · refine g_tableIn hC dL_law_44 (by rw [c0]; decide) (by rw [c0]; decide) (off := 260) (by rw [c0]; rfl) 304 (by decide) ?_
    exact cs_0 hC hNw hst hS h1 h2 h3 hk hn hK (q0 c0)
  obtain ⟨q1, h⟩ := h
  by_cases c1 : op = 1
  · refine g_tableIn hC dL_law_44 (by rw [c1]; decide) (by rw [c1]; decide) (off := 330) (by rw [c1]; rfl) 374 (by decide) ?_
    exact cs_1 hC hNw hst hS h1 h2 h3 hk hn hK (q1 c1)
  obtain ⟨q2, h⟩ := h
  by_cases c2 : op = 2
  · refine g_tableIn hC dL_law_44 (by rw [c2]; decide) (by rw [c2]; decide) (off := 343) (by rw [c2]; rfl) 387 (by decide) ?_
    exact cs_2 hC hNw hst hS h1 h2 h3 hk hn hK (q2 c2)
  obtain ⟨q3, h⟩ := h
  by_cases c3 : op = 3
  · refine g_tableIn hC dL_law_44 (by rw [c3]; decide) (by rw [c3]; decide) (off := 399) (by rw [c3]; rfl) 443 (by decide) ?_
    exact cs_3 hC hNw hst hS h1 h2 h3 hk hn hK (q3 c3)
  obtain ⟨q4, h⟩ := h
  by_cases c4 : op = 4
  · refine g_tableIn hC dL_law_44 (by rw [c4]; decide) (by rw [c4]; decide) (off := 455) (by rw [c4]; rfl) 499 (by decide) ?_
    exact cs_4 hC hNw hst hS h1 h2 h3 hk hn hK (q4 c4)
  obtain ⟨q5, h⟩ := h
  by_cases c5 : op = 5
  · refine g_tableIn hC dL_law_44 (by rw [c5]; decide) (by rw [c5]; decide) (off := 518) (by rw [c5]; rfl) 562 (by decide) ?_
    exact cs_5 hC hNw hst hS h1 h2 h3 hk hn hK (q5 c5)
  obtain ⟨q6, h⟩ := h
  by_cases c6 : op = 6
  · refine g_tableIn hC dL_law_44 (by rw [c6]; decide) (by rw [c6]; decide) (off := 581) (by rw [c6]; rfl) 625 (by decide) ?_
    exact cs_6 hC hNw hst hS h1 h2 h3 hk hn hK (q6 c6)
  obtain ⟨q7, h⟩ := h
  by_cases c7 : op = 7
  · refine g_tableIn hC dL_law_44 (by rw [c7]; decide) (by rw [c7]; decide) (off := 644) (by rw [c7]; rfl) 688 (by decide) ?_
    exact cs_7 hC hNw hst hS h1 h2 h3 hk hn hK (q7 c7)
  obtain ⟨q8, h⟩ := h
  by_cases c8 : op = 8
  · refine g_tableIn hC dL_law_44 (by rw [c8]; decide) (by rw [c8]; decide) (off := 707) (by rw [c8]; rfl) 751 (by decide) ?_
    exact cs_8 hC hNw hst hS h1 h2 h3 hk hn hK (q8 c8)
  obtain ⟨q9, h⟩ := h
  by_cases c9 : op = 9
  · refine g_tableIn hC dL_law_44 (by rw [c9]; decide) (by rw [c9]; decide) (off := 763) (by rw [c9]; rfl) 807 (by decide) ?_
    exact cs_9 hC hNw hst hS h1 h2 h3 hk hn hK (q9 c9)
  obtain ⟨q10, h⟩ := h
  by_cases c10 : op = 10
  · refine g_tableIn hC dL_law_44 (by rw [c10]; decide) (by rw [c10]; decide) (off := 819) (by rw [c10]; rfl) 863 (by decide) ?_
    exact cs_10 hC hNw hst hS h1 h2 h3 hk hn hK (q10 c10)
  obtain ⟨q11, h⟩ := h
  by_cases c11 : op = 11
  · refine g_tableIn hC dL_law_44 (by rw [c11]; decide) (by rw [c11]; decide) (off := 875) (by rw [c11]; rfl) 919 (by decide) ?_
    exact cs_11 hC hNw hst hS h1 h2 h3 hk hn hK (q11 c11)
  obtain ⟨q12, h⟩ := h
  by_cases c12 : op = 12
  · refine g_tableIn hC dL_law_44 (by rw [c12]; decide) (by rw [c12]; decide) (off := 931) (by rw [c12]; rfl) 975 (by decide) ?_
    exact cs_12 hC hNw hst hS h1 h2 h3 hk hn hK (q12 c12)
  obtain ⟨q13, h⟩ := h
  by_cases c13 : op = 13
  · refine g_tableIn hC dL_law_44 (by rw [c13]; decide) (by rw [c13]; decide) (off := 1006) (by rw [c13]; rfl) 1050 (by decide) ?_
    exact cs_13 hC hNw hst hS h1 h2 h3 hk hn hK (q13 c13)
  obtain ⟨q14, h⟩ := h
  by_cases c14 : op = 14
  · refine g_tableIn hC dL_law_44 (by rw [c14]; decide) (by rw [c14]; decide) (off := 1074) (by rw [c14]; rfl) 1118 (by decide) ?_
    exact cs_14 hC hNw hst hS h1 h2 h3 hk hn hK (q14 c14)
  obtain ⟨q15, h⟩ := h
  by_cases c15 : op = 15
  · refine g_tableIn hC dL_law_44 (by rw [c15]; decide) (by rw [c15]; decide) (off := 1130) (by rw [c15]; rfl) 1174 (by decide) ?_
    exact cs_15 hC hNw hst hS h1 h2 h3 hk hn hK (q15 c15)
  obtain ⟨q16, h⟩ := h
  by_cases c16 : op = 16
  · refine g_tableIn hC dL_law_44 (by rw [c16]; decide) (by rw [c16]; decide) (off := 1186) (by rw [c16]; rfl) 1230 (by decide) ?_
    exact cs_16 hC hNw hst hS h1 h2 h3 hk hn hK (q16 c16)
  obtain ⟨q17, h⟩ := h
  by_cases c17 : op = 17
  · refine g_tableIn hC dL_law_44 (by rw [c17]; decide) (by rw [c17]; decide) (off := 1242) (by rw [c17]; rfl) 1286 (by decide) ?_
    exact cs_17 hC hNw hst hS h1 h2 h3 hk hn hK (q17 c17)
  obtain ⟨q18, h⟩ := h
  by_cases c18 : op = 18
  · refine g_tableIn hC dL_law_44 (by rw [c18]; decide) (by rw [c18]; decide) (off := 1298) (by rw [c18]; rfl) 1342 (by decide) ?_
    exact cs_18 hC hNw hst hS h1 h2 h3 hk hn hK (q18 c18)
  obtain ⟨q19, h⟩ := h
  by_cases c19 : op = 19
  · refine g_tableIn hC dL_law_44 (by rw [c19]; decide) (by rw [c19]; decide) (off := 1366) (by rw [c19]; rfl) 1410 (by decide) ?_
    exact cs_19 hC hNw hst hS h1 h2 h3 hk hn hK (q19 c19)
  obtain ⟨q20, h⟩ := h
  by_cases c20 : op = 20
  · refine g_tableIn hC dL_law_44 (by rw [c20]; decide) (by rw [c20]; decide) (off := 1422) (by rw [c20]; rfl) 1466 (by decide) ?_
    exact cs_20 hC hNw hst hS h1 h2 h3 hk hn hK (q20 c20)
  obtain ⟨q21, h⟩ := h
  by_cases c21 : op = 21
  · refine g_tableIn hC dL_law_44 (by rw [c21]; decide) (by rw [c21]; decide) (off := 1490) (by rw [c21]; rfl) 1534 (by decide) ?_
    exact cs_21 hC hNw hst hS h1 h2 h3 hk hn hK (q21 c21)
  obtain ⟨q22, h⟩ := h
  by_cases c22 : op = 22
  · refine g_tableIn hC dL_law_44 (by rw [c22]; decide) (by rw [c22]; decide) (off := 1546) (by rw [c22]; rfl) 1590 (by decide) ?_
    exact cs_22 hC hNw hst hS h1 h2 h3 hk hn hK (q22 c22)
  obtain ⟨q23, h⟩ := h
  by_cases c23 : op = 23
  · refine g_tableIn hC dL_law_44 (by rw [c23]; decide) (by rw [c23]; decide) (off := 1614) (by rw [c23]; rfl) 1658 (by decide) ?_
    exact cs_23 hC hNw hst hS h1 h2 h3 hk hn hK (q23 c23)
  obtain ⟨q24, h⟩ := h
  by_cases c24 : op = 24
  · refine g_tableIn hC dL_law_44 (by rw [c24]; decide) (by rw [c24]; decide) (off := 1682) (by rw [c24]; rfl) 1726 (by decide) ?_
    exact cs_24 hC hNw hst hS h1 h2 h3 hk hn hK (q24 c24)
  obtain ⟨q25, h⟩ := h
  by_cases c25 : op = 25
  · refine g_tableIn hC dL_law_44 (by rw [c25]; decide) (by rw [c25]; decide) (off := 1738) (by rw [c25]; rfl) 1782 (by decide) ?_
    exact cs_25 hC hNw hst hS h1 h2 h3 hk hn hK (q25 c25)
  obtain ⟨q26, h⟩ := h
  by_cases c26 : op = 26
  · refine g_tableIn hC dL_law_44 (by rw [c26]; decide) (by rw [c26]; decide) (off := 1794) (by rw [c26]; rfl) 1838 (by decide) ?_
    exact cs_26 hC hNw hst hS h1 h2 h3 hk hn hK (q26 c26)
  obtain ⟨q27, h⟩ := h
  by_cases c27 : op = 27
  · refine g_tableIn hC dL_law_44 (by rw [c27]; decide) (by rw [c27]; decide) (off := 1850) (by rw [c27]; rfl) 1894 (by decide) ?_
    exact cs_27 hC hNw hst hS h1 h2 h3 hk hn hK (q27 c27)
  obtain ⟨q28, h⟩ := h
  by_cases c28 : op = 28
  · refine g_tableIn hC dL_law_44 (by rw [c28]; decide) (by rw [c28]; decide) (off := 1906) (by rw [c28]; rfl) 1950 (by decide) ?_
    exact cs_28 hC hNw hst hS h1 h2 h3 hk hn hK (q28 c28)
  obtain ⟨q29, h⟩ := h
  by_cases c29 : op = 29
  · refine g_tableIn hC dL_law_44 (by rw [c29]; decide) (by rw [c29]; decide) (off := 1974) (by rw [c29]; rfl) 2018 (by decide) ?_
    exact cs_29 hC hNw hst hS h1 h2 h3 hk hn hK (q29 c29)
  obtain ⟨q30, h⟩ := h
  by_cases c30 : op = 30
  · refine g_tableIn hC dL_law_44 (by rw [c30]; decide) (by rw [c30]; decide) (off := 2051) (by rw [c30]; rfl) 2095 (by decide) ?_
    exact cs_30 hC hNw hst hS h1 h2 h3 hk hn hK (q30 c30)
  obtain ⟨q31, h⟩ := h
  by_cases c31 : op = 31
  · refine g_tableIn hC dL_law_44 (by rw [c31]; decide) (by rw [c31]; decide) (off := 2128) (by rw [c31]; rfl) 2172 (by decide) ?_
    exact cs_31 hC hNw hst hS h1 h2 h3 hk hn hK (q31 c31)
  obtain ⟨q32, h⟩ := h
  by_cases c32 : op = 32
  · refine g_tableIn hC dL_law_44 (by rw [c32]; decide) (by rw [c32]; decide) (off := 2210) (by rw [c32]; rfl) 2254 (by decide) ?_
    exact cs_32 hC hNw hst hS h1 h2 h3 hk hn hK (q32 c32)
  obtain ⟨q33, h⟩ := h
  by_cases c33 : op = 33
  · refine g_tableIn hC dL_law_44 (by rw [c33]; decide) (by rw [c33]; decide) (off := 2278) (by rw [c33]; rfl) 2322 (by decide) ?_
    exact cs_33 hC hNw hst hS h1 h2 h3 hk hn hK (q33 c33)
  obtain ⟨q34, h⟩ := h
  by_cases c34 : op = 34
  · refine g_tableIn hC dL_law_44 (by rw [c34]; decide) (by rw [c34]; decide) (off := 2346) (by rw [c34]; rfl) 2390 (by decide) ?_
    exact cs_34 hC hNw hst hS h1 h2 h3 hk hn hK (q34 c34)
  obtain ⟨q35, h⟩ := h
  by_cases c35 : op = 35
  · refine g_tableIn hC dL_law_44 (by rw [c35]; decide) (by rw [c35]; decide) (off := 2402) (by rw [c35]; rfl) 2446 (by decide) ?_
    exact cs_35 hC hNw hst hS h1 h2 h3 hk hn hK (q35 c35)
  obtain ⟨q36, h⟩ := h
  by_cases c36 : op = 36
  · refine g_tableIn hC dL_law_44 (by rw [c36]; decide) (by rw [c36]; decide) (off := 2458) (by rw [c36]; rfl) 2502 (by decide) ?_
    exact cs_36 hC hNw hst hS h1 h2 h3 hk hn hK (q36 c36)
  obtain ⟨q37, h⟩ := h
  by_cases c37 : op = 37
  · refine g_tableIn hC dL_law_44 (by rw [c37]; decide) (by rw [c37]; decide) (off := 2526) (by rw [c37]; rfl) 2570 (by decide) ?_
    exact cs_37 hC hNw hst hS h1 h2 h3 hk hn hK (q37 c37)
  obtain ⟨q38, h⟩ := h
  by_cases c38 : op = 38
  · refine g_tableIn hC dL_law_44 (by rw [c38]; decide) (by rw [c38]; decide) (off := 2603) (by rw [c38]; rfl) 2647 (by decide) ?_
    exact cs_38 hC hNw hst hS h1 h2 h3 hk hn hK (q38 c38)
  obtain ⟨q39, h⟩ := h
  by_cases c39 : op = 39
  · refine g_tableIn hC dL_law_44 (by rw [c39]; decide) (by rw [c39]; decide) (off := 2678) (by rw [c39]; rfl) 2722 (by decide) ?_
    exact cs_39 hC hNw hst hS h1 h2 h3 hk hn hK (q39 c39)
  obtain ⟨q40, h⟩ := h
  by_cases c40 : op = 40
  · refine g_tableIn hC dL_law_44 (by rw [c40]; decide) (by rw [c40]; decide) (off := 2734) (by rw [c40]; rfl) 2778 (by decide) ?_
    exact cs_40 hC hNw hst hS h1 h2 h3 hk hn hK (q40 c40)
  obtain ⟨q41, h⟩ := h
  by_cases c41 : op = 41
  · refine g_tableIn hC dL_law_44 (by rw [c41]; decide) (by rw [c41]; decide) (off := 2747) (by rw [c41]; rfl) 2791 (by decide) ?_
    exact cs_41 hC hNw hst hS h1 h2 h3 hk hn hK (q41 c41)
  obtain ⟨q42, h⟩ := h
  by_cases c42 : op = 42
  · refine g_tableIn hC dL_law_44 (by rw [c42]; decide) (by rw [c42]; decide) (off := 2803) (by rw [c42]; rfl) 2847 (by decide) ?_
    exact cs_42 hC hNw hst hS h1 h2 h3 hk hn hK (q42 c42)
  obtain ⟨q43, h⟩ := h
  by_cases c43 : op = 43
  · refine g_tableIn hC dL_law_44 (by rw [c43]; decide) (by rw [c43]; decide) (off := 2816) (by rw [c43]; rfl) 2860 (by decide) ?_
    exact cs_43 hC hNw hst hS h1 h2 h3 hk hn hK (q43 c43)
  obtain ⟨q44, h⟩ := h
  by_cases c44 : op = 44
  · refine g_tableIn hC dL_law_44 (by rw [c44]; decide) (by rw [c44]; decide) (off := 2829) (by rw [c44]; rfl) 2873 (by decide) ?_
    exact cs_44 hC hNw hst hS h1 h2 h3 hk hn hK (q44 c44)
  obtain ⟨q45, h⟩ := h
  by_cases c45 : op = 45
  · refine g_tableIn hC dL_law_44 (by rw [c45]; decide) (by rw [c45]; decide) (off := 2842) (by rw [c45]; rfl) 2886 (by decide) ?_
    exact cs_45 hC hNw hst hS h1 h2 h3 hk hn hK (q45 c45)
  obtain ⟨q46, h⟩ := h
  by_cases c46 : op = 46
  · refine g_tableIn hC dL_law_44 (by rw [c46]; decide) (by rw [c46]; decide) (off := 2855) (by rw [c46]; rfl) 2899 (by decide) ?_
    exact cs_46 hC hNw hst hS h1 h2 h3 hk hn hK (q46 c46)
  obtain ⟨q47, h⟩ := h
  by_cases c47 : op = 47
  · refine g_tableIn hC dL_law_44 (by rw [c47]; decide) (by rw [c47]; decide) (off := 2911) (by rw [c47]; rfl) 2955 (by decide) ?_
    exact cs_47 hC hNw hst hS h1 h2 h3 hk hn hK (q47 c47)
  obtain ⟨q48, h⟩ := h
  by_cases c48 : op = 48
  · refine g_tableIn hC dL_law_44 (by rw [c48]; decide) (by rw [c48]; decide) (off := 2976) (by rw [c48]; rfl) 3020 (by decide) ?_
    exact cs_48 hC hNw hst hS h1 h2 h3 hk hn hK (q48 c48)
  obtain ⟨q49, h⟩ := h
  by_cases c49 : op = 49
  · refine g_tableIn hC dL_law_44 (by rw [c49]; decide) (by rw [c49]; decide) (off := 3042) (by rw [c49]; rfl) 3086 (by decide) ?_
    exact cs_49 hC hNw hst hS h1 h2 h3 hk hn hK (q49 c49)
  obtain ⟨q50, h⟩ := h
  by_cases c50 : op = 50
  · refine g_tableIn hC dL_law_44 (by rw [c50]; decide) (by rw [c50]; decide) (off := 3055) (by rw [c50]; rfl) 3099 (by decide) ?_
    exact cs_50 hC hNw hst hS h1 h2 h3 hk hn hK (q50 c50)
  obtain ⟨q51, h⟩ := h
  by_cases c51 : op = 51
  · refine g_tableIn hC dL_law_44 (by rw [c51]; decide) (by rw [c51]; decide) (off := 3111) (by rw [c51]; rfl) 3155 (by decide) ?_
    exact cs_51 hC hNw hst hS h1 h2 h3 hk hn hK (q51 c51)
  obtain ⟨q52, h⟩ := h
  by_cases c52 : op = 52
  · refine g_tableIn hC dL_law_44 (by rw [c52]; decide) (by rw [c52]; decide) (off := 3167) (by rw [c52]; rfl) 3211 (by decide) ?_
    exact cs_52 hC hNw hst hS h1 h2 h3 hk hn hK (q52 c52)
  obtain ⟨q53, h⟩ := h
  by_cases c53 : op = 53
  · refine g_tableIn hC dL_law_44 (by rw [c53]; decide) (by rw [c53]; decide) (off := 3225) (by rw [c53]; rfl) 3269 (by decide) ?_
    exact cs_53 hC hNw hst hS h1 h2 h3 hk hn hK (q53 c53)
  obtain ⟨q54, h⟩ := h
  by_cases c54 : op = 54
  · refine g_tableIn hC dL_law_44 (by rw [c54]; decide) (by rw [c54]; decide) (off := 3269) (by rw [c54]; rfl) 3313 (by decide) ?_
    exact cs_54 hC hNw hst hS h1 h2 h3 hk hn hK (q54 c54)
  obtain ⟨q55, h⟩ := h
  by_cases c55 : op = 55
  · refine g_tableIn hC dL_law_44 (by rw [c55]; decide) (by rw [c55]; decide) (off := 3313) (by rw [c55]; rfl) 3357 (by decide) ?_
    exact cs_55 hC hNw hst hS h1 h2 h3 hk hn hK (q55 c55)
  obtain ⟨q56, h⟩ := h
  by_cases c56 : op = 56
  · refine g_tableIn hC dL_law_44 (by rw [c56]; decide) (by rw [c56]; decide) (off := 3357) (by rw [c56]; rfl) 3401 (by decide) ?_
    exact cs_56 hC hNw hst hS h1 h2 h3 hk hn hK (q56 c56)
  obtain ⟨q57, h⟩ := h
  by_cases c57 : op = 57
  · refine g_tableIn hC dL_law_44 (by rw [c57]; decide) (by rw [c57]; decide) (off := 3401) (by rw [c57]; rfl) 3445 (by decide) ?_
    exact cs_57 hC hNw hst hS h1 h2 h3 hk hn hK (q57 c57)
  obtain ⟨q58, h⟩ := h
  by_cases c58 : op = 58
  · refine g_tableIn hC dL_law_44 (by rw [c58]; decide) (by rw [c58]; decide) (off := 3445) (by rw [c58]; rfl) 3489 (by decide) ?_
    exact cs_58 hC hNw hst hS h1 h2 h3 hk hn hK (q58 c58)
  obtain ⟨q59, h⟩ := h
  by_cases c59 : op = 59
  · refine g_tableIn hC dL_law_44 (by rw [c59]; decide) (by rw [c59]; decide) (off := 3489) (by rw [c59]; rfl) 3533 (by decide) ?_
    exact cs_59 hC hNw hst hS h1 h2 h3 hk hn hK (q59 c59)
  obtain ⟨q60, h⟩ := h
  by_cases c60 : op = 60
  · refine g_tableIn hC dL_law_44 (by rw [c60]; decide) (by rw [c60]; decide) (off := 3502) (by rw [c60]; rfl) 3546 (by decide) ?_
    exact cs_60 hC hNw hst hS h1 h2 h3 hk hn hK (q60 c60)
  have hb : op.toInt < 0 ∨ 60 < op.toInt := by
    refine Classical.byContradiction fun hb => ?_
    have n0 : ¬ op.toInt = 0 := fun q => c0 (Int32.toInt_inj.mp q)
    have n1 : ¬ op.toInt = 1 := fun q => c1 (Int32.toInt_inj.mp q)
    have n2 : ¬ op.toInt = 2 := fun q => c2 (Int32.toInt_inj.mp q)
    have n3 : ¬ op.toInt = 3 := fun q => c3 (Int32.toInt_inj.mp q)
    have n4 : ¬ op.toInt = 4 := fun q => c4 (Int32.toInt_inj.mp q)
    have n5 : ¬ op.toInt = 5 := fun q => c5 (Int32.toInt_inj.mp q)
    have n6 : ¬ op.toInt = 6 := fun q => c6 (Int32.toInt_inj.mp q)
    have n7 : ¬ op.toInt = 7 := fun q => c7 (Int32.toInt_inj.mp q)
    have n8 : ¬ op.toInt = 8 := fun q => c8 (Int32.toInt_inj.mp q)
    have n9 : ¬ op.toInt = 9 := fun q => c9 (Int32.toInt_inj.mp q)
    have n10 : ¬ op.toInt = 10 := fun q => c10 (Int32.toInt_inj.mp q)
    have n11 : ¬ op.toInt = 11 := fun q => c11 (Int32.toInt_inj.mp q)
    have n12 : ¬ op.toInt = 12 := fun q => c12 (Int32.toInt_inj.mp q)
    have n13 : ¬ op.toInt = 13 := fun q => c13 (Int32.toInt_inj.mp q)
    have n14 : ¬ op.toInt = 14 := fun q => c14 (Int32.toInt_inj.mp q)
    have n15 : ¬ op.toInt = 15 := fun q => c15 (Int32.toInt_inj.mp q)
    have n16 : ¬ op.toInt = 16 := fun q => c16 (Int32.toInt_inj.mp q)
    have n17 : ¬ op.toInt = 17 := fun q => c17 (Int32.toInt_inj.mp q)
    have n18 : ¬ op.toInt = 18 := fun q => c18 (Int32.toInt_inj.mp q)
    have n19 : ¬ op.toInt = 19 := fun q => c19 (Int32.toInt_inj.mp q)
    have n20 : ¬ op.toInt = 20 := fun q => c20 (Int32.toInt_inj.mp q)
    have n21 : ¬ op.toInt = 21 := fun q => c21 (Int32.toInt_inj.mp q)
    have n22 : ¬ op.toInt = 22 := fun q => c22 (Int32.toInt_inj.mp q)
    have n23 : ¬ op.toInt = 23 := fun q => c23 (Int32.toInt_inj.mp q)
    have n24 : ¬ op.toInt = 24 := fun q => c24 (Int32.toInt_inj.mp q)
    have n25 : ¬ op.toInt = 25 := fun q => c25 (Int32.toInt_inj.mp q)
    have n26 : ¬ op.toInt = 26 := fun q => c26 (Int32.toInt_inj.mp q)
    have n27 : ¬ op.toInt = 27 := fun q => c27 (Int32.toInt_inj.mp q)
    have n28 : ¬ op.toInt = 28 := fun q => c28 (Int32.toInt_inj.mp q)
    have n29 : ¬ op.toInt = 29 := fun q => c29 (Int32.toInt_inj.mp q)
    have n30 : ¬ op.toInt = 30 := fun q => c30 (Int32.toInt_inj.mp q)
    have n31 : ¬ op.toInt = 31 := fun q => c31 (Int32.toInt_inj.mp q)
    have n32 : ¬ op.toInt = 32 := fun q => c32 (Int32.toInt_inj.mp q)
    have n33 : ¬ op.toInt = 33 := fun q => c33 (Int32.toInt_inj.mp q)
    have n34 : ¬ op.toInt = 34 := fun q => c34 (Int32.toInt_inj.mp q)
    have n35 : ¬ op.toInt = 35 := fun q => c35 (Int32.toInt_inj.mp q)
    have n36 : ¬ op.toInt = 36 := fun q => c36 (Int32.toInt_inj.mp q)
    have n37 : ¬ op.toInt = 37 := fun q => c37 (Int32.toInt_inj.mp q)
    have n38 : ¬ op.toInt = 38 := fun q => c38 (Int32.toInt_inj.mp q)
    have n39 : ¬ op.toInt = 39 := fun q => c39 (Int32.toInt_inj.mp q)
    have n40 : ¬ op.toInt = 40 := fun q => c40 (Int32.toInt_inj.mp q)
    have n41 : ¬ op.toInt = 41 := fun q => c41 (Int32.toInt_inj.mp q)
    have n42 : ¬ op.toInt = 42 := fun q => c42 (Int32.toInt_inj.mp q)
    have n43 : ¬ op.toInt = 43 := fun q => c43 (Int32.toInt_inj.mp q)
    have n44 : ¬ op.toInt = 44 := fun q => c44 (Int32.toInt_inj.mp q)
    have n45 : ¬ op.toInt = 45 := fun q => c45 (Int32.toInt_inj.mp q)
    have n46 : ¬ op.toInt = 46 := fun q => c46 (Int32.toInt_inj.mp q)
    have n47 : ¬ op.toInt = 47 := fun q => c47 (Int32.toInt_inj.mp q)
    have n48 : ¬ op.toInt = 48 := fun q => c48 (Int32.toInt_inj.mp q)
    have n49 : ¬ op.toInt = 49 := fun q => c49 (Int32.toInt_inj.mp q)
    have n50 : ¬ op.toInt = 50 := fun q => c50 (Int32.toInt_inj.mp q)
    have n51 : ¬ op.toInt = 51 := fun q => c51 (Int32.toInt_inj.mp q)
    have n52 : ¬ op.toInt = 52 := fun q => c52 (Int32.toInt_inj.mp q)
    have n53 : ¬ op.toInt = 53 := fun q => c53 (Int32.toInt_inj.mp q)
    have n54 : ¬ op.toInt = 54 := fun q => c54 (Int32.toInt_inj.mp q)
    have n55 : ¬ op.toInt = 55 := fun q => c55 (Int32.toInt_inj.mp q)
    have n56 : ¬ op.toInt = 56 := fun q => c56 (Int32.toInt_inj.mp q)
    have n57 : ¬ op.toInt = 57 := fun q => c57 (Int32.toInt_inj.mp q)
    have n58 : ¬ op.toInt = 58 := fun q => c58 (Int32.toInt_inj.mp q)
    have n59 : ¬ op.toInt = 59 := fun q => c59 (Int32.toInt_inj.mp q)
    have n60 : ¬ op.toInt = 60 := fun q => c60 (Int32.toInt_inj.mp q)
    omega
  refine g_tableOut hC dL_law_44 hb 3590 (by decide) ?_
  exact g_widen (Nat.le_add_right _ _) (Nat.le_add_right _ _) (hK _ _ _ _ (h hb))
