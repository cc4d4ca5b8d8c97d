/-- words that no contract can carry among its own: by the start of each method that throws -/
def gNwL : List Cond := [.castable "java/lang/ArithmeticException" "java/lang/ArithmeticException", .castable "java/lang/IllegalArgumentException" "java/lang/IllegalArgumentException", .castable "java/lang/IllegalStateException" "java/lang/IllegalStateException", .castable "java/lang/IndexOutOfBoundsException" "java/lang/IndexOutOfBoundsException", .castable "java/lang/UnsupportedOperationException" "java/lang/UnsupportedOperationException", .castable "java/util/NoSuchElementException" "java/util/NoSuchElementException", .declares (Bundle.initS "java/lang/RuntimeException"), .declares (Bundle.initS "java/lang/Exception"), .declares (Bundle.initS "java/lang/Throwable"), .methodLinkNest RX4 9 yX0_init RX4, .methodLinkNest RX4 36 yX1_init RX4]
def gNw (U : State) : Prop := (∀ w ∈ gNwL, va_Nw w U) ∧ va_AO "SockEmbassy$Office" U
theorem gNw.warm {s U : State} (hW : s.WarmedH U.vm) (h : gNw s) : gNw U := by
  refine ⟨fun w hw => ?_, va_AO.moved hW.alike h.2⟩
  have hs := h.1 w hw
  simp only [gNwL, List.mem_cons, List.not_mem_nil, or_false] at hw
  rcases hw with rfl | rfl | rfl | rfl | rfl | rfl | rfl | rfl | rfl | rfl | rfl <;> first | exact va_Nw.warmC hW hs | exact va_Nw.warmD hW hs | exact va_Nw.warmM hW hs
theorem gNw.same {u U : State} (hv : U.vm = u.vm) (h : gNw u) : gNw U := by
  refine ⟨fun w hw => ?_, va_AO.moved (by rw [hv]; exact Vm.Alike.refl u.vm) h.2⟩
  have hs := h.1 w hw
  simp only [gNwL, List.mem_cons, List.not_mem_nil, or_false] at hw
  rcases hw with rfl | rfl | rfl | rfl | rfl | rfl | rfl | rfl | rfl | rfl | rfl <;> exact va_Nw.same rfl hv.symm hs
theorem xa_3 : ∀ w ∈ ((nx_at RX4 354 "java/lang/IndexOutOfBoundsException" 7 prog_20_method_2_code "java/lang/RuntimeException" ["java/lang/Exception"]).filter vx_no).filter goodWord, w ∈ lw_all := lw_inL _ [15, 514, 523, 532, 535, 537, 515, 516, 37, 38, 517, 522, 533, 553, 504, 554, 506, 555, 508, 518, 520, 510, 549, 550, 552, 510, 540, 541, 542, 543, 543, 544, 545, 546, 546, 547, 548, 549, 539, 493, 501, 502, 503, 505, 507, 509, 513, 512, 511] (by decide +kernel) (by decide +kernel)
theorem xb_3 : ∀ w ∈ ((nx_at RX4 354 "java/lang/IndexOutOfBoundsException" 7 prog_20_method_2_code "java/lang/RuntimeException" ["java/lang/Exception"]).filter vx_no).filter (fun w => !goodWord w), w ∈ gNwL := by decide +kernel
theorem xg_3 : ∀ w ∈ Cond.classLink RX4 350 "java/lang/IndexOutOfBoundsException" :: Cond.initialized "java/lang/IndexOutOfBoundsException" :: ((nx_at RX4 354 "java/lang/IndexOutOfBoundsException" 7 prog_20_method_2_code "java/lang/RuntimeException" ["java/lang/Exception"]).filter vx_no), vx_ot w = true := by decide +kernel
theorem xl_3 : Cond.classLink RX4 350 "java/lang/IndexOutOfBoundsException" ∈ lw_all := lw_inT 492 (by decide +kernel) rfl
theorem xi_3 : Cond.initialized "java/lang/IndexOutOfBoundsException" ∈ lw_all := lw_inT 18 (by decide +kernel) rfl
theorem xd_3_0 : decode prog_20_method_2_code 0 = .ok (.aload_n 0, 1) := by decide +kernel
theorem xd_3_1 : decode prog_20_method_2_code 1 = .ok (.aload_n 1, 1) := by decide +kernel
theorem xd_3_2 : decode prog_20_method_2_code 2 = .ok (.invokespecial 7, 3) := by decide +kernel
theorem xd_3_5 : decode prog_20_method_2_code 5 = .ok (.return_, 1) := by decide +kernel
theorem xa_1 : ∀ w ∈ ((nx_at RX4 361 "java/lang/IllegalArgumentException" 7 prog_18_method_2_code "java/lang/RuntimeException" ["java/lang/Exception"]).filter vx_no).filter goodWord, w ∈ lw_all := lw_inL _ [15, 514, 523, 532, 535, 537, 515, 516, 37, 38, 517, 522, 533, 553, 504, 554, 506, 555, 508, 518, 520, 510, 549, 550, 552, 510, 579, 580, 581, 543, 543, 544, 545, 546, 546, 547, 548, 549, 578, 569, 571, 527, 572, 573, 574, 575, 513, 512, 576] (by decide +kernel) (by decide +kernel)
theorem xb_1 : ∀ w ∈ ((nx_at RX4 361 "java/lang/IllegalArgumentException" 7 prog_18_method_2_code "java/lang/RuntimeException" ["java/lang/Exception"]).filter vx_no).filter (fun w => !goodWord w), w ∈ gNwL := by decide +kernel
theorem xg_1 : ∀ w ∈ Cond.classLink RX4 357 "java/lang/IllegalArgumentException" :: Cond.initialized "java/lang/IllegalArgumentException" :: ((nx_at RX4 361 "java/lang/IllegalArgumentException" 7 prog_18_method_2_code "java/lang/RuntimeException" ["java/lang/Exception"]).filter vx_no), vx_ot w = true := by decide +kernel
theorem xl_1 : Cond.classLink RX4 357 "java/lang/IllegalArgumentException" ∈ lw_all := lw_inT 568 (by decide +kernel) rfl
theorem xi_1 : Cond.initialized "java/lang/IllegalArgumentException" ∈ lw_all := lw_inT 19 (by decide +kernel) rfl
theorem xd_1_0 : decode prog_18_method_2_code 0 = .ok (.aload_n 0, 1) := by decide +kernel
theorem xd_1_1 : decode prog_18_method_2_code 1 = .ok (.aload_n 1, 1) := by decide +kernel
theorem xd_1_2 : decode prog_18_method_2_code 2 = .ok (.invokespecial 7, 3) := by decide +kernel
theorem xd_1_5 : decode prog_18_method_2_code 5 = .ok (.return_, 1) := by decide +kernel
theorem xa_5 : ∀ w ∈ ((nx_at RX4 366 "java/util/NoSuchElementException" 13 prog_36_method_4_code "java/lang/RuntimeException" ["java/lang/Exception"]).filter vx_no).filter goodWord, w ∈ lw_all := lw_inL _ [15, 514, 523, 532, 535, 537, 515, 516, 37, 38, 517, 522, 533, 553, 504, 554, 506, 555, 508, 518, 520, 510, 549, 550, 552, 510, 599, 600, 601, 543, 543, 544, 545, 546, 546, 547, 548, 549, 598, 589, 591, 531, 592, 593, 594, 595, 513, 512, 596] (by decide +kernel) (by decide +kernel)
theorem xb_5 : ∀ w ∈ ((nx_at RX4 366 "java/util/NoSuchElementException" 13 prog_36_method_4_code "java/lang/RuntimeException" ["java/lang/Exception"]).filter vx_no).filter (fun w => !goodWord w), w ∈ gNwL := by decide +kernel
theorem xg_5 : ∀ w ∈ Cond.classLink RX4 362 "java/util/NoSuchElementException" :: Cond.initialized "java/util/NoSuchElementException" :: ((nx_at RX4 366 "java/util/NoSuchElementException" 13 prog_36_method_4_code "java/lang/RuntimeException" ["java/lang/Exception"]).filter vx_no), vx_ot w = true := by decide +kernel
theorem xl_5 : Cond.classLink RX4 362 "java/util/NoSuchElementException" ∈ lw_all := lw_inT 588 (by decide +kernel) rfl
theorem xi_5 : Cond.initialized "java/util/NoSuchElementException" ∈ lw_all := lw_inT 20 (by decide +kernel) rfl
theorem xd_5_0 : decode prog_36_method_4_code 0 = .ok (.aload_n 0, 1) := by decide +kernel
theorem xd_5_1 : decode prog_36_method_4_code 1 = .ok (.aload_n 1, 1) := by decide +kernel
theorem xd_5_2 : decode prog_36_method_4_code 2 = .ok (.invokespecial 13, 3) := by decide +kernel
theorem xd_5_5 : decode prog_36_method_4_code 5 = .ok (.return_, 1) := by decide +kernel
theorem xa_2 : ∀ w ∈ ((nx_at RX4 371 "java/lang/IllegalStateException" 7 prog_19_method_2_code "java/lang/RuntimeException" ["java/lang/Exception"]).filter vx_no).filter goodWord, w ∈ lw_all := lw_inL _ [15, 514, 523, 532, 535, 537, 515, 516, 37, 38, 517, 522, 533, 553, 504, 554, 506, 555, 508, 518, 520, 510, 549, 550, 552, 510, 1511, 1512, 1513, 543, 543, 544, 545, 546, 546, 547, 548, 549, 1510, 1501, 1503, 528, 1504, 1505, 1506, 1507, 513, 512, 1508] (by decide +kernel) (by decide +kernel)
theorem xb_2 : ∀ w ∈ ((nx_at RX4 371 "java/lang/IllegalStateException" 7 prog_19_method_2_code "java/lang/RuntimeException" ["java/lang/Exception"]).filter vx_no).filter (fun w => !goodWord w), w ∈ gNwL := by decide +kernel
theorem xg_2 : ∀ w ∈ Cond.classLink RX4 367 "java/lang/IllegalStateException" :: Cond.initialized "java/lang/IllegalStateException" :: ((nx_at RX4 371 "java/lang/IllegalStateException" 7 prog_19_method_2_code "java/lang/RuntimeException" ["java/lang/Exception"]).filter vx_no), vx_ot w = true := by decide +kernel
theorem xl_2 : Cond.classLink RX4 367 "java/lang/IllegalStateException" ∈ lw_all := lw_inT 1500 (by decide +kernel) rfl
theorem xi_2 : Cond.initialized "java/lang/IllegalStateException" ∈ lw_all := lw_inT 30 (by decide +kernel) rfl
theorem xd_2_0 : decode prog_19_method_2_code 0 = .ok (.aload_n 0, 1) := by decide +kernel
theorem xd_2_1 : decode prog_19_method_2_code 1 = .ok (.aload_n 1, 1) := by decide +kernel
theorem xd_2_2 : decode prog_19_method_2_code 2 = .ok (.invokespecial 7, 3) := by decide +kernel
theorem xd_2_5 : decode prog_19_method_2_code 5 = .ok (.return_, 1) := by decide +kernel
theorem xa_0 : ∀ w ∈ ((nx_at RX4 376 "java/lang/ArithmeticException" 7 prog_11_method_2_code "java/lang/RuntimeException" ["java/lang/Exception"]).filter vx_no).filter goodWord, w ∈ lw_all := lw_inL _ [15, 514, 523, 532, 535, 537, 515, 516, 37, 38, 517, 522, 533, 553, 504, 554, 506, 555, 508, 518, 520, 510, 549, 550, 552, 510, 1183, 1184, 1185, 543, 543, 544, 545, 546, 546, 547, 548, 549, 1205, 1182, 1194, 525, 1188, 1189, 1191, 1187, 513, 512, 1186] (by decide +kernel) (by decide +kernel)
theorem xb_0 : ∀ w ∈ ((nx_at RX4 376 "java/lang/ArithmeticException" 7 prog_11_method_2_code "java/lang/RuntimeException" ["java/lang/Exception"]).filter vx_no).filter (fun w => !goodWord w), w ∈ gNwL := by decide +kernel
theorem xg_0 : ∀ w ∈ Cond.classLink RX4 372 "java/lang/ArithmeticException" :: Cond.initialized "java/lang/ArithmeticException" :: ((nx_at RX4 376 "java/lang/ArithmeticException" 7 prog_11_method_2_code "java/lang/RuntimeException" ["java/lang/Exception"]).filter vx_no), vx_ot w = true := by decide +kernel
theorem xl_0 : Cond.classLink RX4 372 "java/lang/ArithmeticException" ∈ lw_all := lw_inT 1203 (by decide +kernel) rfl
theorem xi_0 : Cond.initialized "java/lang/ArithmeticException" ∈ lw_all := lw_inT 26 (by decide +kernel) rfl
theorem xd_0_0 : decode prog_11_method_2_code 0 = .ok (.aload_n 0, 1) := by decide +kernel
theorem xd_0_1 : decode prog_11_method_2_code 1 = .ok (.aload_n 1, 1) := by decide +kernel
theorem xd_0_2 : decode prog_11_method_2_code 2 = .ok (.invokespecial 7, 3) := by decide +kernel
theorem xd_0_5 : decode prog_11_method_2_code 5 = .ok (.return_, 1) := by decide +kernel
theorem xa_4 : ∀ w ∈ ((nx_at RX4 390 "java/lang/UnsupportedOperationException" 7 prog_32_method_2_code "java/lang/RuntimeException" ["java/lang/Exception"]).filter vx_no).filter goodWord, w ∈ lw_all := lw_inL _ [15, 514, 523, 532, 535, 537, 515, 516, 37, 38, 517, 522, 533, 553, 504, 554, 506, 555, 508, 518, 520, 510, 549, 550, 552, 510, 619, 620, 621, 543, 543, 544, 545, 546, 546, 547, 548, 549, 618, 609, 611, 530, 612, 613, 614, 615, 513, 512, 616] (by decide +kernel) (by decide +kernel)
theorem xb_4 : ∀ w ∈ ((nx_at RX4 390 "java/lang/UnsupportedOperationException" 7 prog_32_method_2_code "java/lang/RuntimeException" ["java/lang/Exception"]).filter vx_no).filter (fun w => !goodWord w), w ∈ gNwL := by decide +kernel
theorem xg_4 : ∀ w ∈ Cond.classLink RX4 386 "java/lang/UnsupportedOperationException" :: Cond.initialized "java/lang/UnsupportedOperationException" :: ((nx_at RX4 390 "java/lang/UnsupportedOperationException" 7 prog_32_method_2_code "java/lang/RuntimeException" ["java/lang/Exception"]).filter vx_no), vx_ot w = true := by decide +kernel
theorem xl_4 : Cond.classLink RX4 386 "java/lang/UnsupportedOperationException" ∈ lw_all := lw_inT 608 (by decide +kernel) rfl
theorem xi_4 : Cond.initialized "java/lang/UnsupportedOperationException" ∈ lw_all := lw_inT 21 (by decide +kernel) rfl
theorem xd_4_0 : decode prog_32_method_2_code 0 = .ok (.aload_n 0, 1) := by decide +kernel
theorem xd_4_1 : decode prog_32_method_2_code 1 = .ok (.aload_n 1, 1) := by decide +kernel
theorem xd_4_2 : decode prog_32_method_2_code 2 = .ok (.invokespecial 7, 3) := by decide +kernel
theorem xd_4_5 : decode prog_32_method_2_code 5 = .ok (.return_, 1) := by decide +kernel
theorem gNw.use {U : State} (h : gNw U) (args : Array Value) : ∀ w ∈ gNwL, w.before args U = true := by
  intro w hw
  have hs := h.1 w hw
  simp only [gNwL, List.mem_cons, List.not_mem_nil, or_false] at hw
  rcases hw with rfl | rfl | rfl | rfl | rfl | rfl | rfl | rfl | rfl | rfl | rfl <;> exact va_Nw.use rfl hs
/-! ===== contracts of methods that return or throw ===== -/
def gPreX (g : gE) (wc : va_W) (sz : Nat) (U : State) : Prop := gPre g wc sz U ∧ gNw U
def gXC (g : gE) (wc : va_W) (sz : Nat) (px : String → va_W → Prop) : String → State → State → Prop := fun E st t =>
  ∃ w1 : va_W, px E w1 ∧ va_P g.1 vwCl w1 t.heap ∧ va_D (va_A wc sz) w1 ∧ va_F (va_A wc sz) st t
/-- METHOD y on the arguments As in the world wc: it returns r and leaves w1 with 'post r w1', or throws an E and leaves w1 with 'px E w1' -/
def FnX (l : Launch) (g : gE) (y : MethodName) (b : ByteArray) (n : Nat) (ret : Option FieldType) (fr lo mc ms : Nat) (wc : va_W) (As : List Value) (post : Option Value → va_W → Prop) (px : String → va_W → Prop) : Prop :=
  l.stackTraces = false → ∀ sz : Nat, vx_Met l y (.code y b n ret :: lw_all) ({ frames := fr, cells := mc, slots := ms, locals := lo } : Room) (va_Pc As (gPreX g wc sz)) (gEnd g wc sz post) (gXC g wc sz px) mc ms (va_A wc sz)
def gZX (x : gX) (g : gE) (ret : Option FieldType) (wc : va_W) (post : Option Value → va_W → Prop) (px : String → va_W → Prop) (mc ms : Nat) : Prop :=
  (x_meth x).sig.returnType = ret ∧ x_A x = va_A wc (x_s x).heap.size ∧ x_Q x = vx_MQ (x_below x) (gEnd g wc (x_s x).heap.size post) (gXC g wc (x_s x).heap.size px) (x_args x) (x_s x) mc ms (va_A wc (x_s x).heap.size) ∧
  (∀ z ∈ (x_c x).exceptionTable.toList, False) ∧ gNw (x_s x) ∧ (x_l x).stackTraces = false
theorem FnX.of {l : Launch} {g : gE} {y : MethodName} {b : ByteArray} {n : Nat} {ret : Option FieldType} {fr lo mc ms : Nat} {wc : va_W} {As : List Value} {post : Option Value → va_W → Prop} {px : String → va_W → Prop} (hy : plainName y.cls = true) (hlen : (lg_sl As).length ≤ n)
    (body : ∀ x : gX, gC x l b n y.cls g fr lo mc ms → gZX x g ret wc post px mc ms → G x g n 0 0 wc 0 (lv_args 0 As) []) : FnX l g y b n ret fr lo mc ms wc As post px := by
  intro hst sz
  refine vx_ofW (cc := b) (maxL := n) (ret := ret) hy rfl ?_
  intro p e s m args below meth c s₁ B hml ht9 hv
  obtain ⟨rfl, ⟨hsz, hP, hK, hD0, hKc⟩, hNw⟩ := hv
  subst hsz
  have hD := hD0.self (sz := s.heap.size)
  have hts := atoms_spec (ws := .code y b n ret :: lw_all) B.pre
  have hl := lv_entry As (n := n) hlen
  rw [lg_entry_eq]
  exact body (p, l, e, (headSpec (.code y b n ret :: lw_all) ({ frames := fr, cells := mc, slots := ms, locals := lo } : Room)).room, s, m, As.toArray, below, meth, c, va_A wc s.heap.size, vx_MQ below (gEnd g wc s.heap.size post) (gXC g wc s.heap.size px) As.toArray s mc ms (va_A wc s.heap.size))
    ⟨B.exec, B.bytes, hml, findClass_of_methodNamed B.named, fun w hw => hts w (List.mem_cons_of_mem _ hw), hK, fun q hq => Or.inr hq, B.notSynchronized, rfl, rfl, hKc⟩ ⟨B.returns, rfl, rfl, ht9, hNw, hst⟩ s.heap [] _ hP hD va_S.rf hl
/-- the same walk, its end a plain one -/
def gXM (x : gX) (Q : State → Prop) : gX := (x_p x, x_l x, x_e x, x_R x, x_s x, x_m x, x_args x, x_below x, x_meth x, x_c x, x_A x, Q)
def gXQ (x : gX) (g : gE) (wc : va_W) (post : Option Value → va_W → Prop) (mc ms : Nat) : gX := gXM x (MQ (x_below x) (gEnd g wc (x_s x).heap.size post) (x_args x) (x_s x) mc ms (va_A wc (x_s x).heap.size))
section GX
variable {x : gX} {l : Launch} {cc : ByteArray} {nL : Nat} {own : String} {g : gE} {fr lo mc ms k n pc : Nat} {ws : va_W} {lv : List (Nat × Value)} {st : List Value} {retc : Option FieldType} {wcc : va_W} {postc : Option Value → va_W → Prop} {pxc : String → va_W → Prop} {mcc msc : Nat}
theorem gXM_C {Q : State → Prop} (hC : gC x l cc nL own g fr lo mc ms) : gC (gXM x Q) l cc nL own g fr lo mc ms := hC
theorem gXQ_C (hC : gC x l cc nL own g fr lo mc ms) : gC (gXQ x g wcc postc mcc msc) l cc nL own g fr lo mc ms := hC
theorem gXQ_Z (hZ : gZX x g retc wcc postc pxc mcc msc) : gZ (gXQ x g wcc postc mcc msc) g retc wcc postc mcc msc := ⟨hZ.1, hZ.2.1, rfl⟩
theorem g_rx (hZ : gZX x g retc wcc postc pxc mcc msc) (h : G (gXQ x g wcc postc mcc msc) g nL k n ws pc lv st) : G x g nL k n ws pc lv st := by
  intro H locs ls hP hD hS hl
  have h9 := h H locs ls hP hD hS hl
  unfold gW at h9 ⊢
  rw [hZ.2.2.1]
  exact vx_ret h9
theorem gKept {D : va_G} {cl : List vw_C} {ws : va_W} {H H1 : Heap} (hP : va_P D cl ws H) (hk : ∀ q : Nat, q < H.size → H1[q]? = H[q]?) : va_P D cl ws H1 :=
  va_P_iff.mpr fun q hq => va_at.kept (va_P_iff.mp hP q hq) (hk q.1 (va_P_iff.mp hP q hq).lt)
/-- 'throw new E(text)' -/
theorem g_thr (hC : gC x l cc nL RX4 g fr lo mc ms) (hZ : gZX x g retc wcc postc pxc mcc msc) {cls text Y : String} {r : List String} {ik is ic ix : Nat} {rx : ByteArray} (i : Nat) (hi : gTx[i]? = some (RX4, is, text, []))
    (x0 : decode rx 0 = .ok (.aload_n 0, 1)) (x1 : decode rx 1 = .ok (.aload_n 1, 1)) (x2 : decode rx 2 = .ok (.invokespecial ix, 3)) (x5 : decode rx 5 = .ok (.return_, 1)) (hcls : Bundle.fit cls = true) (hY : Bundle.fit Y = true) (hnames : ∀ n ∈ r, Bundle.fit n = true)
    (hk : Cond.classLink RX4 ik cls ∈ lw_all) (hini : Cond.initialized cls ∈ lw_all) (ha : ∀ w ∈ ((nx_at RX4 ic cls ix rx Y r).filter vx_no).filter goodWord, w ∈ lw_all) (hb : ∀ w ∈ ((nx_at RX4 ic cls ix rx Y r).filter vx_no).filter (fun w => !goodWord w), w ∈ gNwL)
    (hgood : ∀ w ∈ Cond.classLink RX4 ik cls :: Cond.initialized cls :: (nx_at RX4 ic cls ix rx Y r).filter vx_no, vx_ot w = true)
    (d0 : decode cc pc = .ok (.new ik, 3)) (d3 : decode cc (pc + 3) = .ok (.dup, 1)) (d4 : decode cc (pc + 4) = .ok (.ldc_w is, 3)) (d7 : decode cc (pc + 7) = .ok (.invokespecial ic, 3)) (d10 : decode cc (pc + 10) = .ok (.athrow, 1))
    (hR : r.length + 4 < fr ∧ 8 + (13 * (r.length + 2) + 43) ≤ lo) (hcat : (st.map fun v => v.category).sum ≤ 8) (hkn : k + 1 ≤ mc ∧ n + 6 ≤ ms ∧ k + 1 ≤ mcc ∧ n + 6 ≤ msc) (hp : pxc cls ws) : G x g nL k n ws pc lv st := by
  intro H locs ls hP hD hS h
  obtain ⟨z1, z2, z3, z4, z5, z6⟩ := hZ
  have hRm := hC.2.2.2.2.2.2.2.2.2.1
  have hKc := hC.2.2.2.2.2.2.2.2.2.2
  unfold gW
  rw [z3]
  refine nx_throw (A := x_A x) (text := text) (sa := g.2.2.1 i) hC.1 hC.2.1 z6 x0 x1 x2 x5 hC.2.2.2.1 hcls hY hnames (hC.2.2.2.2.1 _ hk) (hC.2.2.2.2.1 _ hini) (hKc.2.1 i _ hi)
    (vx_hat (fun w hw => hC.2.2.2.2.1 w (ha w hw)) hb (z5.use _)) hgood hKc.1.2.2.2.2.1 hKc.1.2.2.2.2.2.1 hS (h.1.trans hC.2.2.1.symm) d0 d3 d4 d7 d10 (fun z hz => (z4 z hz).elim) ?_ ?_ ?_ ?_ hC.2.2.2.2.2.2.2.1 ?_ ?_ hkn.2.2.1 hkn.2.2.2
  · rw [hRm]; exact hR.1
  · rw [hRm]
    have h9 := hR.2
    show _ ≤ lo
    omega
  · rw [hRm]; exact hkn.1
  · rw [hRm]; exact hkn.2.1
  · intro t hal h1 h2
    refine ⟨ws, hp, gKept hP h2, by rw [← z2]; exact hD, Nat.le_trans hS.1 h1, fun q hq hA => ?_⟩
    rw [h2 q (Nat.lt_of_lt_of_le hq hS.1)]
    exact hS.2.1 q hq (by rw [z2]; exact hA)
  · rw [← z2]; exact hS.2.2
theorem gBlindX {wc : va_W} {sz : Nat} {As : List Value} : FrameBlind (va_Pc As (gPreX g wc sz)) := by
  intro a U f mk q
  obtain ⟨q0, ⟨q1, qP, qK, qD, qC⟩, qN⟩ := q
  exact ⟨q0, ⟨q1, qP, va_K.moved (u := U) (U := U.calling f mk a) (Vm.Alike.refl U.vm) qK, qD, gKc.same rfl qC⟩, gNw.same (u := U) (U := U.calling f mk a) rfl qN⟩
theorem g_callVX (hC : gC x l cc nL own g fr lo mc ms) (hZ : gZX x g retc wcc postc pxc mcc msc)
    {y : MethodName} {b : ByteArray} {nM fr' lo' mc' ms' np : Nat} {ret : Option FieldType} {wc : va_W} {As As' : List Value} {post : Option Value → va_W → Prop} {px : String → va_W → Prop} (hF : FnX l g y b nM ret fr' lo' mc' ms' wc As' post px) (hY : gYv y b nM ret np) {idx : Nat} (hd : decode cc pc = .ok (.invokevirtual idx, 3)) (pc2 : Nat) (e : pc + 3 = pc2) (hl : Cond.methodLink own idx y ∈ lw_all)
    (pre suf : va_W) (hw : ws = pre ++ (wc ++ suf)) {a : Nat} (rest : List Value) (hAs : As' = .ref a :: As) (hst : st = As.reverse ++ .ref a :: rest) (hn : As.length = np) (q0 ci : Nat) {fs : List Value} {T : u_T} {N : Nat} (hci : vwCl[ci]? = some (y.cls, T, N)) (hq0 : wc[q0]? = some (a, .inr (ci, fs)))
    (hR : fr' + 1 ≤ fr ∧ 8 + (nM + 11) + lo' ≤ lo) (hcat : (rest.map fun v => v.category).sum ≤ 8) (hkn : k + mc' ≤ mc ∧ n + ms' ≤ ms) (hkx : k + mc' ≤ mcc ∧ n + ms' ≤ msc)
    (kx : ∀ (E : String) (w1 : va_W), px E w1 → pxc E (pre ++ (w1 ++ suf)))
    (kk : ∀ (r : Option Value) (w1 : va_W), post r w1 → G x g nL (k + mc') (n + ms') (pre ++ (w1 ++ suf)) pc2 lv (r.toList ++ rest)) : G x g nL k n ws pc lv st := by
  subst hw; subst hAs; subst hst; subst e
  intro H locs ls hP hD hS h
  obtain ⟨⟨y1, y2, y3⟩, y4, y5⟩ := hY
  obtain ⟨z1, z2, z3, z4, z5, z6⟩ := hZ
  have hM := hF (by rw [← hC.2.2.2.2.2.2.2.2.1]; exact z6) H.size
  rw [← hC.2.2.2.2.2.2.2.2.1] at hM
  have hT : GoodIn lw_all (wsV own idx y.cls y (.code y b nM ret :: lw_all)) := fun w hw => lw_goodAll w (by
    rcases List.mem_append.mp hw with h1 | h1
    · simp only [List.mem_cons, List.not_mem_nil, or_false] at h1
      rcases h1 with rfl | rfl | rfl | rfl
      · exact hl
      · exact y4
      · exact y5
      · exact y1
    · rcases List.mem_cons.mp h1 with rfl | h1
      · exact y2
      · exact h1)
  have hr : vx_Run (x_p x) (x_l x) (x_e x) (x_R x) (x_s x) (x_m x) (x_args x) (x_below x) (x_meth x) (x_c x) H locs k n mc' ms' (F0 (x_m x) pc ls (As.reverse ++ .ref a :: rest)) rest (gEnd g wc H.size post (Value.ref a :: As).toArray) (gXC g wc H.size px) (va_A wc H.size) := vx_runV (As := As) (rest := rest) ⟨hC.1, hC.2.1, hC.2.2.1, hC.2.2.2.1, hC.2.2.2.2.1⟩ hM (cwV np hC.2.2.2.2.1 hT rfl rfl rfl ⟨rfl, y3⟩ (gRoom2 hC hR))
    ⟨gBlindX, va_recv hC.2.2.2.2.2.1 (gSub hP) hci hq0, fun U hU hW => ⟨rfl, gYes hC hP hD hS hU hW, z5.warm hW⟩⟩ (g := F0 (x_m x) pc ls (As.reverse ++ .ref a :: rest)) rfl hn h.1 rfl (lv_room hcat) hd (gRoom hC hkn)
  unfold gW
  rw [z3]
  intro T hT2 X
  rcases hr T hT2 X with ⟨v, st₀, t, T', L, h0, X', hL, e1, e2, ⟨r, w1, hv, hp, hP1, hD1, hz, hk⟩, stp⟩ | ⟨q, st₀, t, T', L, E, ce, h0, X', hL, e1, e2, ⟨w1, hp, hP1, hD1, hz, hk⟩, hce, hcv, hcl, stp⟩
  · cases hv
    rw [h0] at hz hk
    have hFr := gFree hD hS hC.2.2.2.2.2.2.1
    have hk' : ∀ q : Nat, q < H.size → ¬ va_A wc H.size q → t.heap[q]? = H[q]? := hk
    obtain ⟨hP2, hD2⟩ := gJoin hP hD hk' hFr hP1 hD1
    rw [← e1] at hP2
    have hS2 : va_S (x_A x) (x_s x).heap T'.heap (locs ++ L) := ⟨Nat.le_trans hS.1 (by rw [e1]; exact hz), fun q h1 h2 => by rw [e1, hk' q (Nat.lt_of_lt_of_le h1 hS.1) (fun z => h2 (hFr q z))]; exact hS.2.1 q h1 h2, fun q hq => by
        rcases List.mem_append.mp hq with h | h
        · exact hS.2.2 q h
        · exact hFr _ (hL q h)⟩
    have h8 := kk v w1 hp T'.heap (locs ++ L) ls hP2 hD2 hS2 h
    unfold gW at h8
    rw [z3] at h8
    obtain ⟨t2, a1, b1⟩ := h8 T' rfl X'
    exact ⟨t2, stp t2 a1, b1⟩
  · rw [h0] at hz hk
    have hFr := gFree hD hS hC.2.2.2.2.2.2.1
    have hk' : ∀ q : Nat, q < H.size → ¬ va_A wc H.size q → t.heap[q]? = H[q]? := hk
    obtain ⟨hP2, hD2⟩ := gJoin hP hD hk' hFr hP1 hD1
    rw [← e1] at hP2
    have hS2 : va_S (x_A x) (x_s x).heap T'.heap (locs ++ L) := ⟨Nat.le_trans hS.1 (by rw [e1]; exact hz), fun q h1 h2 => by rw [e1, hk' q (Nat.lt_of_lt_of_le h1 hS.1) (fun z => h2 (hFr q z))]; exact hS.2.1 q h1 h2, fun q hq => by
        rcases List.mem_append.mp hq with h | h
        · exact hS.2.2 q h
        · exact hFr _ (hL q h)⟩
    have h8 : vx_W (x_p x) (x_l x) (x_e x) (x_R x) (x_s x) (x_m x) (x_args x) (x_below x) (x_meth x) (x_c x) T'.heap (locs ++ L) (k + mc') (n + ms') (vx_MQ (x_below x) (gEnd g wcc (x_s x).heap.size postc) (gXC g wcc (x_s x).heap.size pxc) (x_args x) (x_s x) mcc msc (va_A wcc (x_s x).heap.size)) (F0 (x_m x) pc ls rest) q :=
      vx_out (fun z hz => (z4 z hz).elim) hC.2.2.2.2.2.2.2.1 (by rw [e1]; exact hce) hcv hcl (fun t9 ht9 _ => ⟨pre ++ (w1 ++ suf), kx E w1 hp, by rw [ht9]; exact hP2, by rw [← z2]; exact hD2, by rw [← z2]; exact hS2.F ht9⟩) (by rw [← z2]; exact hS2.2.2) hkx.1 hkx.2
    obtain ⟨t2, a1, b1⟩ := h8 T' rfl X'
    exact ⟨t2, stp.trans a1, b1⟩
end GX
/-- ends of throwing: the state behind it -/
def pX {S : Type} (W : S → va_W) (px : Nat → S → Prop) : String → va_W → Prop := fun E w => ∃ (i : Nat) (s : S), gEx[i]? = some E ∧ w = W s ∧ px i s

