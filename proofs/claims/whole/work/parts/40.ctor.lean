/-! ===== things that are made: rows, contracts of constructors ===== -/
section GNEW
variable {x : gX} {l : Launch} {cc : ByteArray} {nL : Nat} {own : String} {g : gE} {fr lo mc ms k n pc : Nat} {ws : va_W} {lv : List (Nat × Value)} {st : List Value}
theorem gArr (hC : gC x l cc nL own g fr lo mc ms) {j : Nat} {q : ClassId × FieldType} (hj : (gT g)[j]? = some q) {cA : ClassId} (h : va_RA (x_s x) cA q.2) : cA = q.1 := by
  have h2 := (hC.2.2.2.2.2.1.2 j q hj).2
  obtain ⟨c, t⟩ := q
  cases t with
  | object C =>
    obtain ⟨kA, comp, -, -, -, h4⟩ := h
    obtain ⟨kB, comp2, -, -, -, h5⟩ := h2
    exact Option.some.inj (h4.symm.trans h5)
  | _ => exact Option.some.inj (h.symm.trans h2)
theorem gLast {cl : List vw_C} {tys : List (ClassId × FieldType)} {D : va_G} {U : State} {q : ClassId × FieldType} (h : va_K D cl (tys ++ [q]) U) : va_RA U q.1 q.2 :=
  (h.2 tys.length q (by rw [List.getElem?_append_right (Nat.le_refl _), Nat.sub_self]; rfl)).2
/-- 'newarray' of the kind j of gT, its things at the start: a0 -/
theorem g_newa (hC : gC x l cc nL own g fr lo mc ms) (j : Nat) {atype : ArrayType} {cj : ClassId} {ty : FieldType} (hty : newarray.typeOf atype = ty) (hj : (gT g)[j]? = some (cj, ty)) (harr : Cond.arrayClass (newarray.typeOf atype) ∈ lw_all) {z : Int32} (N : Nat) {a0 : vp_A} (ha : ∀ cA : ClassId, vp_cell cA a0 = arrV cA N (fun _ => defaultValue ty)) (hn : ¬ z < 0) (hN : z.toNatClampNeg = N) (hb : N * componentBytes ty ≤ 536870912) (hkn : k + 1 ≤ mc ∧ n + N ≤ ms)
    (hd : decode cc pc = .ok (.newarray atype, 2)) (pc2 : Nat) (e : pc + 2 = pc2) (kk : ∀ q : Nat, G x g nL (k + 1) (n + N) (ws ++ [(q, .inl (cj, a0))]) pc2 lv (.ref q :: st)) : G x g nL k n ws pc lv (.int z :: st) := by
  subst e
  intro H locs ls hP hD hS h
  have hRm := hC.2.2.2.2.2.2.2.2.2.1
  refine va_newa hC.1 hC.2.1 (hC.2.2.2.2.1 _ harr) hty hC.2.2.2.2.2.1 hP hD hS hC.2.2.2.2.2.2.1 ha hn hN hb (by rw [hRm]; exact hkn.1) (by rw [hRm]; exact hkn.2) hd ?_
  intro q cA H1 hK1 hP1 hD1 hS1
  have e1 : cA = cj := gArr hC hj (gLast hK1)
  subst e1
  exact kk q H1 locs ls hP1 hD1 hS1 h
/-- 'anewarray' of offices -/
theorem g_newq (hC : gC x l cc nL own g fr lo mc ms) (hAO : va_AO "SockEmbassy$Office" (x_s x)) {index : Nat} (hcl : Cond.classLink own index "SockEmbassy$Office" ∈ lw_all) {z : Int32} (N : Nat) (hn : ¬ z < 0) (hN : z.toNatClampNeg = N) (hb : N * 4 ≤ 536870912) (hkn : k + 1 ≤ mc ∧ n + N ≤ ms)
    (hd : decode cc pc = .ok (.anewarray index, 3)) (pc2 : Nat) (e : pc + 3 = pc2) (kk : ∀ q : Nat, G x g nL (k + 1) (n + N) (ws ++ [(q, .inl (g.2.1 3, N, .inr (.inr (.inr (.inr (fun _ => none))))))]) pc2 lv (.ref q :: st)) : G x g nL k n ws pc lv (.int z :: st) := by
  subst e
  intro H locs ls hP hD hS h
  have hRm := hC.2.2.2.2.2.2.2.2.2.1
  refine va_newq hC.1 hC.2.1 hC.2.2.2.1 (hC.2.2.2.2.1 _ hcl) hAO hC.2.2.2.2.2.1 hP hD hS hC.2.2.2.2.2.2.1 hn hN hb (by rw [hRm]; exact hkn.1) (by rw [hRm]; exact hkn.2) hd ?_
  intro q cA H1 hK1 hP1 hD1 hS1
  have e1 : cA = g.2.1 3 := gArr hC (j := 3) (q := (g.2.1 3, .object "SockEmbassy$Office")) rfl (gLast hK1)
  subst e1
  exact kk q H1 locs ls hP1 hD1 hS1 h
theorem g_astq (hC : gC x l cc nL own g fr lo mc ms) {a N v : Nat} {f : Nat → Option Nat} {i : Int32} {vs : List Value} {ws2 : va_W} (hd : decode cc pc = .ok (.aastore, 1)) (pc2 : Nat) (e : pc + 1 = pc2) (q0 qk : Nat) (ha : ws[q0]? = some (a, .inl (g.2.1 3, N, .inr (.inr (.inr (.inr f)))))) (hv : ws[qk]? = some (v, .inr (7, vs))) (hin : vp_in i N) (hw : ws.set q0 (a, .inl (g.2.1 3, N, .inr (.inr (.inr (.inr (va_up f i.toNatClampNeg (some v))))))) = ws2) (kk : G x g nL k n ws2 pc2 lv st) : G x g nL k n ws pc lv (.ref v :: .int i :: .ref a :: st) := by
  subst e; subst hw
  intro H locs ls hP hD hS h
  exact va_astq hC.1 hC.2.1 hC.2.2.2.2.2.1 hP hD hS q0 3 qk 7 ha rfl hv rfl hin hd (fun H1 locs1 hP1 hD1 hS1 => kk H1 locs1 ls hP1 hD1 hS1 h)
/-- 'new' of a kind of ours -/
theorem g_new (hC : gC x l cc nL own g fr lo mc ms) {C : String} {T : u_T} {N ci index : Nat} (hc : vwCl[ci]? = some (C, T, N)) (ty : Nat → FieldType) (hty : ∀ k, k < N → parseFieldDescriptor (T k).2.2.1 = some (ty k)) (hin : ∀ w ∈ u_ws C T N, w ∈ lw_all) (hcl : Cond.classLink own index C ∈ lw_all) (hinst : Cond.instantiable C N ∈ lw_all) (hini : Cond.initialized C ∈ lw_all) {fs : List Value} (hfs : ∀ j, j < N → defaultValue (ty j) = vp_V fs j) (hkn : k + 1 ≤ mc ∧ n + N ≤ ms)
    (hd : decode cc pc = .ok (.new index, 3)) (pc2 : Nat) (e : pc + 3 = pc2) (kk : ∀ q : Nat, G x g nL (k + 1) (n + N) (ws ++ [(q, .inr (ci, fs))]) pc2 lv (.ref q :: st)) : G x g nL k n ws pc lv st := by
  subst e
  intro H locs ls hP hD hS h
  have hRm := hC.2.2.2.2.2.2.2.2.2.1
  exact va_new hC.1 hC.2.1 hC.2.2.2.2.1 hin ty hty hC.2.2.2.1 (hC.2.2.2.2.1 _ hcl) (hC.2.2.2.2.1 _ hinst) (hC.2.2.2.2.1 _ hini) hC.2.2.2.2.2.1 hP hD hS hC.2.2.2.2.2.2.1 hc hfs (by rw [hRm]; exact hkn.1) (by rw [hRm]; exact hkn.2) hd (fun q H1 hP1 hD1 hS1 => kk q H1 locs ls hP1 hD1 hS1 h)
/-- Object's constructor -/
theorem g_oinit (hC : gC x l cc nL own g fr lo mc ms) {a idx : Nat} (hl : Cond.methodLink own idx Lib.objectInit ∈ lw_all) (w1 : Cond.instanceMethod Lib.objectInit ∈ lw_all) (w2 : Cond.code Lib.objectInit ⟨#[0xb1]⟩ 1 none ∈ lw_all) (hd : decode cc pc = .ok (.invokespecial idx, 3)) (pc2 : Nat) (e : pc + 3 = pc2) (hR : 1 ≤ fr ∧ 20 ≤ lo) (hcat : (st.map fun v => v.category).sum ≤ 8) (kk : G x g nL k n ws pc2 lv st) : G x g nL k n ws pc lv (.ref a :: st) := by
  subst e
  intro H locs ls hP hD hS h
  have hRm := hC.2.2.2.2.2.2.2.2.2.1
  refine W.objInit hC.1 hC.2.1 hC.2.2.2.1 (hC.2.2.2.2.1 _ hl) (hC.2.2.2.2.1 _ w1) (hC.2.2.2.2.1 _ w2) (g := F0 (x_m x) pc ls (.ref a :: st)) rfl (h.1.trans hC.2.2.1.symm) rfl hd (by rw [hRm]; exact hR.1) ?_ (kk H locs ls hP hD hS h)
  rw [hRm]
  have h8 := hR.2
  show 2 * 0 + (st.map fun v => v.category).sum + 12 ≤ lo
  omega
/-- the same cells, said in other words -/
theorem g_alt {ws2 : va_W} (hP2 : ∀ H, va_P g.1 vwCl ws H → va_P g.1 vwCl ws2 H) (hA : ws2.map Prod.fst = ws.map Prod.fst) (kk : G x g nL k n ws2 pc lv st) : G x g nL k n ws pc lv st :=
  fun H locs ls hP hD hS h => kk H locs ls (hP2 H hP) (va_D_iff.mpr ⟨by rw [hA]; exact (va_D_iff.mp hD).1, fun q hq => by
    have h1 : q.1 ∈ ws.map Prod.fst := by rw [← hA]; exact List.mem_map_of_mem hq
    obtain ⟨z, hz, e⟩ := List.mem_map.mp h1
    rw [← e]
    exact (va_D_iff.mp hD).2 z hz⟩) hS h
theorem arrV_same {cI : ClassId} {N : Nat} {f f2 : Nat → Value} (h : ∀ j, j < N → f j = f2 j) : arrV cI N f = arrV cI N f2 := by
  unfold arrV
  congr 2
  funext j
  exact h j.val j.isLt
end GNEW
/-- a constructor's contract, or another's that wants the words that no contract carries -/
def FnN (l : Launch) (g : gE) (y : MethodName) (b : ByteArray) (n : Nat) (ret : Option FieldType) (fr lo mc ms : Nat) (wc : va_W) (As : List Value) (post : Option Value → va_W → Prop) : Prop :=
  ∀ sz : Nat, Met l y (.code y b n ret :: lw_all) ({ frames := fr, cells := mc, slots := ms, locals := lo } : Room) (va_Pc As (gPreX g wc sz)) (gEnd g wc sz post) mc ms (va_A wc sz)
theorem FnN.of {l : Launch} {g : gE} {y : MethodName} {b : ByteArray} {n : Nat} {ret : Option FieldType} {fr lo mc ms : Nat} {wc : va_W} {As : List Value} {post : Option Value → va_W → Prop} (hy : plainName y.cls = true) (hlen : (lg_sl As).length ≤ n)
    (body : ∀ x : gX, gC x l b n y.cls g fr lo mc ms → gZ x g ret wc post mc ms → gNw (x_s x) → (x_meth x).name = y.name → G x g n 0 0 wc 0 (lv_args 0 As) []) : FnN l g y b n ret fr lo mc ms wc As post := by
  intro sz
  refine Met.ofW (cc := b) (maxL := n) (ret := ret) hy rfl ?_
  intro p e s m args below meth c s₁ B hml hv
  obtain ⟨rfl, ⟨hsz, hP, hK, hD0, hKc⟩, hNw⟩ := hv
  subst hsz
  have hD := hD0.self (sz := s.heap.size)
  have hts := atoms_spec (ws := .code y b n ret :: lw_all) B.pre
  have hl := lv_entry As (n := n) hlen
  rw [lg_entry_eq]
  exact body (p, l, e, (headSpec (.code y b n ret :: lw_all) ({ frames := fr, cells := mc, slots := ms, locals := lo } : Room)).room, s, m, As.toArray, below, meth, c, va_A wc s.heap.size, MQ below (gEnd g wc s.heap.size post) As.toArray s mc ms (va_A wc s.heap.size))
    ⟨B.exec, B.bytes, hml, findClass_of_methodNamed B.named, fun w hw => hts w (List.mem_cons_of_mem _ hw), hK, fun q hq => Or.inr hq, B.notSynchronized, rfl, rfl, hKc⟩ ⟨B.returns, rfl, rfl⟩ hNw (name_of_methodNamed B.named B.method).1 s.heap [] _ hP hD va_S.rf hl
/-- .. a plain one, its name known -/
theorem Fn.ofI {l : Launch} {g : gE} {y : MethodName} {b : ByteArray} {n : Nat} {ret : Option FieldType} {fr lo mc ms : Nat} {wc : va_W} {As : List Value} {post : Option Value → va_W → Prop} (hy : plainName y.cls = true) (hlen : (lg_sl As).length ≤ n)
    (body : ∀ x : gX, gC x l b n y.cls g fr lo mc ms → gZ x g ret wc post mc ms → (x_meth x).name = y.name → G x g n 0 0 wc 0 (lv_args 0 As) []) : Fn l g y b n ret fr lo mc ms wc As post := by
  intro sz
  refine Met.ofW (cc := b) (maxL := n) (ret := ret) hy rfl ?_
  intro p e s m args below meth c s₁ B hml hv
  obtain ⟨rfl, hsz, hP, hK, hD0, hKc⟩ := hv
  subst hsz
  have hD := hD0.self (sz := s.heap.size)
  have hts := atoms_spec (ws := .code y b n ret :: lw_all) B.pre
  have hl := lv_entry As (n := n) hlen
  rw [lg_entry_eq]
  exact body (p, l, e, (headSpec (.code y b n ret :: lw_all) ({ frames := fr, cells := mc, slots := ms, locals := lo } : Room)).room, s, m, As.toArray, below, meth, c, va_A wc s.heap.size, MQ below (gEnd g wc s.heap.size post) As.toArray s mc ms (va_A wc s.heap.size))
    ⟨B.exec, B.bytes, hml, findClass_of_methodNamed B.named, fun w hw => hts w (List.mem_cons_of_mem _ hw), hK, fun q hq => Or.inr hq, B.notSynchronized, rfl, rfl, hKc⟩ ⟨B.returns, rfl, rfl⟩ (name_of_methodNamed B.named B.method).1 s.heap [] _ hP hD va_S.rf hl
section GNEW2
variable {x : gX} {l : Launch} {cc : ByteArray} {nL : Nat} {own : String} {g : gE} {fr lo mc ms k n pc : Nat} {ws : va_W} {lv : List (Nat × Value)} {st : List Value}
theorem g_callIW (hC : gC x l cc nL own g fr lo mc ms) (hNw : gNw (x_s x))
    {y : MethodName} {b : ByteArray} {nM fr' lo' mc' ms' np : Nat} {wc : va_W} {As As' : List Value} {post : Option Value → va_W → Prop} (hF : FnN l g y b nM none fr' lo' mc' ms' wc As' post) (hY : gYi y b nM np) {idx : Nat} (hd : decode cc pc = .ok (.invokespecial idx, 3)) (pc2 : Nat) (e : pc + 3 = pc2) (hl : Cond.methodLink own idx y ∈ lw_all)
    (pre suf : va_W) (hw : ws = pre ++ (wc ++ suf)) {a : Nat} (rest : List Value) (hAs : As' = .ref a :: As) (hst : st = As.reverse ++ .ref a :: rest) (hn : As.length = np)
    (hR : fr' + 1 ≤ fr ∧ 8 + (nM + 11) + lo' ≤ lo) (hcat : (rest.map fun v => v.category).sum ≤ 8) (hkn : k + mc' ≤ mc ∧ n + ms' ≤ ms)
    (kk : ∀ (r : Option Value) (w1 : va_W), post r w1 → G x g nL (k + mc') (n + ms') (pre ++ (w1 ++ suf)) pc2 lv (r.toList ++ rest)) : G x g nL k n ws pc lv st := by
  subst hw; subst hAs; subst hst
  intro H locs ls hP hD hS h
  obtain ⟨⟨y1, y2, y3⟩, y4, y5⟩ := hY
  have hM := hF H.size
  rw [← hC.2.2.2.2.2.2.2.2.1] at hM
  have hts := hC.2.2.2.2.1
  exact gBack hC hP hD hS h e (va_runI (As := As) (rest := rest) ⟨hC.1, hC.2.1, hC.2.2.1, hC.2.2.2.1, hC.2.2.2.2.1⟩ hM (cwI np hts (lw_goodM y2) rfl rfl rfl (hts _ y1) (hts _ hl) (hts _ y4) y5 y3 (gRoom2 hC hR))
    ⟨gBlindX, fun U hU hW => ⟨rfl, gYes hC hP hD hS hU hW, hNw.warm hW⟩⟩ rfl hn h.1 rfl (lv_room hcat) hd (gRoom hC hkn)) kk
end GNEW2

theorem vp_in_d {i : Int32} {N : Nat} (h : ¬ (i < 0 ∨ N ≤ i.toNatClampNeg)) : vp_in i N := h
theorem oi_w1 : Cond.instanceMethod Lib.objectInit ∈ lw_all := lw_inT 37 (by decide +kernel) rfl
theorem oi_w2 : Cond.code Lib.objectInit ⟨#[0xb1]⟩ 1 none ∈ lw_all := lw_inT 38 (by decide +kernel) rfl
theorem ff_X0_12 : gFf RX0 4 0 12 (.object "SockEmbassy$Office") := ⟨RX0, TX0, 2, tyX0, rfl, by decide, uw_X0, lw_inT 122 (by decide +kernel) rfl, tyX0_ok, nmX0, rfl, rfl, by decide +kernel⟩
theorem ff_X1_9 : gFf RX1 5 0 9 (.array .char) := ⟨RX1, TX1, 7, tyX1, rfl, by decide, uw_X1, lw_inT 166 (by decide +kernel) rfl, tyX1_ok, nmX1, rfl, rfl, by decide +kernel⟩
theorem ff_X1_15 : gFf RX1 5 1 15 (.array .int) := ⟨RX1, TX1, 7, tyX1, rfl, by decide, uw_X1, lw_inT 167 (by decide +kernel) rfl, tyX1_ok, nmX1, rfl, rfl, by decide +kernel⟩
theorem ff_X1_19 : gFf RX1 5 2 19 (.array .int) := ⟨RX1, TX1, 7, tyX1, rfl, by decide, uw_X1, lw_inT 168 (by decide +kernel) rfl, tyX1_ok, nmX1, rfl, rfl, by decide +kernel⟩
theorem ff_X3_9 : gFf RX3 7 5 9 (.array .int) := ⟨RX3, TX3, 16, tyX3, rfl, by decide, uw_X3, lw_inT 63 (by decide +kernel) rfl, tyX3_ok, nmX3, rfl, rfl, by decide +kernel⟩
theorem ff_X3_15 : gFf RX3 7 6 15 (.array .int) := ⟨RX3, TX3, 16, tyX3, rfl, by decide, uw_X3, lw_inT 64 (by decide +kernel) rfl, tyX3_ok, nmX3, rfl, rfl, by decide +kernel⟩
theorem ff_X3_18 : gFf RX3 7 7 18 (.array .int) := ⟨RX3, TX3, 16, tyX3, rfl, by decide, uw_X3, lw_inT 67 (by decide +kernel) rfl, tyX3_ok, nmX3, rfl, rfl, by decide +kernel⟩
theorem ff_X3_21 : gFf RX3 7 8 21 (.array .int) := ⟨RX3, TX3, 16, tyX3, rfl, by decide, uw_X3, lw_inT 70 (by decide +kernel) rfl, tyX3_ok, nmX3, rfl, rfl, by decide +kernel⟩
theorem ff_X3_24 : gFf RX3 7 9 24 (.array .int) := ⟨RX3, TX3, 16, tyX3, rfl, by decide, uw_X3, lw_inT 73 (by decide +kernel) rfl, tyX3_ok, nmX3, rfl, rfl, by decide +kernel⟩
theorem ff_X3_27 : gFf RX3 7 10 27 (.array .int) := ⟨RX3, TX3, 16, tyX3, rfl, by decide, uw_X3, lw_inT 76 (by decide +kernel) rfl, tyX3_ok, nmX3, rfl, rfl, by decide +kernel⟩
theorem ff_X3_30 : gFf RX3 7 11 30 (.array .int) := ⟨RX3, TX3, 16, tyX3, rfl, by decide, uw_X3, lw_inT 77 (by decide +kernel) rfl, tyX3_ok, nmX3, rfl, rfl, by decide +kernel⟩
theorem ff_X3_33 : gFf RX3 7 12 33 (.array .int) := ⟨RX3, TX3, 16, tyX3, rfl, by decide, uw_X3, lw_inT 80 (by decide +kernel) rfl, tyX3_ok, nmX3, rfl, rfl, by decide +kernel⟩
theorem ff_X3_36 : gFf RX3 7 13 36 (.array .int) := ⟨RX3, TX3, 16, tyX3, rfl, by decide, uw_X3, lw_inT 83 (by decide +kernel) rfl, tyX3_ok, nmX3, rfl, rfl, by decide +kernel⟩
theorem ff_X3_39 : gFf RX3 7 14 39 (.array .int) := ⟨RX3, TX3, 16, tyX3, rfl, by decide, uw_X3, lw_inT 86 (by decide +kernel) rfl, tyX3_ok, nmX3, rfl, rfl, by decide +kernel⟩
theorem ff_X3_42 : gFf RX3 7 15 42 (.array .int) := ⟨RX3, TX3, 16, tyX3, rfl, by decide, uw_X3, lw_inT 87 (by decide +kernel) rfl, tyX3_ok, nmX3, rfl, rfl, by decide +kernel⟩
theorem ff_X5_7 : gFf RX5 9 0 7 (.array .int) := ⟨RX5, TX5, 24, tyX5, rfl, by decide, uw_X5, lw_inT 1670 (by decide +kernel) rfl, tyX5_ok, nmX5, rfl, rfl, by decide +kernel⟩
theorem ff_X5_13 : gFf RX5 9 1 13 (.array .int) := ⟨RX5, TX5, 24, tyX5, rfl, by decide, uw_X5, lw_inT 1671 (by decide +kernel) rfl, tyX5_ok, nmX5, rfl, rfl, by decide +kernel⟩
theorem ff_X5_16 : gFf RX5 9 2 16 (.array .int) := ⟨RX5, TX5, 24, tyX5, rfl, by decide, uw_X5, lw_inT 1672 (by decide +kernel) rfl, tyX5_ok, nmX5, rfl, rfl, by decide +kernel⟩
theorem ff_X5_19 : gFf RX5 9 3 19 (.array .int) := ⟨RX5, TX5, 24, tyX5, rfl, by decide, uw_X5, lw_inT 1673 (by decide +kernel) rfl, tyX5_ok, nmX5, rfl, rfl, by decide +kernel⟩
theorem ff_X5_22 : gFf RX5 9 4 22 (.array .int) := ⟨RX5, TX5, 24, tyX5, rfl, by decide, uw_X5, lw_inT 1674 (by decide +kernel) rfl, tyX5_ok, nmX5, rfl, rfl, by decide +kernel⟩
theorem ff_X5_54 : gFf RX5 9 14 54 (.array .int) := ⟨RX5, TX5, 24, tyX5, rfl, by decide, uw_X5, lw_inT 1684 (by decide +kernel) rfl, tyX5_ok, nmX5, rfl, rfl, by decide +kernel⟩
theorem ff_X5_60 : gFf RX5 9 16 60 (.array .int) := ⟨RX5, TX5, 24, tyX5, rfl, by decide, uw_X5, lw_inT 1686 (by decide +kernel) rfl, tyX5_ok, nmX5, rfl, rfl, by decide +kernel⟩
theorem ff_X5_63 : gFf RX5 9 17 63 (.array .int) := ⟨RX5, TX5, 24, tyX5, rfl, by decide, uw_X5, lw_inT 1687 (by decide +kernel) rfl, tyX5_ok, nmX5, rfl, rfl, by decide +kernel⟩
theorem ff_X5_66 : gFf RX5 9 18 66 (.array .int) := ⟨RX5, TX5, 24, tyX5, rfl, by decide, uw_X5, lw_inT 1688 (by decide +kernel) rfl, tyX5_ok, nmX5, rfl, rfl, by decide +kernel⟩
theorem fpr_J5_15 : gFp RJ5 1 0 15 (.array .byte) := ⟨RJ4, TJ4, 4, tyJ4, rfl, by decide, uw_J4, lw_inT 209 (by decide +kernel) rfl, tyJ4_ok, nmJ4, rfl, by decide +kernel⟩
/-- an office as it is made -/
def off0 : Off := fun k => if k = 9 then (upd (upd (upd (upd (upd (fun _ => 0) ((0 : Int32)).toNatClampNeg (3 : Int32)) ((1 : Int32)).toNatClampNeg (3 : Int32)) ((2 : Int32)).toNatClampNeg (3 : Int32)) ((3 : Int32)).toNatClampNeg (3 : Int32)) ((4 : Int32)).toNatClampNeg (3 : Int32)) else fun _ => 0
set_option maxRecDepth 100000 in
set_option maxHeartbeats 4000000 in
theorem ct_X3_init (l : Launch) (g : gE) (q : Nat) : Fn l g yX3_init cX3_init 2 none 1 20 11 147 [(q, .inr (7, [.int 0, .int 0, .int 0, .int 0, .int 0, .null, .null, .null, .null, .null, .null, .null, .null, .null, .null, .null]))] [.ref q] (fun r w => ∃ a : Nat → Nat, a 0 = q ∧ r = none ∧ w = offW g a off0) := by
  refine Fn.ofI (by decide) (Nat.le_of_ble_eq_true rfl) (fun x hC hZ hin => ?_)
  show G x g 2 0 0 [(q, .inr (7, [.int 0, .int 0, .int 0, .int 0, .int 0, .null, .null, .null, .null, .null, .null, .null, .null, .null, .null, .null]))] 0 [(0, .ref q)] []
  refine g_aload_n hC dX3_init_0 1 rfl rfl 0 rfl ?_
  refine g_oinit hC (lw_inT 50 (by decide +kernel) rfl) oi_w1 oi_w2 dX3_init_1 4 rfl ⟨Nat.le_of_ble_eq_true rfl, Nat.le_of_ble_eq_true rfl⟩ (Nat.le_of_ble_eq_true rfl) ?_
  refine g_aload_n hC dX3_init_4 5 rfl rfl 0 rfl ?_
  refine g_bipush hC (14 : Int32) dX3_init_5 7 rfl bipush_14 ?_
  refine g_newa hC 0 (ty := .int) rfl rfl (lw_inT 121 (by decide +kernel) rfl) 14 (a0 := (14, .inl (fun _ => 0))) (fun _ => rfl) (by decide) (by decide) (Nat.le_of_ble_eq_true rfl) ⟨Nat.le_of_ble_eq_true rfl, Nat.le_of_ble_eq_true rfl⟩ dX3_init_7 9 rfl (fun q1 => ?_)
  refine g_ws (ws2 := [(q, .inr (7, [.int 0, .int 0, .int 0, .int 0, .int 0, .null, .null, .null, .null, .null, .null, .null, .null, .null, .null, .null])), (q1, .inl (g.2.1 0, 14, .inl (fun _ => 0)))]) rfl ?_
  refine g_putF (ws2 := [(q, .inr (7, [.int 0, .int 0, .int 0, .int 0, .int 0, .ref q1, .null, .null, .null, .null, .null, .null, .null, .null, .null, .null])), (q1, .inl (g.2.1 0, 14, .inl (fun _ => 0)))]) hC hin ff_X3_9 dX3_init_9 12 rfl 0 rfl rfl rfl (Nat.le_of_ble_eq_true rfl) rfl ?_
  refine g_aload_n hC dX3_init_12 13 rfl rfl 0 rfl ?_
  refine g_bipush hC (14 : Int32) dX3_init_13 15 rfl bipush_14 ?_
  refine g_newa hC 0 (ty := .int) rfl rfl (lw_inT 121 (by decide +kernel) rfl) 14 (a0 := (14, .inl (fun _ => 0))) (fun _ => rfl) (by decide) (by decide) (Nat.le_of_ble_eq_true rfl) ⟨Nat.le_of_ble_eq_true rfl, Nat.le_of_ble_eq_true rfl⟩ dX3_init_15 17 rfl (fun q2 => ?_)
  refine g_ws (ws2 := [(q, .inr (7, [.int 0, .int 0, .int 0, .int 0, .int 0, .ref q1, .null, .null, .null, .null, .null, .null, .null, .null, .null, .null])), (q1, .inl (g.2.1 0, 14, .inl (fun _ => 0))), (q2, .inl (g.2.1 0, 14, .inl (fun _ => 0)))]) rfl ?_
  refine g_putF (ws2 := [(q, .inr (7, [.int 0, .int 0, .int 0, .int 0, .int 0, .ref q1, .ref q2, .null, .null, .null, .null, .null, .null, .null, .null, .null])), (q1, .inl (g.2.1 0, 14, .inl (fun _ => 0))), (q2, .inl (g.2.1 0, 14, .inl (fun _ => 0)))]) hC hin ff_X3_15 dX3_init_17 20 rfl 0 rfl rfl rfl (Nat.le_of_ble_eq_true rfl) rfl ?_
  refine g_aload_n hC dX3_init_20 21 rfl rfl 0 rfl ?_
  refine g_bipush hC (14 : Int32) dX3_init_21 23 rfl bipush_14 ?_
  refine g_newa hC 0 (ty := .int) rfl rfl (lw_inT 121 (by decide +kernel) rfl) 14 (a0 := (14, .inl (fun _ => 0))) (fun _ => rfl) (by decide) (by decide) (Nat.le_of_ble_eq_true rfl) ⟨Nat.le_of_ble_eq_true rfl, Nat.le_of_ble_eq_true rfl⟩ dX3_init_23 25 rfl (fun q3 => ?_)
  refine g_ws (ws2 := [(q, .inr (7, [.int 0, .int 0, .int 0, .int 0, .int 0, .ref q1, .ref q2, .null, .null, .null, .null, .null, .null, .null, .null, .null])), (q1, .inl (g.2.1 0, 14, .inl (fun _ => 0))), (q2, .inl (g.2.1 0, 14, .inl (fun _ => 0))), (q3, .inl (g.2.1 0, 14, .inl (fun _ => 0)))]) rfl ?_
  refine g_putF (ws2 := [(q, .inr (7, [.int 0, .int 0, .int 0, .int 0, .int 0, .ref q1, .ref q2, .ref q3, .null, .null, .null, .null, .null, .null, .null, .null])), (q1, .inl (g.2.1 0, 14, .inl (fun _ => 0))), (q2, .inl (g.2.1 0, 14, .inl (fun _ => 0))), (q3, .inl (g.2.1 0, 14, .inl (fun _ => 0)))]) hC hin ff_X3_18 dX3_init_25 28 rfl 0 rfl rfl rfl (Nat.le_of_ble_eq_true rfl) rfl ?_
  refine g_aload_n hC dX3_init_28 29 rfl rfl 0 rfl ?_
  refine g_bipush hC (14 : Int32) dX3_init_29 31 rfl bipush_14 ?_
  refine g_newa hC 0 (ty := .int) rfl rfl (lw_inT 121 (by decide +kernel) rfl) 14 (a0 := (14, .inl (fun _ => 0))) (fun _ => rfl) (by decide) (by decide) (Nat.le_of_ble_eq_true rfl) ⟨Nat.le_of_ble_eq_true rfl, Nat.le_of_ble_eq_true rfl⟩ dX3_init_31 33 rfl (fun q4 => ?_)
  refine g_ws (ws2 := [(q, .inr (7, [.int 0, .int 0, .int 0, .int 0, .int 0, .ref q1, .ref q2, .ref q3, .null, .null, .null, .null, .null, .null, .null, .null])), (q1, .inl (g.2.1 0, 14, .inl (fun _ => 0))), (q2, .inl (g.2.1 0, 14, .inl (fun _ => 0))), (q3, .inl (g.2.1 0, 14, .inl (fun _ => 0))), (q4, .inl (g.2.1 0, 14, .inl (fun _ => 0)))]) rfl ?_
  refine g_putF (ws2 := [(q, .inr (7, [.int 0, .int 0, .int 0, .int 0, .int 0, .ref q1, .ref q2, .ref q3, .ref q4, .null, .null, .null, .null, .null, .null, .null])), (q1, .inl (g.2.1 0, 14, .inl (fun _ => 0))), (q2, .inl (g.2.1 0, 14, .inl (fun _ => 0))), (q3, .inl (g.2.1 0, 14, .inl (fun _ => 0))), (q4, .inl (g.2.1 0, 14, .inl (fun _ => 0)))]) hC hin ff_X3_21 dX3_init_33 36 rfl 0 rfl rfl rfl (Nat.le_of_ble_eq_true rfl) rfl ?_
  refine g_aload_n hC dX3_init_36 37 rfl rfl 0 rfl ?_
  refine g_bipush hC (14 : Int32) dX3_init_37 39 rfl bipush_14 ?_
  refine g_newa hC 0 (ty := .int) rfl rfl (lw_inT 121 (by decide +kernel) rfl) 14 (a0 := (14, .inl (fun _ => 0))) (fun _ => rfl) (by decide) (by decide) (Nat.le_of_ble_eq_true rfl) ⟨Nat.le_of_ble_eq_true rfl, Nat.le_of_ble_eq_true rfl⟩ dX3_init_39 41 rfl (fun q5 => ?_)
  refine g_ws (ws2 := [(q, .inr (7, [.int 0, .int 0, .int 0, .int 0, .int 0, .ref q1, .ref q2, .ref q3, .ref q4, .null, .null, .null, .null, .null, .null, .null])), (q1, .inl (g.2.1 0, 14, .inl (fun _ => 0))), (q2, .inl (g.2.1 0, 14, .inl (fun _ => 0))), (q3, .inl (g.2.1 0, 14, .inl (fun _ => 0))), (q4, .inl (g.2.1 0, 14, .inl (fun _ => 0))), (q5, .inl (g.2.1 0, 14, .inl (fun _ => 0)))]) rfl ?_
  refine g_putF (ws2 := [(q, .inr (7, [.int 0, .int 0, .int 0, .int 0, .int 0, .ref q1, .ref q2, .ref q3, .ref q4, .ref q5, .null, .null, .null, .null, .null, .null])), (q1, .inl (g.2.1 0, 14, .inl (fun _ => 0))), (q2, .inl (g.2.1 0, 14, .inl (fun _ => 0))), (q3, .inl (g.2.1 0, 14, .inl (fun _ => 0))), (q4, .inl (g.2.1 0, 14, .inl (fun _ => 0))), (q5, .inl (g.2.1 0, 14, .inl (fun _ => 0)))]) hC hin ff_X3_24 dX3_init_41 44 rfl 0 rfl rfl rfl (Nat.le_of_ble_eq_true rfl) rfl ?_
  refine g_aload_n hC dX3_init_44 45 rfl rfl 0 rfl ?_
  refine g_bipush hC (14 : Int32) dX3_init_45 47 rfl bipush_14 ?_
  refine g_newa hC 0 (ty := .int) rfl rfl (lw_inT 121 (by decide +kernel) rfl) 14 (a0 := (14, .inl (fun _ => 0))) (fun _ => rfl) (by decide) (by decide) (Nat.le_of_ble_eq_true rfl) ⟨Nat.le_of_ble_eq_true rfl, Nat.le_of_ble_eq_true rfl⟩ dX3_init_47 49 rfl (fun q6 => ?_)
  refine g_ws (ws2 := [(q, .inr (7, [.int 0, .int 0, .int 0, .int 0, .int 0, .ref q1, .ref q2, .ref q3, .ref q4, .ref q5, .null, .null, .null, .null, .null, .null])), (q1, .inl (g.2.1 0, 14, .inl (fun _ => 0))), (q2, .inl (g.2.1 0, 14, .inl (fun _ => 0))), (q3, .inl (g.2.1 0, 14, .inl (fun _ => 0))), (q4, .inl (g.2.1 0, 14, .inl (fun _ => 0))), (q5, .inl (g.2.1 0, 14, .inl (fun _ => 0))), (q6, .inl (g.2.1 0, 14, .inl (fun _ => 0)))]) rfl ?_
  refine g_putF (ws2 := [(q, .inr (7, [.int 0, .int 0, .int 0, .int 0, .int 0, .ref q1, .ref q2, .ref q3, .ref q4, .ref q5, .ref q6, .null, .null, .null, .null, .null])), (q1, .inl (g.2.1 0, 14, .inl (fun _ => 0))), (q2, .inl (g.2.1 0, 14, .inl (fun _ => 0))), (q3, .inl (g.2.1 0, 14, .inl (fun _ => 0))), (q4, .inl (g.2.1 0, 14, .inl (fun _ => 0))), (q5, .inl (g.2.1 0, 14, .inl (fun _ => 0))), (q6, .inl (g.2.1 0, 14, .inl (fun _ => 0)))]) hC hin ff_X3_27 dX3_init_49 52 rfl 0 rfl rfl rfl (Nat.le_of_ble_eq_true rfl) rfl ?_
  refine g_aload_n hC dX3_init_52 53 rfl rfl 0 rfl ?_
  refine g_bipush hC (14 : Int32) dX3_init_53 55 rfl bipush_14 ?_
  refine g_newa hC 0 (ty := .int) rfl rfl (lw_inT 121 (by decide +kernel) rfl) 14 (a0 := (14, .inl (fun _ => 0))) (fun _ => rfl) (by decide) (by decide) (Nat.le_of_ble_eq_true rfl) ⟨Nat.le_of_ble_eq_true rfl, Nat.le_of_ble_eq_true rfl⟩ dX3_init_55 57 rfl (fun q7 => ?_)
  refine g_ws (ws2 := [(q, .inr (7, [.int 0, .int 0, .int 0, .int 0, .int 0, .ref q1, .ref q2, .ref q3, .ref q4, .ref q5, .ref q6, .null, .null, .null, .null, .null])), (q1, .inl (g.2.1 0, 14, .inl (fun _ => 0))), (q2, .inl (g.2.1 0, 14, .inl (fun _ => 0))), (q3, .inl (g.2.1 0, 14, .inl (fun _ => 0))), (q4, .inl (g.2.1 0, 14, .inl (fun _ => 0))), (q5, .inl (g.2.1 0, 14, .inl (fun _ => 0))), (q6, .inl (g.2.1 0, 14, .inl (fun _ => 0))), (q7, .inl (g.2.1 0, 14, .inl (fun _ => 0)))]) rfl ?_
  refine g_putF (ws2 := [(q, .inr (7, [.int 0, .int 0, .int 0, .int 0, .int 0, .ref q1, .ref q2, .ref q3, .ref q4, .ref q5, .ref q6, .ref q7, .null, .null, .null, .null])), (q1, .inl (g.2.1 0, 14, .inl (fun _ => 0))), (q2, .inl (g.2.1 0, 14, .inl (fun _ => 0))), (q3, .inl (g.2.1 0, 14, .inl (fun _ => 0))), (q4, .inl (g.2.1 0, 14, .inl (fun _ => 0))), (q5, .inl (g.2.1 0, 14, .inl (fun _ => 0))), (q6, .inl (g.2.1 0, 14, .inl (fun _ => 0))), (q7, .inl (g.2.1 0, 14, .inl (fun _ => 0)))]) hC hin ff_X3_30 dX3_init_57 60 rfl 0 rfl rfl rfl (Nat.le_of_ble_eq_true rfl) rfl ?_
  refine g_aload_n hC dX3_init_60 61 rfl rfl 0 rfl ?_
  refine g_bipush hC (14 : Int32) dX3_init_61 63 rfl bipush_14 ?_
  refine g_newa hC 0 (ty := .int) rfl rfl (lw_inT 121 (by decide +kernel) rfl) 14 (a0 := (14, .inl (fun _ => 0))) (fun _ => rfl) (by decide) (by decide) (Nat.le_of_ble_eq_true rfl) ⟨Nat.le_of_ble_eq_true rfl, Nat.le_of_ble_eq_true rfl⟩ dX3_init_63 65 rfl (fun q8 => ?_)
  refine g_ws (ws2 := [(q, .inr (7, [.int 0, .int 0, .int 0, .int 0, .int 0, .ref q1, .ref q2, .ref q3, .ref q4, .ref q5, .ref q6, .ref q7, .null, .null, .null, .null])), (q1, .inl (g.2.1 0, 14, .inl (fun _ => 0))), (q2, .inl (g.2.1 0, 14, .inl (fun _ => 0))), (q3, .inl (g.2.1 0, 14, .inl (fun _ => 0))), (q4, .inl (g.2.1 0, 14, .inl (fun _ => 0))), (q5, .inl (g.2.1 0, 14, .inl (fun _ => 0))), (q6, .inl (g.2.1 0, 14, .inl (fun _ => 0))), (q7, .inl (g.2.1 0, 14, .inl (fun _ => 0))), (q8, .inl (g.2.1 0, 14, .inl (fun _ => 0)))]) rfl ?_
  refine g_putF (ws2 := [(q, .inr (7, [.int 0, .int 0, .int 0, .int 0, .int 0, .ref q1, .ref q2, .ref q3, .ref q4, .ref q5, .ref q6, .ref q7, .ref q8, .null, .null, .null])), (q1, .inl (g.2.1 0, 14, .inl (fun _ => 0))), (q2, .inl (g.2.1 0, 14, .inl (fun _ => 0))), (q3, .inl (g.2.1 0, 14, .inl (fun _ => 0))), (q4, .inl (g.2.1 0, 14, .inl (fun _ => 0))), (q5, .inl (g.2.1 0, 14, .inl (fun _ => 0))), (q6, .inl (g.2.1 0, 14, .inl (fun _ => 0))), (q7, .inl (g.2.1 0, 14, .inl (fun _ => 0))), (q8, .inl (g.2.1 0, 14, .inl (fun _ => 0)))]) hC hin ff_X3_33 dX3_init_65 68 rfl 0 rfl rfl rfl (Nat.le_of_ble_eq_true rfl) rfl ?_
  refine g_aload_n hC dX3_init_68 69 rfl rfl 0 rfl ?_
  refine g_iconst hC (5 : Int32) dX3_init_69 70 rfl iconst_5 ?_
  refine g_newa hC 0 (ty := .int) rfl rfl (lw_inT 121 (by decide +kernel) rfl) 5 (a0 := (5, .inl (fun _ => 0))) (fun _ => rfl) (by decide) (by decide) (Nat.le_of_ble_eq_true rfl) ⟨Nat.le_of_ble_eq_true rfl, Nat.le_of_ble_eq_true rfl⟩ dX3_init_70 72 rfl (fun q9 => ?_)
  refine g_ws (ws2 := [(q, .inr (7, [.int 0, .int 0, .int 0, .int 0, .int 0, .ref q1, .ref q2, .ref q3, .ref q4, .ref q5, .ref q6, .ref q7, .ref q8, .null, .null, .null])), (q1, .inl (g.2.1 0, 14, .inl (fun _ => 0))), (q2, .inl (g.2.1 0, 14, .inl (fun _ => 0))), (q3, .inl (g.2.1 0, 14, .inl (fun _ => 0))), (q4, .inl (g.2.1 0, 14, .inl (fun _ => 0))), (q5, .inl (g.2.1 0, 14, .inl (fun _ => 0))), (q6, .inl (g.2.1 0, 14, .inl (fun _ => 0))), (q7, .inl (g.2.1 0, 14, .inl (fun _ => 0))), (q8, .inl (g.2.1 0, 14, .inl (fun _ => 0))), (q9, .inl (g.2.1 0, 5, .inl (fun _ => 0)))]) rfl ?_
  refine g_putF (ws2 := [(q, .inr (7, [.int 0, .int 0, .int 0, .int 0, .int 0, .ref q1, .ref q2, .ref q3, .ref q4, .ref q5, .ref q6, .ref q7, .ref q8, .ref q9, .null, .null])), (q1, .inl (g.2.1 0, 14, .inl (fun _ => 0))), (q2, .inl (g.2.1 0, 14, .inl (fun _ => 0))), (q3, .inl (g.2.1 0, 14, .inl (fun _ => 0))), (q4, .inl (g.2.1 0, 14, .inl (fun _ => 0))), (q5, .inl (g.2.1 0, 14, .inl (fun _ => 0))), (q6, .inl (g.2.1 0, 14, .inl (fun _ => 0))), (q7, .inl (g.2.1 0, 14, .inl (fun _ => 0))), (q8, .inl (g.2.1 0, 14, .inl (fun _ => 0))), (q9, .inl (g.2.1 0, 5, .inl (fun _ => 0)))]) hC hin ff_X3_36 dX3_init_72 75 rfl 0 rfl rfl rfl (Nat.le_of_ble_eq_true rfl) rfl ?_
  refine g_aload_n hC dX3_init_75 76 rfl rfl 0 rfl ?_
  refine g_iconst hC (5 : Int32) dX3_init_76 77 rfl iconst_5 ?_
  refine g_newa hC 0 (ty := .int) rfl rfl (lw_inT 121 (by decide +kernel) rfl) 5 (a0 := (5, .inl (fun _ => 0))) (fun _ => rfl) (by decide) (by decide) (Nat.le_of_ble_eq_true rfl) ⟨Nat.le_of_ble_eq_true rfl, Nat.le_of_ble_eq_true rfl⟩ dX3_init_77 79 rfl (fun q10 => ?_)
  refine g_ws (ws2 := [(q, .inr (7, [.int 0, .int 0, .int 0, .int 0, .int 0, .ref q1, .ref q2, .ref q3, .ref q4, .ref q5, .ref q6, .ref q7, .ref q8, .ref q9, .null, .null])), (q1, .inl (g.2.1 0, 14, .inl (fun _ => 0))), (q2, .inl (g.2.1 0, 14, .inl (fun _ => 0))), (q3, .inl (g.2.1 0, 14, .inl (fun _ => 0))), (q4, .inl (g.2.1 0, 14, .inl (fun _ => 0))), (q5, .inl (g.2.1 0, 14, .inl (fun _ => 0))), (q6, .inl (g.2.1 0, 14, .inl (fun _ => 0))), (q7, .inl (g.2.1 0, 14, .inl (fun _ => 0))), (q8, .inl (g.2.1 0, 14, .inl (fun _ => 0))), (q9, .inl (g.2.1 0, 5, .inl (fun _ => 0))), (q10, .inl (g.2.1 0, 5, .inl (fun _ => 0)))]) rfl ?_
  refine g_putF (ws2 := [(q, .inr (7, [.int 0, .int 0, .int 0, .int 0, .int 0, .ref q1, .ref q2, .ref q3, .ref q4, .ref q5, .ref q6, .ref q7, .ref q8, .ref q9, .ref q10, .null])), (q1, .inl (g.2.1 0, 14, .inl (fun _ => 0))), (q2, .inl (g.2.1 0, 14, .inl (fun _ => 0))), (q3, .inl (g.2.1 0, 14, .inl (fun _ => 0))), (q4, .inl (g.2.1 0, 14, .inl (fun _ => 0))), (q5, .inl (g.2.1 0, 14, .inl (fun _ => 0))), (q6, .inl (g.2.1 0, 14, .inl (fun _ => 0))), (q7, .inl (g.2.1 0, 14, .inl (fun _ => 0))), (q8, .inl (g.2.1 0, 14, .inl (fun _ => 0))), (q9, .inl (g.2.1 0, 5, .inl (fun _ => 0))), (q10, .inl (g.2.1 0, 5, .inl (fun _ => 0)))]) hC hin ff_X3_39 dX3_init_79 82 rfl 0 rfl rfl rfl (Nat.le_of_ble_eq_true rfl) rfl ?_
  refine g_aload_n hC dX3_init_82 83 rfl rfl 0 rfl ?_
  refine g_bipush hC (25 : Int32) dX3_init_83 85 rfl bipush_25 ?_
  refine g_newa hC 0 (ty := .int) rfl rfl (lw_inT 121 (by decide +kernel) rfl) 25 (a0 := (25, .inl (fun _ => 0))) (fun _ => rfl) (by decide) (by decide) (Nat.le_of_ble_eq_true rfl) ⟨Nat.le_of_ble_eq_true rfl, Nat.le_of_ble_eq_true rfl⟩ dX3_init_85 87 rfl (fun q11 => ?_)
  refine g_ws (ws2 := [(q, .inr (7, [.int 0, .int 0, .int 0, .int 0, .int 0, .ref q1, .ref q2, .ref q3, .ref q4, .ref q5, .ref q6, .ref q7, .ref q8, .ref q9, .ref q10, .null])), (q1, .inl (g.2.1 0, 14, .inl (fun _ => 0))), (q2, .inl (g.2.1 0, 14, .inl (fun _ => 0))), (q3, .inl (g.2.1 0, 14, .inl (fun _ => 0))), (q4, .inl (g.2.1 0, 14, .inl (fun _ => 0))), (q5, .inl (g.2.1 0, 14, .inl (fun _ => 0))), (q6, .inl (g.2.1 0, 14, .inl (fun _ => 0))), (q7, .inl (g.2.1 0, 14, .inl (fun _ => 0))), (q8, .inl (g.2.1 0, 14, .inl (fun _ => 0))), (q9, .inl (g.2.1 0, 5, .inl (fun _ => 0))), (q10, .inl (g.2.1 0, 5, .inl (fun _ => 0))), (q11, .inl (g.2.1 0, 25, .inl (fun _ => 0)))]) rfl ?_
  refine g_putF (ws2 := [(q, .inr (7, [.int 0, .int 0, .int 0, .int 0, .int 0, .ref q1, .ref q2, .ref q3, .ref q4, .ref q5, .ref q6, .ref q7, .ref q8, .ref q9, .ref q10, .ref q11])), (q1, .inl (g.2.1 0, 14, .inl (fun _ => 0))), (q2, .inl (g.2.1 0, 14, .inl (fun _ => 0))), (q3, .inl (g.2.1 0, 14, .inl (fun _ => 0))), (q4, .inl (g.2.1 0, 14, .inl (fun _ => 0))), (q5, .inl (g.2.1 0, 14, .inl (fun _ => 0))), (q6, .inl (g.2.1 0, 14, .inl (fun _ => 0))), (q7, .inl (g.2.1 0, 14, .inl (fun _ => 0))), (q8, .inl (g.2.1 0, 14, .inl (fun _ => 0))), (q9, .inl (g.2.1 0, 5, .inl (fun _ => 0))), (q10, .inl (g.2.1 0, 5, .inl (fun _ => 0))), (q11, .inl (g.2.1 0, 25, .inl (fun _ => 0)))]) hC hin ff_X3_42 dX3_init_87 90 rfl 0 rfl rfl rfl (Nat.le_of_ble_eq_true rfl) rfl ?_
  refine g_iconst hC (0 : Int32) dX3_init_90 91 rfl iconst_0 ?_
  refine g_istore_n (lv2 := [(1, .int (0 : Int32)), (0, .ref q)]) hC dX3_init_91 92 rfl rfl (by decide) rfl ?_
  refine g_iload_n hC dX3_init_92 93 rfl rfl 0 rfl ?_
  refine g_iconst hC (5 : Int32) dX3_init_93 94 rfl iconst_5 ?_
  refine g_icmp_ge hC dX3_init_94 110 (by decide) 97 rfl (fun c => absurd c (by decide)) (fun _ => ?_)
  refine g_aload_n hC dX3_init_97 98 rfl rfl 1 rfl ?_
  refine g_get hC fl_X3_36 dX3_init_98 101 rfl 0 rfl rfl ?_
  refine g_iload_n hC dX3_init_101 102 rfl rfl 0 rfl ?_
  refine g_iconst hC (3 : Int32) dX3_init_102 103 rfl iconst_3 ?_
  refine g_iast (ws2 := [(q, .inr (7, [.int 0, .int 0, .int 0, .int 0, .int 0, .ref q1, .ref q2, .ref q3, .ref q4, .ref q5, .ref q6, .ref q7, .ref q8, .ref q9, .ref q10, .ref q11])), (q1, .inl (g.2.1 0, 14, .inl (fun _ => 0))), (q2, .inl (g.2.1 0, 14, .inl (fun _ => 0))), (q3, .inl (g.2.1 0, 14, .inl (fun _ => 0))), (q4, .inl (g.2.1 0, 14, .inl (fun _ => 0))), (q5, .inl (g.2.1 0, 14, .inl (fun _ => 0))), (q6, .inl (g.2.1 0, 14, .inl (fun _ => 0))), (q7, .inl (g.2.1 0, 14, .inl (fun _ => 0))), (q8, .inl (g.2.1 0, 14, .inl (fun _ => 0))), (q9, .inl (g.2.1 0, 5, .inl (upd (fun _ => 0) ((0 : Int32)).toNatClampNeg (3 : Int32)))), (q10, .inl (g.2.1 0, 5, .inl (fun _ => 0))), (q11, .inl (g.2.1 0, 25, .inl (fun _ => 0)))]) hC dX3_init_103 104 rfl 9 rfl (vp_in_d (by decide +kernel)) rfl ?_
  refine g_iinc (v2 := (1 : Int32)) (lv2 := [(1, .int (1 : Int32)), (0, .ref q)]) hC dX3_init_104 107 rfl 0 rfl (by decide) (by decide) rfl ?_
  refine g_goto hC dX3_init_107 92 (by decide) ?_
  refine g_iload_n hC dX3_init_92 93 rfl rfl 0 rfl ?_
  refine g_iconst hC (5 : Int32) dX3_init_93 94 rfl iconst_5 ?_
  refine g_icmp_ge hC dX3_init_94 110 (by decide) 97 rfl (fun c => absurd c (by decide)) (fun _ => ?_)
  refine g_aload_n hC dX3_init_97 98 rfl rfl 1 rfl ?_
  refine g_get hC fl_X3_36 dX3_init_98 101 rfl 0 rfl rfl ?_
  refine g_iload_n hC dX3_init_101 102 rfl rfl 0 rfl ?_
  refine g_iconst hC (3 : Int32) dX3_init_102 103 rfl iconst_3 ?_
  refine g_iast (ws2 := [(q, .inr (7, [.int 0, .int 0, .int 0, .int 0, .int 0, .ref q1, .ref q2, .ref q3, .ref q4, .ref q5, .ref q6, .ref q7, .ref q8, .ref q9, .ref q10, .ref q11])), (q1, .inl (g.2.1 0, 14, .inl (fun _ => 0))), (q2, .inl (g.2.1 0, 14, .inl (fun _ => 0))), (q3, .inl (g.2.1 0, 14, .inl (fun _ => 0))), (q4, .inl (g.2.1 0, 14, .inl (fun _ => 0))), (q5, .inl (g.2.1 0, 14, .inl (fun _ => 0))), (q6, .inl (g.2.1 0, 14, .inl (fun _ => 0))), (q7, .inl (g.2.1 0, 14, .inl (fun _ => 0))), (q8, .inl (g.2.1 0, 14, .inl (fun _ => 0))), (q9, .inl (g.2.1 0, 5, .inl (upd (upd (fun _ => 0) ((0 : Int32)).toNatClampNeg (3 : Int32)) ((1 : Int32)).toNatClampNeg (3 : Int32)))), (q10, .inl (g.2.1 0, 5, .inl (fun _ => 0))), (q11, .inl (g.2.1 0, 25, .inl (fun _ => 0)))]) hC dX3_init_103 104 rfl 9 rfl (vp_in_d (by decide +kernel)) rfl ?_
  refine g_iinc (v2 := (2 : Int32)) (lv2 := [(1, .int (2 : Int32)), (0, .ref q)]) hC dX3_init_104 107 rfl 0 rfl (by decide) (by decide) rfl ?_
  refine g_goto hC dX3_init_107 92 (by decide) ?_
  refine g_iload_n hC dX3_init_92 93 rfl rfl 0 rfl ?_
  refine g_iconst hC (5 : Int32) dX3_init_93 94 rfl iconst_5 ?_
  refine g_icmp_ge hC dX3_init_94 110 (by decide) 97 rfl (fun c => absurd c (by decide)) (fun _ => ?_)
  refine g_aload_n hC dX3_init_97 98 rfl rfl 1 rfl ?_
  refine g_get hC fl_X3_36 dX3_init_98 101 rfl 0 rfl rfl ?_
  refine g_iload_n hC dX3_init_101 102 rfl rfl 0 rfl ?_
  refine g_iconst hC (3 : Int32) dX3_init_102 103 rfl iconst_3 ?_
  refine g_iast (ws2 := [(q, .inr (7, [.int 0, .int 0, .int 0, .int 0, .int 0, .ref q1, .ref q2, .ref q3, .ref q4, .ref q5, .ref q6, .ref q7, .ref q8, .ref q9, .ref q10, .ref q11])), (q1, .inl (g.2.1 0, 14, .inl (fun _ => 0))), (q2, .inl (g.2.1 0, 14, .inl (fun _ => 0))), (q3, .inl (g.2.1 0, 14, .inl (fun _ => 0))), (q4, .inl (g.2.1 0, 14, .inl (fun _ => 0))), (q5, .inl (g.2.1 0, 14, .inl (fun _ => 0))), (q6, .inl (g.2.1 0, 14, .inl (fun _ => 0))), (q7, .inl (g.2.1 0, 14, .inl (fun _ => 0))), (q8, .inl (g.2.1 0, 14, .inl (fun _ => 0))), (q9, .inl (g.2.1 0, 5, .inl (upd (upd (upd (fun _ => 0) ((0 : Int32)).toNatClampNeg (3 : Int32)) ((1 : Int32)).toNatClampNeg (3 : Int32)) ((2 : Int32)).toNatClampNeg (3 : Int32)))), (q10, .inl (g.2.1 0, 5, .inl (fun _ => 0))), (q11, .inl (g.2.1 0, 25, .inl (fun _ => 0)))]) hC dX3_init_103 104 rfl 9 rfl (vp_in_d (by decide +kernel)) rfl ?_
  refine g_iinc (v2 := (3 : Int32)) (lv2 := [(1, .int (3 : Int32)), (0, .ref q)]) hC dX3_init_104 107 rfl 0 rfl (by decide) (by decide) rfl ?_
  refine g_goto hC dX3_init_107 92 (by decide) ?_
  refine g_iload_n hC dX3_init_92 93 rfl rfl 0 rfl ?_
  refine g_iconst hC (5 : Int32) dX3_init_93 94 rfl iconst_5 ?_
  refine g_icmp_ge hC dX3_init_94 110 (by decide) 97 rfl (fun c => absurd c (by decide)) (fun _ => ?_)
  refine g_aload_n hC dX3_init_97 98 rfl rfl 1 rfl ?_
  refine g_get hC fl_X3_36 dX3_init_98 101 rfl 0 rfl rfl ?_
  refine g_iload_n hC dX3_init_101 102 rfl rfl 0 rfl ?_
  refine g_iconst hC (3 : Int32) dX3_init_102 103 rfl iconst_3 ?_
  refine g_iast (ws2 := [(q, .inr (7, [.int 0, .int 0, .int 0, .int 0, .int 0, .ref q1, .ref q2, .ref q3, .ref q4, .ref q5, .ref q6, .ref q7, .ref q8, .ref q9, .ref q10, .ref q11])), (q1, .inl (g.2.1 0, 14, .inl (fun _ => 0))), (q2, .inl (g.2.1 0, 14, .inl (fun _ => 0))), (q3, .inl (g.2.1 0, 14, .inl (fun _ => 0))), (q4, .inl (g.2.1 0, 14, .inl (fun _ => 0))), (q5, .inl (g.2.1 0, 14, .inl (fun _ => 0))), (q6, .inl (g.2.1 0, 14, .inl (fun _ => 0))), (q7, .inl (g.2.1 0, 14, .inl (fun _ => 0))), (q8, .inl (g.2.1 0, 14, .inl (fun _ => 0))), (q9, .inl (g.2.1 0, 5, .inl (upd (upd (upd (upd (fun _ => 0) ((0 : Int32)).toNatClampNeg (3 : Int32)) ((1 : Int32)).toNatClampNeg (3 : Int32)) ((2 : Int32)).toNatClampNeg (3 : Int32)) ((3 : Int32)).toNatClampNeg (3 : Int32)))), (q10, .inl (g.2.1 0, 5, .inl (fun _ => 0))), (q11, .inl (g.2.1 0, 25, .inl (fun _ => 0)))]) hC dX3_init_103 104 rfl 9 rfl (vp_in_d (by decide +kernel)) rfl ?_
  refine g_iinc (v2 := (4 : Int32)) (lv2 := [(1, .int (4 : Int32)), (0, .ref q)]) hC dX3_init_104 107 rfl 0 rfl (by decide) (by decide) rfl ?_
  refine g_goto hC dX3_init_107 92 (by decide) ?_
  refine g_iload_n hC dX3_init_92 93 rfl rfl 0 rfl ?_
  refine g_iconst hC (5 : Int32) dX3_init_93 94 rfl iconst_5 ?_
  refine g_icmp_ge hC dX3_init_94 110 (by decide) 97 rfl (fun c => absurd c (by decide)) (fun _ => ?_)
  refine g_aload_n hC dX3_init_97 98 rfl rfl 1 rfl ?_
  refine g_get hC fl_X3_36 dX3_init_98 101 rfl 0 rfl rfl ?_
  refine g_iload_n hC dX3_init_101 102 rfl rfl 0 rfl ?_
  refine g_iconst hC (3 : Int32) dX3_init_102 103 rfl iconst_3 ?_
  refine g_iast (ws2 := [(q, .inr (7, [.int 0, .int 0, .int 0, .int 0, .int 0, .ref q1, .ref q2, .ref q3, .ref q4, .ref q5, .ref q6, .ref q7, .ref q8, .ref q9, .ref q10, .ref q11])), (q1, .inl (g.2.1 0, 14, .inl (fun _ => 0))), (q2, .inl (g.2.1 0, 14, .inl (fun _ => 0))), (q3, .inl (g.2.1 0, 14, .inl (fun _ => 0))), (q4, .inl (g.2.1 0, 14, .inl (fun _ => 0))), (q5, .inl (g.2.1 0, 14, .inl (fun _ => 0))), (q6, .inl (g.2.1 0, 14, .inl (fun _ => 0))), (q7, .inl (g.2.1 0, 14, .inl (fun _ => 0))), (q8, .inl (g.2.1 0, 14, .inl (fun _ => 0))), (q9, .inl (g.2.1 0, 5, .inl (upd (upd (upd (upd (upd (fun _ => 0) ((0 : Int32)).toNatClampNeg (3 : Int32)) ((1 : Int32)).toNatClampNeg (3 : Int32)) ((2 : Int32)).toNatClampNeg (3 : Int32)) ((3 : Int32)).toNatClampNeg (3 : Int32)) ((4 : Int32)).toNatClampNeg (3 : Int32)))), (q10, .inl (g.2.1 0, 5, .inl (fun _ => 0))), (q11, .inl (g.2.1 0, 25, .inl (fun _ => 0)))]) hC dX3_init_103 104 rfl 9 rfl (vp_in_d (by decide +kernel)) rfl ?_
  refine g_iinc (v2 := (5 : Int32)) (lv2 := [(1, .int (5 : Int32)), (0, .ref q)]) hC dX3_init_104 107 rfl 0 rfl (by decide) (by decide) rfl ?_
  refine g_goto hC dX3_init_107 92 (by decide) ?_
  refine g_iload_n hC dX3_init_92 93 rfl rfl 0 rfl ?_
  refine g_iconst hC (5 : Int32) dX3_init_93 94 rfl iconst_5 ?_
  refine g_icmp_ge hC dX3_init_94 110 (by decide) 97 rfl (fun _ => ?_) (fun c => absurd (by decide) c)
  exact g_vret hC hZ dX3_init_110 ⟨fun i => [q, q1, q2, q3, q4, q5, q6, q7, q8, q9, q10, q11].getD i 0, rfl, rfl, rfl⟩
set_option maxRecDepth 100000 in
set_option maxHeartbeats 4000000 in
theorem ct_X1_init (l : Launch) (g : gE) (q : Nat) : Fn l g yX1_init cX1_init 1 none 1 20 3 140 [(q, .inr (5, [.null, .null, .null, .int 0, .int 0, .int 0, .int 0]))] [.ref q] (fun r w => ∃ a : Nat → Nat, a 0 = q ∧ r = none ∧ w = cmdW g a (fun _ _ => 0)) := by
  refine Fn.ofI (by decide) (Nat.le_of_ble_eq_true rfl) (fun x hC hZ hin => ?_)
  show G x g 1 0 0 [(q, .inr (5, [.null, .null, .null, .int 0, .int 0, .int 0, .int 0]))] 0 [(0, .ref q)] []
  refine g_aload_n hC dX1_init_0 1 rfl rfl 0 rfl ?_
  refine g_oinit hC (lw_inT 165 (by decide +kernel) rfl) oi_w1 oi_w2 dX1_init_1 4 rfl ⟨Nat.le_of_ble_eq_true rfl, Nat.le_of_ble_eq_true rfl⟩ (Nat.le_of_ble_eq_true rfl) ?_
  refine g_aload_n hC dX1_init_4 5 rfl rfl 0 rfl ?_
  refine g_bipush hC (60 : Int32) dX1_init_5 7 rfl bipush_60 ?_
  refine g_newa hC 1 (ty := .char) rfl rfl (lw_inT 190 (by decide +kernel) rfl) 60 (a0 := (60, .inl (fun _ => 0))) (fun _ => rfl) (by decide) (by decide) (Nat.le_of_ble_eq_true rfl) ⟨Nat.le_of_ble_eq_true rfl, Nat.le_of_ble_eq_true rfl⟩ dX1_init_7 9 rfl (fun q1 => ?_)
  refine g_ws (ws2 := [(q, .inr (5, [.null, .null, .null, .int 0, .int 0, .int 0, .int 0])), (q1, .inl (g.2.1 1, 60, .inl (fun _ => 0)))]) rfl ?_
  refine g_putF (ws2 := [(q, .inr (5, [.ref q1, .null, .null, .int 0, .int 0, .int 0, .int 0])), (q1, .inl (g.2.1 1, 60, .inl (fun _ => 0)))]) hC hin ff_X1_9 dX1_init_9 12 rfl 0 rfl rfl rfl (Nat.le_of_ble_eq_true rfl) rfl ?_
  refine g_aload_n hC dX1_init_12 13 rfl rfl 0 rfl ?_
  refine g_bipush hC (20 : Int32) dX1_init_13 15 rfl bipush_20 ?_
  refine g_newa hC 0 (ty := .int) rfl rfl (lw_inT 121 (by decide +kernel) rfl) 20 (a0 := (20, .inl (fun _ => 0))) (fun _ => rfl) (by decide) (by decide) (Nat.le_of_ble_eq_true rfl) ⟨Nat.le_of_ble_eq_true rfl, Nat.le_of_ble_eq_true rfl⟩ dX1_init_15 17 rfl (fun q2 => ?_)
  refine g_ws (ws2 := [(q, .inr (5, [.ref q1, .null, .null, .int 0, .int 0, .int 0, .int 0])), (q1, .inl (g.2.1 1, 60, .inl (fun _ => 0))), (q2, .inl (g.2.1 0, 20, .inl (fun _ => 0)))]) rfl ?_
  refine g_putF (ws2 := [(q, .inr (5, [.ref q1, .ref q2, .null, .int 0, .int 0, .int 0, .int 0])), (q1, .inl (g.2.1 1, 60, .inl (fun _ => 0))), (q2, .inl (g.2.1 0, 20, .inl (fun _ => 0)))]) hC hin ff_X1_15 dX1_init_17 20 rfl 0 rfl rfl rfl (Nat.le_of_ble_eq_true rfl) rfl ?_
  refine g_aload_n hC dX1_init_20 21 rfl rfl 0 rfl ?_
  refine g_bipush hC (60 : Int32) dX1_init_21 23 rfl bipush_60 ?_
  refine g_newa hC 0 (ty := .int) rfl rfl (lw_inT 121 (by decide +kernel) rfl) 60 (a0 := (60, .inl (fun _ => 0))) (fun _ => rfl) (by decide) (by decide) (Nat.le_of_ble_eq_true rfl) ⟨Nat.le_of_ble_eq_true rfl, Nat.le_of_ble_eq_true rfl⟩ dX1_init_23 25 rfl (fun q3 => ?_)
  refine g_ws (ws2 := [(q, .inr (5, [.ref q1, .ref q2, .null, .int 0, .int 0, .int 0, .int 0])), (q1, .inl (g.2.1 1, 60, .inl (fun _ => 0))), (q2, .inl (g.2.1 0, 20, .inl (fun _ => 0))), (q3, .inl (g.2.1 0, 60, .inl (fun _ => 0)))]) rfl ?_
  refine g_putF (ws2 := [(q, .inr (5, [.ref q1, .ref q2, .ref q3, .int 0, .int 0, .int 0, .int 0])), (q1, .inl (g.2.1 1, 60, .inl (fun _ => 0))), (q2, .inl (g.2.1 0, 20, .inl (fun _ => 0))), (q3, .inl (g.2.1 0, 60, .inl (fun _ => 0)))]) hC hin ff_X1_19 dX1_init_25 28 rfl 0 rfl rfl rfl (Nat.le_of_ble_eq_true rfl) rfl ?_
  exact g_vret hC hZ dX1_init_28 ⟨fun i => [q, q1, q2, q3].getD i 0, rfl, rfl, rfl⟩
set_option maxRecDepth 100000 in
set_option maxHeartbeats 4000000 in
theorem ct_J5_init_d00df (l : Launch) (g : gE) (q : Nat) : Fn l g yJ5_init_d00df cJ5_init_d00df 2 none 1 20 1 16 [(q, .inr (1, [.null, .int 0, .int 0, .int 0]))] [.ref q, .int 16] (fun r w => ∃ a : Nat → Nat, a 0 = q ∧ r = none ∧ w = sbW g a (fun _ _ => 0)) := by
  refine Fn.ofI (by decide) (Nat.le_of_ble_eq_true rfl) (fun x hC hZ hin => ?_)
  show G x g 2 0 0 [(q, .inr (1, [.null, .int 0, .int 0, .int 0]))] 0 [(0, .ref q), (1, .int (16 : Int32))] []
  refine g_aload_n hC dJ5_init_d00df_0 1 rfl rfl 0 rfl ?_
  refine g_oinit hC (lw_inT 199 (by decide +kernel) rfl) oi_w1 oi_w2 dJ5_init_d00df_1 4 rfl ⟨Nat.le_of_ble_eq_true rfl, Nat.le_of_ble_eq_true rfl⟩ (Nat.le_of_ble_eq_true rfl) ?_
  refine g_getCS hC (lw_inT 200 (by decide +kernel) rfl) dJ5_init_d00df_4 7 rfl ?_
  refine g_if_eq hC dJ5_init_d00df_7 25 (by decide) 10 rfl (fun c => absurd c (by decide)) (fun _ => ?_)
  refine g_aload_n hC dJ5_init_d00df_10 11 rfl rfl 0 rfl ?_
  refine g_iload_n hC dJ5_init_d00df_11 12 rfl rfl 1 rfl ?_
  refine g_newa hC 2 (ty := .byte) rfl rfl (lw_inT 223 (by decide +kernel) rfl) 16 (a0 := (16, .inl (fun _ => 0))) (fun _ => rfl) (by decide) (by decide) (Nat.le_of_ble_eq_true rfl) ⟨Nat.le_of_ble_eq_true rfl, Nat.le_of_ble_eq_true rfl⟩ dJ5_init_d00df_12 14 rfl (fun q1 => ?_)
  refine g_ws (ws2 := [(q, .inr (1, [.null, .int 0, .int 0, .int 0])), (q1, .inl (g.2.1 2, 16, .inl (fun _ => 0)))]) rfl ?_
  refine g_put (ws2 := [(q, .inr (1, [.ref q1, .int 0, .int 0, .int 0])), (q1, .inl (g.2.1 2, 16, .inl (fun _ => 0)))]) hC fpr_J5_15 dJ5_init_d00df_14 17 rfl 0 rfl rfl rfl (Nat.le_of_ble_eq_true rfl) rfl ?_
  refine g_aload_n hC dJ5_init_d00df_17 18 rfl rfl 0 rfl ?_
  refine g_iconst hC (0 : Int32) dJ5_init_d00df_18 19 rfl iconst_0 ?_
  refine g_put (ws2 := [(q, .inr (1, [.ref q1, .int (0 : Int32), .int 0, .int 0])), (q1, .inl (g.2.1 2, 16, .inl (fun _ => 0)))]) hC fp_J5_22 dJ5_init_d00df_19 22 rfl 0 rfl rfl rfl (Nat.le_of_ble_eq_true rfl) rfl ?_
  refine g_goto hC dJ5_init_d00df_22 38 (by decide) ?_
  exact g_vret hC hZ dJ5_init_d00df_38 ⟨fun i => [q, q1].getD i 0, rfl, rfl, rfl⟩
set_option maxRecDepth 100000 in
set_option maxHeartbeats 4000000 in
theorem ct_J4_init_da8c8 (l : Launch) (g : gE) (q : Nat) : Fn l g yJ4_init_da8c8 cJ4_init_da8c8 1 none 2 41 1 16 [(q, .inr (1, [.null, .int 0, .int 0, .int 0]))] [.ref q] (fun r w => ∃ a : Nat → Nat, a 0 = q ∧ r = none ∧ w = sbW g a (fun _ _ => 0)) := by
  refine Fn.ofI (by decide) (Nat.le_of_ble_eq_true rfl) (fun x hC hZ hin => ?_)
  show G x g 1 0 0 [(q, .inr (1, [.null, .int 0, .int 0, .int 0]))] 0 [(0, .ref q)] []
  refine g_aload_n hC dJ4_init_da8c8_0 1 rfl rfl 0 rfl ?_
  refine g_bipush hC (16 : Int32) dJ4_init_da8c8_1 3 rfl bipush_16 ?_
  refine g_callI hC (ct_J5_init_d00df l g q) gY_J5_init_d00df dJ4_init_da8c8_3 6 rfl ml_J4_1 ([]) [] rfl [] rfl rfl rfl ⟨Nat.le_of_ble_eq_true rfl, Nat.le_of_ble_eq_true rfl⟩ (Nat.le_of_ble_eq_true rfl) ⟨Nat.le_of_ble_eq_true rfl, Nat.le_of_ble_eq_true rfl⟩ ?_
  rintro r w1 ⟨a1, e1, rfl, rfl⟩
  refine g_ws (ws2 := sbW g a1 (fun _ _ => 0)) rfl ?_
  exact g_vret hC hZ dJ4_init_da8c8_6 ⟨a1, e1, rfl, rfl⟩
set_option maxRecDepth 100000 in
set_option maxHeartbeats 4000000 in
theorem ct_X0_init (l : Launch) (g : gE) (q : Nat) : Fn l g yX0_init cX0_init 1 none 2 41 12 163 [(q, .inr (4, [.null, .int 0]))] [.ref q] (fun r w => ∃ a : Nat → Nat, r = none ∧ w = chkW g q a off0) := by
  refine Fn.ofI (by decide) (Nat.le_of_ble_eq_true rfl) (fun x hC hZ hin => ?_)
  show G x g 1 0 0 [(q, .inr (4, [.null, .int 0]))] 0 [(0, .ref q)] []
  refine g_aload_n hC dX0_init_0 1 rfl rfl 0 rfl ?_
  refine g_oinit hC (lw_inT 44 (by decide +kernel) rfl) oi_w1 oi_w2 dX0_init_1 4 rfl ⟨Nat.le_of_ble_eq_true rfl, Nat.le_of_ble_eq_true rfl⟩ (Nat.le_of_ble_eq_true rfl) ?_
  refine g_aload_n hC dX0_init_4 5 rfl rfl 0 rfl ?_
  refine g_new hC (C := RX3) (ci := 7) (T := TX3) (N := 16) rfl tyX3 tyX3_ok uw_X3 (lw_inT 45 (by decide +kernel) rfl) (lw_inT 46 (by decide +kernel) rfl) (lw_inT 3 (by decide +kernel) rfl) (fs := [.int 0, .int 0, .int 0, .int 0, .int 0, .null, .null, .null, .null, .null, .null, .null, .null, .null, .null, .null]) (by decide +kernel) ⟨Nat.le_of_ble_eq_true rfl, Nat.le_of_ble_eq_true rfl⟩ dX0_init_5 8 rfl (fun q1 => ?_)
  refine g_ws (ws2 := [(q, .inr (4, [.null, .int 0])), (q1, .inr (7, [.int 0, .int 0, .int 0, .int 0, .int 0, .null, .null, .null, .null, .null, .null, .null, .null, .null, .null, .null]))]) rfl ?_
  refine g_dup hC dX0_init_8 9 rfl rfl ?_
  refine g_callI hC (ct_X3_init l g q1) gY_X3_init dX0_init_9 12 rfl ml_X0_11 ([(q, .inr (4, [.null, .int 0]))]) [] rfl [.ref q1, .ref q] rfl rfl rfl ⟨Nat.le_of_ble_eq_true rfl, Nat.le_of_ble_eq_true rfl⟩ (Nat.le_of_ble_eq_true rfl) ⟨Nat.le_of_ble_eq_true rfl, Nat.le_of_ble_eq_true rfl⟩ ?_
  rintro r w1 ⟨a2, rfl, rfl, rfl⟩
  refine g_ws (ws2 := [(q, .inr (4, [.null, .int 0]))] ++ (offW g a2 off0)) rfl ?_
  refine g_putF (ws2 := [(q, .inr (4, [.ref (a2 0), .int 0]))] ++ (offW g a2 off0)) hC hin ff_X0_12 dX0_init_12 15 rfl 0 rfl rfl rfl (Nat.le_of_ble_eq_true rfl) rfl ?_
  exact g_vret hC hZ dX0_init_15 ⟨a2, rfl, rfl⟩
/-- the reference as it is made -/
def mod0 : Off := fun k => if k = 0 then (fun j => if j = 7 then -1 else 0) else if k = 1 then (upd (upd (upd (upd (upd (fun _ => 0) (((120 : Int32) + (0 : Int32))).toNatClampNeg (3 : Int32)) (((120 : Int32) + (1 : Int32))).toNatClampNeg (3 : Int32)) (((120 : Int32) + (2 : Int32))).toNatClampNeg (3 : Int32)) (((120 : Int32) + (3 : Int32))).toNatClampNeg (3 : Int32)) (((120 : Int32) + (4 : Int32))).toNatClampNeg (3 : Int32)) else fun _ => 0
set_option maxRecDepth 100000 in
set_option maxHeartbeats 4000000 in
theorem ct_X5_init (l : Launch) (g : gE) (q : Nat) : Fn l g yX5_init cX5_init 2 none 1 20 9 2148 [(q, .inr (9, [.null, .null, .null, .null, .null, .int 0, .int 0, .int 0, .int 0, .int 0, .int 0, .int 0, .int 0, .int 0, .null, .int 0, .null, .null, .null, .int 0, .int 0, .int 0, .int 0, .int 0]))] [.ref q] (fun r w => ∃ a : Nat → Nat, a 0 = q ∧ r = none ∧ w = modW g a mod0) := by
  refine Fn.ofI (by decide) (Nat.le_of_ble_eq_true rfl) (fun x hC hZ hin => ?_)
  show G x g 2 0 0 [(q, .inr (9, [.null, .null, .null, .null, .null, .int 0, .int 0, .int 0, .int 0, .int 0, .int 0, .int 0, .int 0, .int 0, .null, .int 0, .null, .null, .null, .int 0, .int 0, .int 0, .int 0, .int 0]))] 0 [(0, .ref q)] []
  refine g_aload_n hC dX5_init_0 1 rfl rfl 0 rfl ?_
  refine g_oinit hC (lw_inT 1669 (by decide +kernel) rfl) oi_w1 oi_w2 dX5_init_1 4 rfl ⟨Nat.le_of_ble_eq_true rfl, Nat.le_of_ble_eq_true rfl⟩ (Nat.le_of_ble_eq_true rfl) ?_
  refine g_aload_n hC dX5_init_4 5 rfl rfl 0 rfl ?_
  refine g_sipush hC (160 : Int32) dX5_init_5 8 rfl sipush_160 ?_
  refine g_newa hC 0 (ty := .int) rfl rfl (lw_inT 121 (by decide +kernel) rfl) 160 (a0 := (160, .inl (fun _ => 0))) (fun _ => rfl) (by decide) (by decide) (Nat.le_of_ble_eq_true rfl) ⟨Nat.le_of_ble_eq_true rfl, Nat.le_of_ble_eq_true rfl⟩ dX5_init_8 10 rfl (fun q1 => ?_)
  refine g_ws (ws2 := [(q, .inr (9, [.null, .null, .null, .null, .null, .int 0, .int 0, .int 0, .int 0, .int 0, .int 0, .int 0, .int 0, .int 0, .null, .int 0, .null, .null, .null, .int 0, .int 0, .int 0, .int 0, .int 0])), (q1, .inl (g.2.1 0, 160, .inl (fun _ => 0)))]) rfl ?_
  refine g_putF (ws2 := [(q, .inr (9, [.ref q1, .null, .null, .null, .null, .int 0, .int 0, .int 0, .int 0, .int 0, .int 0, .int 0, .int 0, .int 0, .null, .int 0, .null, .null, .null, .int 0, .int 0, .int 0, .int 0, .int 0])), (q1, .inl (g.2.1 0, 160, .inl (fun _ => 0)))]) hC hin ff_X5_7 dX5_init_10 13 rfl 0 rfl rfl rfl (Nat.le_of_ble_eq_true rfl) rfl ?_
  refine g_aload_n hC dX5_init_13 14 rfl rfl 0 rfl ?_
  refine g_sipush hC (160 : Int32) dX5_init_14 17 rfl sipush_160 ?_
  refine g_newa hC 0 (ty := .int) rfl rfl (lw_inT 121 (by decide +kernel) rfl) 160 (a0 := (160, .inl (fun _ => 0))) (fun _ => rfl) (by decide) (by decide) (Nat.le_of_ble_eq_true rfl) ⟨Nat.le_of_ble_eq_true rfl, Nat.le_of_ble_eq_true rfl⟩ dX5_init_17 19 rfl (fun q2 => ?_)
  refine g_ws (ws2 := [(q, .inr (9, [.ref q1, .null, .null, .null, .null, .int 0, .int 0, .int 0, .int 0, .int 0, .int 0, .int 0, .int 0, .int 0, .null, .int 0, .null, .null, .null, .int 0, .int 0, .int 0, .int 0, .int 0])), (q1, .inl (g.2.1 0, 160, .inl (fun _ => 0))), (q2, .inl (g.2.1 0, 160, .inl (fun _ => 0)))]) rfl ?_
  refine g_putF (ws2 := [(q, .inr (9, [.ref q1, .ref q2, .null, .null, .null, .int 0, .int 0, .int 0, .int 0, .int 0, .int 0, .int 0, .int 0, .int 0, .null, .int 0, .null, .null, .null, .int 0, .int 0, .int 0, .int 0, .int 0])), (q1, .inl (g.2.1 0, 160, .inl (fun _ => 0))), (q2, .inl (g.2.1 0, 160, .inl (fun _ => 0)))]) hC hin ff_X5_13 dX5_init_19 22 rfl 0 rfl rfl rfl (Nat.le_of_ble_eq_true rfl) rfl ?_
  refine g_aload_n hC dX5_init_22 23 rfl rfl 0 rfl ?_
  refine g_sipush hC (160 : Int32) dX5_init_23 26 rfl sipush_160 ?_
  refine g_newa hC 0 (ty := .int) rfl rfl (lw_inT 121 (by decide +kernel) rfl) 160 (a0 := (160, .inl (fun _ => 0))) (fun _ => rfl) (by decide) (by decide) (Nat.le_of_ble_eq_true rfl) ⟨Nat.le_of_ble_eq_true rfl, Nat.le_of_ble_eq_true rfl⟩ dX5_init_26 28 rfl (fun q3 => ?_)
  refine g_ws (ws2 := [(q, .inr (9, [.ref q1, .ref q2, .null, .null, .null, .int 0, .int 0, .int 0, .int 0, .int 0, .int 0, .int 0, .int 0, .int 0, .null, .int 0, .null, .null, .null, .int 0, .int 0, .int 0, .int 0, .int 0])), (q1, .inl (g.2.1 0, 160, .inl (fun _ => 0))), (q2, .inl (g.2.1 0, 160, .inl (fun _ => 0))), (q3, .inl (g.2.1 0, 160, .inl (fun _ => 0)))]) rfl ?_
  refine g_putF (ws2 := [(q, .inr (9, [.ref q1, .ref q2, .ref q3, .null, .null, .int 0, .int 0, .int 0, .int 0, .int 0, .int 0, .int 0, .int 0, .int 0, .null, .int 0, .null, .null, .null, .int 0, .int 0, .int 0, .int 0, .int 0])), (q1, .inl (g.2.1 0, 160, .inl (fun _ => 0))), (q2, .inl (g.2.1 0, 160, .inl (fun _ => 0))), (q3, .inl (g.2.1 0, 160, .inl (fun _ => 0)))]) hC hin ff_X5_16 dX5_init_28 31 rfl 0 rfl rfl rfl (Nat.le_of_ble_eq_true rfl) rfl ?_
  refine g_aload_n hC dX5_init_31 32 rfl rfl 0 rfl ?_
  refine g_sipush hC (160 : Int32) dX5_init_32 35 rfl sipush_160 ?_
  refine g_newa hC 0 (ty := .int) rfl rfl (lw_inT 121 (by decide +kernel) rfl) 160 (a0 := (160, .inl (fun _ => 0))) (fun _ => rfl) (by decide) (by decide) (Nat.le_of_ble_eq_true rfl) ⟨Nat.le_of_ble_eq_true rfl, Nat.le_of_ble_eq_true rfl⟩ dX5_init_35 37 rfl (fun q4 => ?_)
  refine g_ws (ws2 := [(q, .inr (9, [.ref q1, .ref q2, .ref q3, .null, .null, .int 0, .int 0, .int 0, .int 0, .int 0, .int 0, .int 0, .int 0, .int 0, .null, .int 0, .null, .null, .null, .int 0, .int 0, .int 0, .int 0, .int 0])), (q1, .inl (g.2.1 0, 160, .inl (fun _ => 0))), (q2, .inl (g.2.1 0, 160, .inl (fun _ => 0))), (q3, .inl (g.2.1 0, 160, .inl (fun _ => 0))), (q4, .inl (g.2.1 0, 160, .inl (fun _ => 0)))]) rfl ?_
  refine g_putF (ws2 := [(q, .inr (9, [.ref q1, .ref q2, .ref q3, .ref q4, .null, .int 0, .int 0, .int 0, .int 0, .int 0, .int 0, .int 0, .int 0, .int 0, .null, .int 0, .null, .null, .null, .int 0, .int 0, .int 0, .int 0, .int 0])), (q1, .inl (g.2.1 0, 160, .inl (fun _ => 0))), (q2, .inl (g.2.1 0, 160, .inl (fun _ => 0))), (q3, .inl (g.2.1 0, 160, .inl (fun _ => 0))), (q4, .inl (g.2.1 0, 160, .inl (fun _ => 0)))]) hC hin ff_X5_19 dX5_init_37 40 rfl 0 rfl rfl rfl (Nat.le_of_ble_eq_true rfl) rfl ?_
  refine g_aload_n hC dX5_init_40 41 rfl rfl 0 rfl ?_
  refine g_sipush hC (1280 : Int32) dX5_init_41 44 rfl sipush_1280 ?_
  refine g_newa hC 0 (ty := .int) rfl rfl (lw_inT 121 (by decide +kernel) rfl) 1280 (a0 := (1280, .inl (fun _ => 0))) (fun _ => rfl) (by decide) (by decide) (Nat.le_of_ble_eq_true rfl) ⟨Nat.le_of_ble_eq_true rfl, Nat.le_of_ble_eq_true rfl⟩ dX5_init_44 46 rfl (fun q5 => ?_)
  refine g_ws (ws2 := [(q, .inr (9, [.ref q1, .ref q2, .ref q3, .ref q4, .null, .int 0, .int 0, .int 0, .int 0, .int 0, .int 0, .int 0, .int 0, .int 0, .null, .int 0, .null, .null, .null, .int 0, .int 0, .int 0, .int 0, .int 0])), (q1, .inl (g.2.1 0, 160, .inl (fun _ => 0))), (q2, .inl (g.2.1 0, 160, .inl (fun _ => 0))), (q3, .inl (g.2.1 0, 160, .inl (fun _ => 0))), (q4, .inl (g.2.1 0, 160, .inl (fun _ => 0))), (q5, .inl (g.2.1 0, 1280, .inl (fun _ => 0)))]) rfl ?_
  refine g_putF (ws2 := [(q, .inr (9, [.ref q1, .ref q2, .ref q3, .ref q4, .ref q5, .int 0, .int 0, .int 0, .int 0, .int 0, .int 0, .int 0, .int 0, .int 0, .null, .int 0, .null, .null, .null, .int 0, .int 0, .int 0, .int 0, .int 0])), (q1, .inl (g.2.1 0, 160, .inl (fun _ => 0))), (q2, .inl (g.2.1 0, 160, .inl (fun _ => 0))), (q3, .inl (g.2.1 0, 160, .inl (fun _ => 0))), (q4, .inl (g.2.1 0, 160, .inl (fun _ => 0))), (q5, .inl (g.2.1 0, 1280, .inl (fun _ => 0)))]) hC hin ff_X5_22 dX5_init_46 49 rfl 0 rfl rfl rfl (Nat.le_of_ble_eq_true rfl) rfl ?_
  refine g_aload_n hC dX5_init_49 50 rfl rfl 0 rfl ?_
  refine g_iconst hC (0 : Int32) dX5_init_50 51 rfl iconst_0 ?_
  refine g_put (ws2 := [(q, .inr (9, [.ref q1, .ref q2, .ref q3, .ref q4, .ref q5, .int (0 : Int32), .int 0, .int 0, .int 0, .int 0, .int 0, .int 0, .int 0, .int 0, .null, .int 0, .null, .null, .null, .int 0, .int 0, .int 0, .int 0, .int 0])), (q1, .inl (g.2.1 0, 160, .inl (fun _ => 0))), (q2, .inl (g.2.1 0, 160, .inl (fun _ => 0))), (q3, .inl (g.2.1 0, 160, .inl (fun _ => 0))), (q4, .inl (g.2.1 0, 160, .inl (fun _ => 0))), (q5, .inl (g.2.1 0, 1280, .inl (fun _ => 0)))]) hC fp_X5_25 dX5_init_51 54 rfl 0 rfl rfl rfl (Nat.le_of_ble_eq_true rfl) rfl ?_
  refine g_aload_n hC dX5_init_54 55 rfl rfl 0 rfl ?_
  refine g_iconst hC (0 : Int32) dX5_init_55 56 rfl iconst_0 ?_
  refine g_put (ws2 := [(q, .inr (9, [.ref q1, .ref q2, .ref q3, .ref q4, .ref q5, .int (0 : Int32), .int (0 : Int32), .int 0, .int 0, .int 0, .int 0, .int 0, .int 0, .int 0, .null, .int 0, .null, .null, .null, .int 0, .int 0, .int 0, .int 0, .int 0])), (q1, .inl (g.2.1 0, 160, .inl (fun _ => 0))), (q2, .inl (g.2.1 0, 160, .inl (fun _ => 0))), (q3, .inl (g.2.1 0, 160, .inl (fun _ => 0))), (q4, .inl (g.2.1 0, 160, .inl (fun _ => 0))), (q5, .inl (g.2.1 0, 1280, .inl (fun _ => 0)))]) hC fp_X5_29 dX5_init_56 59 rfl 0 rfl rfl rfl (Nat.le_of_ble_eq_true rfl) rfl ?_
  refine g_aload_n hC dX5_init_59 60 rfl rfl 0 rfl ?_
  refine g_iconst hC (-1 : Int32) dX5_init_60 61 rfl iconst_m1 ?_
  refine g_put (ws2 := [(q, .inr (9, [.ref q1, .ref q2, .ref q3, .ref q4, .ref q5, .int (0 : Int32), .int (0 : Int32), .int (-1 : Int32), .int 0, .int 0, .int 0, .int 0, .int 0, .int 0, .null, .int 0, .null, .null, .null, .int 0, .int 0, .int 0, .int 0, .int 0])), (q1, .inl (g.2.1 0, 160, .inl (fun _ => 0))), (q2, .inl (g.2.1 0, 160, .inl (fun _ => 0))), (q3, .inl (g.2.1 0, 160, .inl (fun _ => 0))), (q4, .inl (g.2.1 0, 160, .inl (fun _ => 0))), (q5, .inl (g.2.1 0, 1280, .inl (fun _ => 0)))]) hC fp_X5_32 dX5_init_61 64 rfl 0 rfl rfl rfl (Nat.le_of_ble_eq_true rfl) rfl ?_
  refine g_aload_n hC dX5_init_64 65 rfl rfl 0 rfl ?_
  refine g_iconst hC (0 : Int32) dX5_init_65 66 rfl iconst_0 ?_
  refine g_put (ws2 := [(q, .inr (9, [.ref q1, .ref q2, .ref q3, .ref q4, .ref q5, .int (0 : Int32), .int (0 : Int32), .int (-1 : Int32), .int (0 : Int32), .int 0, .int 0, .int 0, .int 0, .int 0, .null, .int 0, .null, .null, .null, .int 0, .int 0, .int 0, .int 0, .int 0])), (q1, .inl (g.2.1 0, 160, .inl (fun _ => 0))), (q2, .inl (g.2.1 0, 160, .inl (fun _ => 0))), (q3, .inl (g.2.1 0, 160, .inl (fun _ => 0))), (q4, .inl (g.2.1 0, 160, .inl (fun _ => 0))), (q5, .inl (g.2.1 0, 1280, .inl (fun _ => 0)))]) hC fp_X5_35 dX5_init_66 69 rfl 0 rfl rfl rfl (Nat.le_of_ble_eq_true rfl) rfl ?_
  refine g_aload_n hC dX5_init_69 70 rfl rfl 0 rfl ?_
  refine g_iconst hC (0 : Int32) dX5_init_70 71 rfl iconst_0 ?_
  refine g_put (ws2 := [(q, .inr (9, [.ref q1, .ref q2, .ref q3, .ref q4, .ref q5, .int (0 : Int32), .int (0 : Int32), .int (-1 : Int32), .int (0 : Int32), .int (0 : Int32), .int 0, .int 0, .int 0, .int 0, .null, .int 0, .null, .null, .null, .int 0, .int 0, .int 0, .int 0, .int 0])), (q1, .inl (g.2.1 0, 160, .inl (fun _ => 0))), (q2, .inl (g.2.1 0, 160, .inl (fun _ => 0))), (q3, .inl (g.2.1 0, 160, .inl (fun _ => 0))), (q4, .inl (g.2.1 0, 160, .inl (fun _ => 0))), (q5, .inl (g.2.1 0, 1280, .inl (fun _ => 0)))]) hC fp_X5_38 dX5_init_71 74 rfl 0 rfl rfl rfl (Nat.le_of_ble_eq_true rfl) rfl ?_
  refine g_aload_n hC dX5_init_74 75 rfl rfl 0 rfl ?_
  refine g_iconst hC (0 : Int32) dX5_init_75 76 rfl iconst_0 ?_
  refine g_put (ws2 := [(q, .inr (9, [.ref q1, .ref q2, .ref q3, .ref q4, .ref q5, .int (0 : Int32), .int (0 : Int32), .int (-1 : Int32), .int (0 : Int32), .int (0 : Int32), .int (0 : Int32), .int 0, .int 0, .int 0, .null, .int 0, .null, .null, .null, .int 0, .int 0, .int 0, .int 0, .int 0])), (q1, .inl (g.2.1 0, 160, .inl (fun _ => 0))), (q2, .inl (g.2.1 0, 160, .inl (fun _ => 0))), (q3, .inl (g.2.1 0, 160, .inl (fun _ => 0))), (q4, .inl (g.2.1 0, 160, .inl (fun _ => 0))), (q5, .inl (g.2.1 0, 1280, .inl (fun _ => 0)))]) hC fp_X5_41 dX5_init_76 79 rfl 0 rfl rfl rfl (Nat.le_of_ble_eq_true rfl) rfl ?_
  refine g_aload_n hC dX5_init_79 80 rfl rfl 0 rfl ?_
  refine g_iconst hC (0 : Int32) dX5_init_80 81 rfl iconst_0 ?_
  refine g_put (ws2 := [(q, .inr (9, [.ref q1, .ref q2, .ref q3, .ref q4, .ref q5, .int (0 : Int32), .int (0 : Int32), .int (-1 : Int32), .int (0 : Int32), .int (0 : Int32), .int (0 : Int32), .int (0 : Int32), .int 0, .int 0, .null, .int 0, .null, .null, .null, .int 0, .int 0, .int 0, .int 0, .int 0])), (q1, .inl (g.2.1 0, 160, .inl (fun _ => 0))), (q2, .inl (g.2.1 0, 160, .inl (fun _ => 0))), (q3, .inl (g.2.1 0, 160, .inl (fun _ => 0))), (q4, .inl (g.2.1 0, 160, .inl (fun _ => 0))), (q5, .inl (g.2.1 0, 1280, .inl (fun _ => 0)))]) hC fp_X5_44 dX5_init_81 84 rfl 0 rfl rfl rfl (Nat.le_of_ble_eq_true rfl) rfl ?_
  refine g_aload_n hC dX5_init_84 85 rfl rfl 0 rfl ?_
  refine g_iconst hC (0 : Int32) dX5_init_85 86 rfl iconst_0 ?_
  refine g_put (ws2 := [(q, .inr (9, [.ref q1, .ref q2, .ref q3, .ref q4, .ref q5, .int (0 : Int32), .int (0 : Int32), .int (-1 : Int32), .int (0 : Int32), .int (0 : Int32), .int (0 : Int32), .int (0 : Int32), .int (0 : Int32), .int 0, .null, .int 0, .null, .null, .null, .int 0, .int 0, .int 0, .int 0, .int 0])), (q1, .inl (g.2.1 0, 160, .inl (fun _ => 0))), (q2, .inl (g.2.1 0, 160, .inl (fun _ => 0))), (q3, .inl (g.2.1 0, 160, .inl (fun _ => 0))), (q4, .inl (g.2.1 0, 160, .inl (fun _ => 0))), (q5, .inl (g.2.1 0, 1280, .inl (fun _ => 0)))]) hC fp_X5_47 dX5_init_86 89 rfl 0 rfl rfl rfl (Nat.le_of_ble_eq_true rfl) rfl ?_
  refine g_aload_n hC dX5_init_89 90 rfl rfl 0 rfl ?_
  refine g_iconst hC (0 : Int32) dX5_init_90 91 rfl iconst_0 ?_
  refine g_put (ws2 := [(q, .inr (9, [.ref q1, .ref q2, .ref q3, .ref q4, .ref q5, .int (0 : Int32), .int (0 : Int32), .int (-1 : Int32), .int (0 : Int32), .int (0 : Int32), .int (0 : Int32), .int (0 : Int32), .int (0 : Int32), .int (0 : Int32), .null, .int 0, .null, .null, .null, .int 0, .int 0, .int 0, .int 0, .int 0])), (q1, .inl (g.2.1 0, 160, .inl (fun _ => 0))), (q2, .inl (g.2.1 0, 160, .inl (fun _ => 0))), (q3, .inl (g.2.1 0, 160, .inl (fun _ => 0))), (q4, .inl (g.2.1 0, 160, .inl (fun _ => 0))), (q5, .inl (g.2.1 0, 1280, .inl (fun _ => 0)))]) hC fp_X5_50 dX5_init_91 94 rfl 0 rfl rfl rfl (Nat.le_of_ble_eq_true rfl) rfl ?_
  refine g_aload_n hC dX5_init_94 95 rfl rfl 0 rfl ?_
  refine g_bipush hC (40 : Int32) dX5_init_95 97 rfl bipush_40 ?_
  refine g_newa hC 0 (ty := .int) rfl rfl (lw_inT 121 (by decide +kernel) rfl) 40 (a0 := (40, .inl (fun _ => 0))) (fun _ => rfl) (by decide) (by decide) (Nat.le_of_ble_eq_true rfl) ⟨Nat.le_of_ble_eq_true rfl, Nat.le_of_ble_eq_true rfl⟩ dX5_init_97 99 rfl (fun q6 => ?_)
  refine g_ws (ws2 := [(q, .inr (9, [.ref q1, .ref q2, .ref q3, .ref q4, .ref q5, .int (0 : Int32), .int (0 : Int32), .int (-1 : Int32), .int (0 : Int32), .int (0 : Int32), .int (0 : Int32), .int (0 : Int32), .int (0 : Int32), .int (0 : Int32), .null, .int 0, .null, .null, .null, .int 0, .int 0, .int 0, .int 0, .int 0])), (q1, .inl (g.2.1 0, 160, .inl (fun _ => 0))), (q2, .inl (g.2.1 0, 160, .inl (fun _ => 0))), (q3, .inl (g.2.1 0, 160, .inl (fun _ => 0))), (q4, .inl (g.2.1 0, 160, .inl (fun _ => 0))), (q5, .inl (g.2.1 0, 1280, .inl (fun _ => 0))), (q6, .inl (g.2.1 0, 40, .inl (fun _ => 0)))]) rfl ?_
  refine g_putF (ws2 := [(q, .inr (9, [.ref q1, .ref q2, .ref q3, .ref q4, .ref q5, .int (0 : Int32), .int (0 : Int32), .int (-1 : Int32), .int (0 : Int32), .int (0 : Int32), .int (0 : Int32), .int (0 : Int32), .int (0 : Int32), .int (0 : Int32), .ref q6, .int 0, .null, .null, .null, .int 0, .int 0, .int 0, .int 0, .int 0])), (q1, .inl (g.2.1 0, 160, .inl (fun _ => 0))), (q2, .inl (g.2.1 0, 160, .inl (fun _ => 0))), (q3, .inl (g.2.1 0, 160, .inl (fun _ => 0))), (q4, .inl (g.2.1 0, 160, .inl (fun _ => 0))), (q5, .inl (g.2.1 0, 1280, .inl (fun _ => 0))), (q6, .inl (g.2.1 0, 40, .inl (fun _ => 0)))]) hC hin ff_X5_54 dX5_init_99 102 rfl 0 rfl rfl rfl (Nat.le_of_ble_eq_true rfl) rfl ?_
  refine g_aload_n hC dX5_init_102 103 rfl rfl 0 rfl ?_
  refine g_iconst hC (0 : Int32) dX5_init_103 104 rfl iconst_0 ?_
  refine g_put (ws2 := [(q, .inr (9, [.ref q1, .ref q2, .ref q3, .ref q4, .ref q5, .int (0 : Int32), .int (0 : Int32), .int (-1 : Int32), .int (0 : Int32), .int (0 : Int32), .int (0 : Int32), .int (0 : Int32), .int (0 : Int32), .int (0 : Int32), .ref q6, .int (0 : Int32), .null, .null, .null, .int 0, .int 0, .int 0, .int 0, .int 0])), (q1, .inl (g.2.1 0, 160, .inl (fun _ => 0))), (q2, .inl (g.2.1 0, 160, .inl (fun _ => 0))), (q3, .inl (g.2.1 0, 160, .inl (fun _ => 0))), (q4, .inl (g.2.1 0, 160, .inl (fun _ => 0))), (q5, .inl (g.2.1 0, 1280, .inl (fun _ => 0))), (q6, .inl (g.2.1 0, 40, .inl (fun _ => 0)))]) hC fp_X5_57 dX5_init_104 107 rfl 0 rfl rfl rfl (Nat.le_of_ble_eq_true rfl) rfl ?_
  refine g_aload_n hC dX5_init_107 108 rfl rfl 0 rfl ?_
  refine g_bipush hC (60 : Int32) dX5_init_108 110 rfl bipush_60 ?_
  refine g_newa hC 0 (ty := .int) rfl rfl (lw_inT 121 (by decide +kernel) rfl) 60 (a0 := (60, .inl (fun _ => 0))) (fun _ => rfl) (by decide) (by decide) (Nat.le_of_ble_eq_true rfl) ⟨Nat.le_of_ble_eq_true rfl, Nat.le_of_ble_eq_true rfl⟩ dX5_init_110 112 rfl (fun q7 => ?_)
  refine g_ws (ws2 := [(q, .inr (9, [.ref q1, .ref q2, .ref q3, .ref q4, .ref q5, .int (0 : Int32), .int (0 : Int32), .int (-1 : Int32), .int (0 : Int32), .int (0 : Int32), .int (0 : Int32), .int (0 : Int32), .int (0 : Int32), .int (0 : Int32), .ref q6, .int (0 : Int32), .null, .null, .null, .int 0, .int 0, .int 0, .int 0, .int 0])), (q1, .inl (g.2.1 0, 160, .inl (fun _ => 0))), (q2, .inl (g.2.1 0, 160, .inl (fun _ => 0))), (q3, .inl (g.2.1 0, 160, .inl (fun _ => 0))), (q4, .inl (g.2.1 0, 160, .inl (fun _ => 0))), (q5, .inl (g.2.1 0, 1280, .inl (fun _ => 0))), (q6, .inl (g.2.1 0, 40, .inl (fun _ => 0))), (q7, .inl (g.2.1 0, 60, .inl (fun _ => 0)))]) rfl ?_
  refine g_putF (ws2 := [(q, .inr (9, [.ref q1, .ref q2, .ref q3, .ref q4, .ref q5, .int (0 : Int32), .int (0 : Int32), .int (-1 : Int32), .int (0 : Int32), .int (0 : Int32), .int (0 : Int32), .int (0 : Int32), .int (0 : Int32), .int (0 : Int32), .ref q6, .int (0 : Int32), .ref q7, .null, .null, .int 0, .int 0, .int 0, .int 0, .int 0])), (q1, .inl (g.2.1 0, 160, .inl (fun _ => 0))), (q2, .inl (g.2.1 0, 160, .inl (fun _ => 0))), (q3, .inl (g.2.1 0, 160, .inl (fun _ => 0))), (q4, .inl (g.2.1 0, 160, .inl (fun _ => 0))), (q5, .inl (g.2.1 0, 1280, .inl (fun _ => 0))), (q6, .inl (g.2.1 0, 40, .inl (fun _ => 0))), (q7, .inl (g.2.1 0, 60, .inl (fun _ => 0)))]) hC hin ff_X5_60 dX5_init_112 115 rfl 0 rfl rfl rfl (Nat.le_of_ble_eq_true rfl) rfl ?_
  refine g_aload_n hC dX5_init_115 116 rfl rfl 0 rfl ?_
  refine g_bipush hC (32 : Int32) dX5_init_116 118 rfl bipush_32 ?_
  refine g_newa hC 0 (ty := .int) rfl rfl (lw_inT 121 (by decide +kernel) rfl) 32 (a0 := (32, .inl (fun _ => 0))) (fun _ => rfl) (by decide) (by decide) (Nat.le_of_ble_eq_true rfl) ⟨Nat.le_of_ble_eq_true rfl, Nat.le_of_ble_eq_true rfl⟩ dX5_init_118 120 rfl (fun q8 => ?_)
  refine g_ws (ws2 := [(q, .inr (9, [.ref q1, .ref q2, .ref q3, .ref q4, .ref q5, .int (0 : Int32), .int (0 : Int32), .int (-1 : Int32), .int (0 : Int32), .int (0 : Int32), .int (0 : Int32), .int (0 : Int32), .int (0 : Int32), .int (0 : Int32), .ref q6, .int (0 : Int32), .ref q7, .null, .null, .int 0, .int 0, .int 0, .int 0, .int 0])), (q1, .inl (g.2.1 0, 160, .inl (fun _ => 0))), (q2, .inl (g.2.1 0, 160, .inl (fun _ => 0))), (q3, .inl (g.2.1 0, 160, .inl (fun _ => 0))), (q4, .inl (g.2.1 0, 160, .inl (fun _ => 0))), (q5, .inl (g.2.1 0, 1280, .inl (fun _ => 0))), (q6, .inl (g.2.1 0, 40, .inl (fun _ => 0))), (q7, .inl (g.2.1 0, 60, .inl (fun _ => 0))), (q8, .inl (g.2.1 0, 32, .inl (fun _ => 0)))]) rfl ?_
  refine g_putF (ws2 := [(q, .inr (9, [.ref q1, .ref q2, .ref q3, .ref q4, .ref q5, .int (0 : Int32), .int (0 : Int32), .int (-1 : Int32), .int (0 : Int32), .int (0 : Int32), .int (0 : Int32), .int (0 : Int32), .int (0 : Int32), .int (0 : Int32), .ref q6, .int (0 : Int32), .ref q7, .ref q8, .null, .int 0, .int 0, .int 0, .int 0, .int 0])), (q1, .inl (g.2.1 0, 160, .inl (fun _ => 0))), (q2, .inl (g.2.1 0, 160, .inl (fun _ => 0))), (q3, .inl (g.2.1 0, 160, .inl (fun _ => 0))), (q4, .inl (g.2.1 0, 160, .inl (fun _ => 0))), (q5, .inl (g.2.1 0, 1280, .inl (fun _ => 0))), (q6, .inl (g.2.1 0, 40, .inl (fun _ => 0))), (q7, .inl (g.2.1 0, 60, .inl (fun _ => 0))), (q8, .inl (g.2.1 0, 32, .inl (fun _ => 0)))]) hC hin ff_X5_63 dX5_init_120 123 rfl 0 rfl rfl rfl (Nat.le_of_ble_eq_true rfl) rfl ?_
  refine g_aload_n hC dX5_init_123 124 rfl rfl 0 rfl ?_
  refine g_bipush hC (96 : Int32) dX5_init_124 126 rfl bipush_96 ?_
  refine g_newa hC 0 (ty := .int) rfl rfl (lw_inT 121 (by decide +kernel) rfl) 96 (a0 := (96, .inl (fun _ => 0))) (fun _ => rfl) (by decide) (by decide) (Nat.le_of_ble_eq_true rfl) ⟨Nat.le_of_ble_eq_true rfl, Nat.le_of_ble_eq_true rfl⟩ dX5_init_126 128 rfl (fun q9 => ?_)
  refine g_ws (ws2 := [(q, .inr (9, [.ref q1, .ref q2, .ref q3, .ref q4, .ref q5, .int (0 : Int32), .int (0 : Int32), .int (-1 : Int32), .int (0 : Int32), .int (0 : Int32), .int (0 : Int32), .int (0 : Int32), .int (0 : Int32), .int (0 : Int32), .ref q6, .int (0 : Int32), .ref q7, .ref q8, .null, .int 0, .int 0, .int 0, .int 0, .int 0])), (q1, .inl (g.2.1 0, 160, .inl (fun _ => 0))), (q2, .inl (g.2.1 0, 160, .inl (fun _ => 0))), (q3, .inl (g.2.1 0, 160, .inl (fun _ => 0))), (q4, .inl (g.2.1 0, 160, .inl (fun _ => 0))), (q5, .inl (g.2.1 0, 1280, .inl (fun _ => 0))), (q6, .inl (g.2.1 0, 40, .inl (fun _ => 0))), (q7, .inl (g.2.1 0, 60, .inl (fun _ => 0))), (q8, .inl (g.2.1 0, 32, .inl (fun _ => 0))), (q9, .inl (g.2.1 0, 96, .inl (fun _ => 0)))]) rfl ?_
  refine g_putF (ws2 := [(q, .inr (9, [.ref q1, .ref q2, .ref q3, .ref q4, .ref q5, .int (0 : Int32), .int (0 : Int32), .int (-1 : Int32), .int (0 : Int32), .int (0 : Int32), .int (0 : Int32), .int (0 : Int32), .int (0 : Int32), .int (0 : Int32), .ref q6, .int (0 : Int32), .ref q7, .ref q8, .ref q9, .int 0, .int 0, .int 0, .int 0, .int 0])), (q1, .inl (g.2.1 0, 160, .inl (fun _ => 0))), (q2, .inl (g.2.1 0, 160, .inl (fun _ => 0))), (q3, .inl (g.2.1 0, 160, .inl (fun _ => 0))), (q4, .inl (g.2.1 0, 160, .inl (fun _ => 0))), (q5, .inl (g.2.1 0, 1280, .inl (fun _ => 0))), (q6, .inl (g.2.1 0, 40, .inl (fun _ => 0))), (q7, .inl (g.2.1 0, 60, .inl (fun _ => 0))), (q8, .inl (g.2.1 0, 32, .inl (fun _ => 0))), (q9, .inl (g.2.1 0, 96, .inl (fun _ => 0)))]) hC hin ff_X5_66 dX5_init_128 131 rfl 0 rfl rfl rfl (Nat.le_of_ble_eq_true rfl) rfl ?_
  refine g_aload_n hC dX5_init_131 132 rfl rfl 0 rfl ?_
  refine g_iconst hC (0 : Int32) dX5_init_132 133 rfl iconst_0 ?_
  refine g_put (ws2 := [(q, .inr (9, [.ref q1, .ref q2, .ref q3, .ref q4, .ref q5, .int (0 : Int32), .int (0 : Int32), .int (-1 : Int32), .int (0 : Int32), .int (0 : Int32), .int (0 : Int32), .int (0 : Int32), .int (0 : Int32), .int (0 : Int32), .ref q6, .int (0 : Int32), .ref q7, .ref q8, .ref q9, .int (0 : Int32), .int 0, .int 0, .int 0, .int 0])), (q1, .inl (g.2.1 0, 160, .inl (fun _ => 0))), (q2, .inl (g.2.1 0, 160, .inl (fun _ => 0))), (q3, .inl (g.2.1 0, 160, .inl (fun _ => 0))), (q4, .inl (g.2.1 0, 160, .inl (fun _ => 0))), (q5, .inl (g.2.1 0, 1280, .inl (fun _ => 0))), (q6, .inl (g.2.1 0, 40, .inl (fun _ => 0))), (q7, .inl (g.2.1 0, 60, .inl (fun _ => 0))), (q8, .inl (g.2.1 0, 32, .inl (fun _ => 0))), (q9, .inl (g.2.1 0, 96, .inl (fun _ => 0)))]) hC fp_X5_69 dX5_init_133 136 rfl 0 rfl rfl rfl (Nat.le_of_ble_eq_true rfl) rfl ?_
  refine g_aload_n hC dX5_init_136 137 rfl rfl 0 rfl ?_
  refine g_iconst hC (0 : Int32) dX5_init_137 138 rfl iconst_0 ?_
  refine g_put (ws2 := [(q, .inr (9, [.ref q1, .ref q2, .ref q3, .ref q4, .ref q5, .int (0 : Int32), .int (0 : Int32), .int (-1 : Int32), .int (0 : Int32), .int (0 : Int32), .int (0 : Int32), .int (0 : Int32), .int (0 : Int32), .int (0 : Int32), .ref q6, .int (0 : Int32), .ref q7, .ref q8, .ref q9, .int (0 : Int32), .int (0 : Int32), .int 0, .int 0, .int 0])), (q1, .inl (g.2.1 0, 160, .inl (fun _ => 0))), (q2, .inl (g.2.1 0, 160, .inl (fun _ => 0))), (q3, .inl (g.2.1 0, 160, .inl (fun _ => 0))), (q4, .inl (g.2.1 0, 160, .inl (fun _ => 0))), (q5, .inl (g.2.1 0, 1280, .inl (fun _ => 0))), (q6, .inl (g.2.1 0, 40, .inl (fun _ => 0))), (q7, .inl (g.2.1 0, 60, .inl (fun _ => 0))), (q8, .inl (g.2.1 0, 32, .inl (fun _ => 0))), (q9, .inl (g.2.1 0, 96, .inl (fun _ => 0)))]) hC fp_X5_72 dX5_init_138 141 rfl 0 rfl rfl rfl (Nat.le_of_ble_eq_true rfl) rfl ?_
  refine g_aload_n hC dX5_init_141 142 rfl rfl 0 rfl ?_
  refine g_iconst hC (0 : Int32) dX5_init_142 143 rfl iconst_0 ?_
  refine g_put (ws2 := [(q, .inr (9, [.ref q1, .ref q2, .ref q3, .ref q4, .ref q5, .int (0 : Int32), .int (0 : Int32), .int (-1 : Int32), .int (0 : Int32), .int (0 : Int32), .int (0 : Int32), .int (0 : Int32), .int (0 : Int32), .int (0 : Int32), .ref q6, .int (0 : Int32), .ref q7, .ref q8, .ref q9, .int (0 : Int32), .int (0 : Int32), .int (0 : Int32), .int 0, .int 0])), (q1, .inl (g.2.1 0, 160, .inl (fun _ => 0))), (q2, .inl (g.2.1 0, 160, .inl (fun _ => 0))), (q3, .inl (g.2.1 0, 160, .inl (fun _ => 0))), (q4, .inl (g.2.1 0, 160, .inl (fun _ => 0))), (q5, .inl (g.2.1 0, 1280, .inl (fun _ => 0))), (q6, .inl (g.2.1 0, 40, .inl (fun _ => 0))), (q7, .inl (g.2.1 0, 60, .inl (fun _ => 0))), (q8, .inl (g.2.1 0, 32, .inl (fun _ => 0))), (q9, .inl (g.2.1 0, 96, .inl (fun _ => 0)))]) hC fp_X5_75 dX5_init_143 146 rfl 0 rfl rfl rfl (Nat.le_of_ble_eq_true rfl) rfl ?_
  refine g_aload_n hC dX5_init_146 147 rfl rfl 0 rfl ?_
  refine g_iconst hC (0 : Int32) dX5_init_147 148 rfl iconst_0 ?_
  refine g_put (ws2 := [(q, .inr (9, [.ref q1, .ref q2, .ref q3, .ref q4, .ref q5, .int (0 : Int32), .int (0 : Int32), .int (-1 : Int32), .int (0 : Int32), .int (0 : Int32), .int (0 : Int32), .int (0 : Int32), .int (0 : Int32), .int (0 : Int32), .ref q6, .int (0 : Int32), .ref q7, .ref q8, .ref q9, .int (0 : Int32), .int (0 : Int32), .int (0 : Int32), .int (0 : Int32), .int 0])), (q1, .inl (g.2.1 0, 160, .inl (fun _ => 0))), (q2, .inl (g.2.1 0, 160, .inl (fun _ => 0))), (q3, .inl (g.2.1 0, 160, .inl (fun _ => 0))), (q4, .inl (g.2.1 0, 160, .inl (fun _ => 0))), (q5, .inl (g.2.1 0, 1280, .inl (fun _ => 0))), (q6, .inl (g.2.1 0, 40, .inl (fun _ => 0))), (q7, .inl (g.2.1 0, 60, .inl (fun _ => 0))), (q8, .inl (g.2.1 0, 32, .inl (fun _ => 0))), (q9, .inl (g.2.1 0, 96, .inl (fun _ => 0)))]) hC fp_X5_78 dX5_init_148 151 rfl 0 rfl rfl rfl (Nat.le_of_ble_eq_true rfl) rfl ?_
  refine g_aload_n hC dX5_init_151 152 rfl rfl 0 rfl ?_
  refine g_iconst hC (0 : Int32) dX5_init_152 153 rfl iconst_0 ?_
  refine g_put (ws2 := [(q, .inr (9, [.ref q1, .ref q2, .ref q3, .ref q4, .ref q5, .int (0 : Int32), .int (0 : Int32), .int (-1 : Int32), .int (0 : Int32), .int (0 : Int32), .int (0 : Int32), .int (0 : Int32), .int (0 : Int32), .int (0 : Int32), .ref q6, .int (0 : Int32), .ref q7, .ref q8, .ref q9, .int (0 : Int32), .int (0 : Int32), .int (0 : Int32), .int (0 : Int32), .int (0 : Int32)])), (q1, .inl (g.2.1 0, 160, .inl (fun _ => 0))), (q2, .inl (g.2.1 0, 160, .inl (fun _ => 0))), (q3, .inl (g.2.1 0, 160, .inl (fun _ => 0))), (q4, .inl (g.2.1 0, 160, .inl (fun _ => 0))), (q5, .inl (g.2.1 0, 1280, .inl (fun _ => 0))), (q6, .inl (g.2.1 0, 40, .inl (fun _ => 0))), (q7, .inl (g.2.1 0, 60, .inl (fun _ => 0))), (q8, .inl (g.2.1 0, 32, .inl (fun _ => 0))), (q9, .inl (g.2.1 0, 96, .inl (fun _ => 0)))]) hC fp_X5_81 dX5_init_153 156 rfl 0 rfl rfl rfl (Nat.le_of_ble_eq_true rfl) rfl ?_
  refine g_iconst hC (0 : Int32) dX5_init_156 157 rfl iconst_0 ?_
  refine g_istore_n (lv2 := [(1, .int (0 : Int32)), (0, .ref q)]) hC dX5_init_157 158 rfl rfl (by decide) rfl ?_
  refine g_iload_n hC dX5_init_158 159 rfl rfl 0 rfl ?_
  refine g_iconst hC (5 : Int32) dX5_init_159 160 rfl iconst_5 ?_
  refine g_icmp_ge hC dX5_init_160 179 (by decide) 163 rfl (fun c => absurd c (by decide)) (fun _ => ?_)
  refine g_aload_n hC dX5_init_163 164 rfl rfl 1 rfl ?_
  refine g_get hC fl_X5_7 dX5_init_164 167 rfl 0 rfl rfl ?_
  refine g_bipush hC (120 : Int32) dX5_init_167 169 rfl bipush_120 ?_
  refine g_iload_n hC dX5_init_169 170 rfl rfl 0 rfl ?_
  refine g_iadd hC dX5_init_170 171 rfl ?_
  refine g_iconst hC (3 : Int32) dX5_init_171 172 rfl iconst_3 ?_
  refine g_iast (ws2 := [(q, .inr (9, [.ref q1, .ref q2, .ref q3, .ref q4, .ref q5, .int (0 : Int32), .int (0 : Int32), .int (-1 : Int32), .int (0 : Int32), .int (0 : Int32), .int (0 : Int32), .int (0 : Int32), .int (0 : Int32), .int (0 : Int32), .ref q6, .int (0 : Int32), .ref q7, .ref q8, .ref q9, .int (0 : Int32), .int (0 : Int32), .int (0 : Int32), .int (0 : Int32), .int (0 : Int32)])), (q1, .inl (g.2.1 0, 160, .inl (upd (fun _ => 0) (((120 : Int32) + (0 : Int32))).toNatClampNeg (3 : Int32)))), (q2, .inl (g.2.1 0, 160, .inl (fun _ => 0))), (q3, .inl (g.2.1 0, 160, .inl (fun _ => 0))), (q4, .inl (g.2.1 0, 160, .inl (fun _ => 0))), (q5, .inl (g.2.1 0, 1280, .inl (fun _ => 0))), (q6, .inl (g.2.1 0, 40, .inl (fun _ => 0))), (q7, .inl (g.2.1 0, 60, .inl (fun _ => 0))), (q8, .inl (g.2.1 0, 32, .inl (fun _ => 0))), (q9, .inl (g.2.1 0, 96, .inl (fun _ => 0)))]) hC dX5_init_172 173 rfl 1 rfl (vp_in_d (by decide +kernel)) rfl ?_
  refine g_iinc (v2 := (1 : Int32)) (lv2 := [(1, .int (1 : Int32)), (0, .ref q)]) hC dX5_init_173 176 rfl 0 rfl (by decide) (by decide) rfl ?_
  refine g_goto hC dX5_init_176 158 (by decide) ?_
  refine g_iload_n hC dX5_init_158 159 rfl rfl 0 rfl ?_
  refine g_iconst hC (5 : Int32) dX5_init_159 160 rfl iconst_5 ?_
  refine g_icmp_ge hC dX5_init_160 179 (by decide) 163 rfl (fun c => absurd c (by decide)) (fun _ => ?_)
  refine g_aload_n hC dX5_init_163 164 rfl rfl 1 rfl ?_
  refine g_get hC fl_X5_7 dX5_init_164 167 rfl 0 rfl rfl ?_
  refine g_bipush hC (120 : Int32) dX5_init_167 169 rfl bipush_120 ?_
  refine g_iload_n hC dX5_init_169 170 rfl rfl 0 rfl ?_
  refine g_iadd hC dX5_init_170 171 rfl ?_
  refine g_iconst hC (3 : Int32) dX5_init_171 172 rfl iconst_3 ?_
  refine g_iast (ws2 := [(q, .inr (9, [.ref q1, .ref q2, .ref q3, .ref q4, .ref q5, .int (0 : Int32), .int (0 : Int32), .int (-1 : Int32), .int (0 : Int32), .int (0 : Int32), .int (0 : Int32), .int (0 : Int32), .int (0 : Int32), .int (0 : Int32), .ref q6, .int (0 : Int32), .ref q7, .ref q8, .ref q9, .int (0 : Int32), .int (0 : Int32), .int (0 : Int32), .int (0 : Int32), .int (0 : Int32)])), (q1, .inl (g.2.1 0, 160, .inl (upd (upd (fun _ => 0) (((120 : Int32) + (0 : Int32))).toNatClampNeg (3 : Int32)) (((120 : Int32) + (1 : Int32))).toNatClampNeg (3 : Int32)))), (q2, .inl (g.2.1 0, 160, .inl (fun _ => 0))), (q3, .inl (g.2.1 0, 160, .inl (fun _ => 0))), (q4, .inl (g.2.1 0, 160, .inl (fun _ => 0))), (q5, .inl (g.2.1 0, 1280, .inl (fun _ => 0))), (q6, .inl (g.2.1 0, 40, .inl (fun _ => 0))), (q7, .inl (g.2.1 0, 60, .inl (fun _ => 0))), (q8, .inl (g.2.1 0, 32, .inl (fun _ => 0))), (q9, .inl (g.2.1 0, 96, .inl (fun _ => 0)))]) hC dX5_init_172 173 rfl 1 rfl (vp_in_d (by decide +kernel)) rfl ?_
  refine g_iinc (v2 := (2 : Int32)) (lv2 := [(1, .int (2 : Int32)), (0, .ref q)]) hC dX5_init_173 176 rfl 0 rfl (by decide) (by decide) rfl ?_
  refine g_goto hC dX5_init_176 158 (by decide) ?_
  refine g_iload_n hC dX5_init_158 159 rfl rfl 0 rfl ?_
  refine g_iconst hC (5 : Int32) dX5_init_159 160 rfl iconst_5 ?_
  refine g_icmp_ge hC dX5_init_160 179 (by decide) 163 rfl (fun c => absurd c (by decide)) (fun _ => ?_)
  refine g_aload_n hC dX5_init_163 164 rfl rfl 1 rfl ?_
  refine g_get hC fl_X5_7 dX5_init_164 167 rfl 0 rfl rfl ?_
  refine g_bipush hC (120 : Int32) dX5_init_167 169 rfl bipush_120 ?_
  refine g_iload_n hC dX5_init_169 170 rfl rfl 0 rfl ?_
  refine g_iadd hC dX5_init_170 171 rfl ?_
  refine g_iconst hC (3 : Int32) dX5_init_171 172 rfl iconst_3 ?_
  refine g_iast (ws2 := [(q, .inr (9, [.ref q1, .ref q2, .ref q3, .ref q4, .ref q5, .int (0 : Int32), .int (0 : Int32), .int (-1 : Int32), .int (0 : Int32), .int (0 : Int32), .int (0 : Int32), .int (0 : Int32), .int (0 : Int32), .int (0 : Int32), .ref q6, .int (0 : Int32), .ref q7, .ref q8, .ref q9, .int (0 : Int32), .int (0 : Int32), .int (0 : Int32), .int (0 : Int32), .int (0 : Int32)])), (q1, .inl (g.2.1 0, 160, .inl (upd (upd (upd (fun _ => 0) (((120 : Int32) + (0 : Int32))).toNatClampNeg (3 : Int32)) (((120 : Int32) + (1 : Int32))).toNatClampNeg (3 : Int32)) (((120 : Int32) + (2 : Int32))).toNatClampNeg (3 : Int32)))), (q2, .inl (g.2.1 0, 160, .inl (fun _ => 0))), (q3, .inl (g.2.1 0, 160, .inl (fun _ => 0))), (q4, .inl (g.2.1 0, 160, .inl (fun _ => 0))), (q5, .inl (g.2.1 0, 1280, .inl (fun _ => 0))), (q6, .inl (g.2.1 0, 40, .inl (fun _ => 0))), (q7, .inl (g.2.1 0, 60, .inl (fun _ => 0))), (q8, .inl (g.2.1 0, 32, .inl (fun _ => 0))), (q9, .inl (g.2.1 0, 96, .inl (fun _ => 0)))]) hC dX5_init_172 173 rfl 1 rfl (vp_in_d (by decide +kernel)) rfl ?_
  refine g_iinc (v2 := (3 : Int32)) (lv2 := [(1, .int (3 : Int32)), (0, .ref q)]) hC dX5_init_173 176 rfl 0 rfl (by decide) (by decide) rfl ?_
  refine g_goto hC dX5_init_176 158 (by decide) ?_
  refine g_iload_n hC dX5_init_158 159 rfl rfl 0 rfl ?_
  refine g_iconst hC (5 : Int32) dX5_init_159 160 rfl iconst_5 ?_
  refine g_icmp_ge hC dX5_init_160 179 (by decide) 163 rfl (fun c => absurd c (by decide)) (fun _ => ?_)
  refine g_aload_n hC dX5_init_163 164 rfl rfl 1 rfl ?_
  refine g_get hC fl_X5_7 dX5_init_164 167 rfl 0 rfl rfl ?_
  refine g_bipush hC (120 : Int32) dX5_init_167 169 rfl bipush_120 ?_
  refine g_iload_n hC dX5_init_169 170 rfl rfl 0 rfl ?_
  refine g_iadd hC dX5_init_170 171 rfl ?_
  refine g_iconst hC (3 : Int32) dX5_init_171 172 rfl iconst_3 ?_
  refine g_iast (ws2 := [(q, .inr (9, [.ref q1, .ref q2, .ref q3, .ref q4, .ref q5, .int (0 : Int32), .int (0 : Int32), .int (-1 : Int32), .int (0 : Int32), .int (0 : Int32), .int (0 : Int32), .int (0 : Int32), .int (0 : Int32), .int (0 : Int32), .ref q6, .int (0 : Int32), .ref q7, .ref q8, .ref q9, .int (0 : Int32), .int (0 : Int32), .int (0 : Int32), .int (0 : Int32), .int (0 : Int32)])), (q1, .inl (g.2.1 0, 160, .inl (upd (upd (upd (upd (fun _ => 0) (((120 : Int32) + (0 : Int32))).toNatClampNeg (3 : Int32)) (((120 : Int32) + (1 : Int32))).toNatClampNeg (3 : Int32)) (((120 : Int32) + (2 : Int32))).toNatClampNeg (3 : Int32)) (((120 : Int32) + (3 : Int32))).toNatClampNeg (3 : Int32)))), (q2, .inl (g.2.1 0, 160, .inl (fun _ => 0))), (q3, .inl (g.2.1 0, 160, .inl (fun _ => 0))), (q4, .inl (g.2.1 0, 160, .inl (fun _ => 0))), (q5, .inl (g.2.1 0, 1280, .inl (fun _ => 0))), (q6, .inl (g.2.1 0, 40, .inl (fun _ => 0))), (q7, .inl (g.2.1 0, 60, .inl (fun _ => 0))), (q8, .inl (g.2.1 0, 32, .inl (fun _ => 0))), (q9, .inl (g.2.1 0, 96, .inl (fun _ => 0)))]) hC dX5_init_172 173 rfl 1 rfl (vp_in_d (by decide +kernel)) rfl ?_
  refine g_iinc (v2 := (4 : Int32)) (lv2 := [(1, .int (4 : Int32)), (0, .ref q)]) hC dX5_init_173 176 rfl 0 rfl (by decide) (by decide) rfl ?_
  refine g_goto hC dX5_init_176 158 (by decide) ?_
  refine g_iload_n hC dX5_init_158 159 rfl rfl 0 rfl ?_
  refine g_iconst hC (5 : Int32) dX5_init_159 160 rfl iconst_5 ?_
  refine g_icmp_ge hC dX5_init_160 179 (by decide) 163 rfl (fun c => absurd c (by decide)) (fun _ => ?_)
  refine g_aload_n hC dX5_init_163 164 rfl rfl 1 rfl ?_
  refine g_get hC fl_X5_7 dX5_init_164 167 rfl 0 rfl rfl ?_
  refine g_bipush hC (120 : Int32) dX5_init_167 169 rfl bipush_120 ?_
  refine g_iload_n hC dX5_init_169 170 rfl rfl 0 rfl ?_
  refine g_iadd hC dX5_init_170 171 rfl ?_
  refine g_iconst hC (3 : Int32) dX5_init_171 172 rfl iconst_3 ?_
  refine g_iast (ws2 := [(q, .inr (9, [.ref q1, .ref q2, .ref q3, .ref q4, .ref q5, .int (0 : Int32), .int (0 : Int32), .int (-1 : Int32), .int (0 : Int32), .int (0 : Int32), .int (0 : Int32), .int (0 : Int32), .int (0 : Int32), .int (0 : Int32), .ref q6, .int (0 : Int32), .ref q7, .ref q8, .ref q9, .int (0 : Int32), .int (0 : Int32), .int (0 : Int32), .int (0 : Int32), .int (0 : Int32)])), (q1, .inl (g.2.1 0, 160, .inl (upd (upd (upd (upd (upd (fun _ => 0) (((120 : Int32) + (0 : Int32))).toNatClampNeg (3 : Int32)) (((120 : Int32) + (1 : Int32))).toNatClampNeg (3 : Int32)) (((120 : Int32) + (2 : Int32))).toNatClampNeg (3 : Int32)) (((120 : Int32) + (3 : Int32))).toNatClampNeg (3 : Int32)) (((120 : Int32) + (4 : Int32))).toNatClampNeg (3 : Int32)))), (q2, .inl (g.2.1 0, 160, .inl (fun _ => 0))), (q3, .inl (g.2.1 0, 160, .inl (fun _ => 0))), (q4, .inl (g.2.1 0, 160, .inl (fun _ => 0))), (q5, .inl (g.2.1 0, 1280, .inl (fun _ => 0))), (q6, .inl (g.2.1 0, 40, .inl (fun _ => 0))), (q7, .inl (g.2.1 0, 60, .inl (fun _ => 0))), (q8, .inl (g.2.1 0, 32, .inl (fun _ => 0))), (q9, .inl (g.2.1 0, 96, .inl (fun _ => 0)))]) hC dX5_init_172 173 rfl 1 rfl (vp_in_d (by decide +kernel)) rfl ?_
  refine g_iinc (v2 := (5 : Int32)) (lv2 := [(1, .int (5 : Int32)), (0, .ref q)]) hC dX5_init_173 176 rfl 0 rfl (by decide) (by decide) rfl ?_
  refine g_goto hC dX5_init_176 158 (by decide) ?_
  refine g_iload_n hC dX5_init_158 159 rfl rfl 0 rfl ?_
  refine g_iconst hC (5 : Int32) dX5_init_159 160 rfl iconst_5 ?_
  refine g_icmp_ge hC dX5_init_160 179 (by decide) 163 rfl (fun _ => ?_) (fun c => absurd (by decide) c)
  exact g_vret hC hZ dX5_init_179 ⟨fun i => [q, q1, q2, q3, q4, q5, q6, q7, q8, q9].getD i 0, rfl, rfl, rfl⟩
/-- the embassy as it is made -/
def emb0 : Off := fun k => if k < 13 then off0 k else if k = 13 then (fun j => if j = 9 then -1 else 0) else if 20 ≤ k ∧ k < 32 then off0 (k - 20) else if 100 ≤ k then off0 ((k - 100) % 20) else fun _ => 0
theorem va_P_row {D : va_G} {cl : List vw_C} {c0 : Nat × va_E} {a N : Nat} {cA : ClassId} {f f2 : Nat → Option Nat} {suf : va_W} {H : Heap} (h : ∀ j, j < N → f j = f2 j) (hP : va_P D cl (c0 :: (a, .inl (cA, N, .inr (.inr (.inr (.inr f))))) :: suf) H) : va_P D cl (c0 :: (a, .inl (cA, N, .inr (.inr (.inr (.inr f2))))) :: suf) H := by
  have h0 := va_P_iff.mp hP
  refine va_P_iff.mpr fun q hq => ?_
  rcases List.mem_cons.mp hq with rfl | hq
  · exact h0 _ List.mem_cons_self
  · rcases List.mem_cons.mp hq with rfl | hq
    · have h1 := h0 _ (List.mem_cons_of_mem _ List.mem_cons_self)
      show H[a]? = some (vp_cell _ _)
      have h2 : H[a]? = some (vp_cell cA (N, .inr (.inr (.inr (.inr f))))) := h1
      rw [h2, vp_cell_q, vp_cell_q]
      exact congrArg some (arrV_same fun j hj => by rw [h j hj])
    · exact h0 _ (List.mem_cons_of_mem _ (List.mem_cons_of_mem _ hq))
set_option maxRecDepth 100000 in
set_option maxHeartbeats 4000000 in
theorem ct_X2_init (l : Launch) (g : gE) (q : Nat) : FnN l g yX2_init cX2_init 2 none 2 41 109 1475 [(q, .inr (6, [.null, .null, .int 0, .int 0, .int 0]))] [.ref q] (fun r w => ∃ (h : Nat → Nat) (p : Nat → Nat → Nat), h 0 = q ∧ r = none ∧ w = hisW g h p emb0) := by
  refine FnN.of (by decide) (Nat.le_of_ble_eq_true rfl) (fun x hC hZ hNw hin => ?_)
  show G x g 2 0 0 [(q, .inr (6, [.null, .null, .int 0, .int 0, .int 0]))] 0 [(0, .ref q)] []
  refine g_aload_n hC dX2_init_0 1 rfl rfl 0 rfl ?_
  refine g_oinit hC (lw_inT 138 (by decide +kernel) rfl) oi_w1 oi_w2 dX2_init_1 4 rfl ⟨Nat.le_of_ble_eq_true rfl, Nat.le_of_ble_eq_true rfl⟩ (Nat.le_of_ble_eq_true rfl) ?_
  refine g_aload_n hC dX2_init_4 5 rfl rfl 0 rfl ?_
  refine g_bipush hC (8 : Int32) dX2_init_5 7 rfl bipush_8 ?_
  refine g_newq hC hNw.2 (lw_inT 139 (by decide +kernel) rfl) 8 (by decide) (by decide) (Nat.le_of_ble_eq_true rfl) ⟨Nat.le_of_ble_eq_true rfl, Nat.le_of_ble_eq_true rfl⟩ dX2_init_7 10 rfl (fun q1 => ?_)
  refine g_ws (ws2 := [(q, .inr (6, [.null, .null, .int 0, .int 0, .int 0])), (q1, .inl (g.2.1 3, 8, .inr (.inr (.inr (.inr (fun _ => none))))))]) rfl ?_
  refine g_putF (ws2 := [(q, .inr (6, [.ref q1, .null, .int 0, .int 0, .int 0])), (q1, .inl (g.2.1 3, 8, .inr (.inr (.inr (.inr (fun _ => none))))))]) hC hin ff_X2_11 dX2_init_10 13 rfl 0 rfl rfl rfl (Nat.le_of_ble_eq_true rfl) rfl ?_
  refine g_aload_n hC dX2_init_13 14 rfl rfl 0 rfl ?_
  refine g_new hC (C := RX3) (ci := 7) (T := TX3) (N := 16) rfl tyX3 tyX3_ok uw_X3 (lw_inT 139 (by decide +kernel) rfl) (lw_inT 46 (by decide +kernel) rfl) (lw_inT 3 (by decide +kernel) rfl) (fs := [.int 0, .int 0, .int 0, .int 0, .int 0, .null, .null, .null, .null, .null, .null, .null, .null, .null, .null, .null]) (by decide +kernel) ⟨Nat.le_of_ble_eq_true rfl, Nat.le_of_ble_eq_true rfl⟩ dX2_init_14 17 rfl (fun q2 => ?_)
  refine g_ws (ws2 := [(q, .inr (6, [.ref q1, .null, .int 0, .int 0, .int 0])), (q1, .inl (g.2.1 3, 8, .inr (.inr (.inr (.inr (fun _ => none)))))), (q2, .inr (7, [.int 0, .int 0, .int 0, .int 0, .int 0, .null, .null, .null, .null, .null, .null, .null, .null, .null, .null, .null]))]) rfl ?_
  refine g_dup hC dX2_init_17 18 rfl rfl ?_
  refine g_callI hC (ct_X3_init l g q2) gY_X3_init dX2_init_18 21 rfl ml_X2_17 ([(q, .inr (6, [.ref q1, .null, .int 0, .int 0, .int 0])), (q1, .inl (g.2.1 3, 8, .inr (.inr (.inr (.inr (fun _ => none))))))]) [] rfl [.ref q2, .ref q] rfl rfl rfl ⟨Nat.le_of_ble_eq_true rfl, Nat.le_of_ble_eq_true rfl⟩ (Nat.le_of_ble_eq_true rfl) ⟨Nat.le_of_ble_eq_true rfl, Nat.le_of_ble_eq_true rfl⟩ ?_
  rintro r w1 ⟨a3, rfl, rfl, rfl⟩
  refine g_ws (ws2 := [(q, .inr (6, [.ref q1, .null, .int 0, .int 0, .int 0])), (q1, .inl (g.2.1 3, 8, .inr (.inr (.inr (.inr (fun _ => none))))))] ++ (offW g a3 off0)) rfl ?_
  refine g_putF (ws2 := [(q, .inr (6, [.ref q1, .ref (a3 0), .int 0, .int 0, .int 0])), (q1, .inl (g.2.1 3, 8, .inr (.inr (.inr (.inr (fun _ => none))))))] ++ (offW g a3 off0)) hC hin ff_X2_18 dX2_init_21 24 rfl 0 rfl rfl rfl (Nat.le_of_ble_eq_true rfl) rfl ?_
  refine g_iconst hC (0 : Int32) dX2_init_24 25 rfl iconst_0 ?_
  refine g_istore_n (lv2 := [(1, .int (0 : Int32)), (0, .ref q)]) hC dX2_init_25 26 rfl rfl (by decide) rfl ?_
  refine g_iload_n hC dX2_init_26 27 rfl rfl 0 rfl ?_
  refine g_bipush hC (8 : Int32) dX2_init_27 29 rfl bipush_8 ?_
  refine g_icmp_ge hC dX2_init_29 51 (by decide) 32 rfl (fun c => absurd c (by decide)) (fun _ => ?_)
  refine g_aload_n hC dX2_init_32 33 rfl rfl 1 rfl ?_
  refine g_get hC fl_X2_11 dX2_init_33 36 rfl 0 rfl rfl ?_
  refine g_iload_n hC dX2_init_36 37 rfl rfl 0 rfl ?_
  refine g_new hC (C := RX3) (ci := 7) (T := TX3) (N := 16) rfl tyX3 tyX3_ok uw_X3 (lw_inT 139 (by decide +kernel) rfl) (lw_inT 46 (by decide +kernel) rfl) (lw_inT 3 (by decide +kernel) rfl) (fs := [.int 0, .int 0, .int 0, .int 0, .int 0, .null, .null, .null, .null, .null, .null, .null, .null, .null, .null, .null]) (by decide +kernel) ⟨Nat.le_of_ble_eq_true rfl, Nat.le_of_ble_eq_true rfl⟩ dX2_init_37 40 rfl (fun q4 => ?_)
  refine g_ws (ws2 := [(q, .inr (6, [.ref q1, .ref (a3 0), .int 0, .int 0, .int 0])), (q1, .inl (g.2.1 3, 8, .inr (.inr (.inr (.inr (fun _ => none))))))] ++ (offW g a3 off0 ++ ([(q4, .inr (7, [.int 0, .int 0, .int 0, .int 0, .int 0, .null, .null, .null, .null, .null, .null, .null, .null, .null, .null, .null]))]))) rfl ?_
  refine g_dup hC dX2_init_40 41 rfl rfl ?_
  refine g_callI hC (ct_X3_init l g q4) gY_X3_init dX2_init_41 44 rfl ml_X2_17 ([(q, .inr (6, [.ref q1, .ref (a3 0), .int 0, .int 0, .int 0])), (q1, .inl (g.2.1 3, 8, .inr (.inr (.inr (.inr (fun _ => none))))))] ++ (offW g a3 off0)) [] rfl [.ref q4, .int (0 : Int32), .ref q1] rfl rfl rfl ⟨Nat.le_of_ble_eq_true rfl, Nat.le_of_ble_eq_true rfl⟩ (Nat.le_of_ble_eq_true rfl) ⟨Nat.le_of_ble_eq_true rfl, Nat.le_of_ble_eq_true rfl⟩ ?_
  rintro r w1 ⟨a5, rfl, rfl, rfl⟩
  refine g_ws (ws2 := [(q, .inr (6, [.ref q1, .ref (a3 0), .int 0, .int 0, .int 0])), (q1, .inl (g.2.1 3, 8, .inr (.inr (.inr (.inr (fun _ => none))))))] ++ (offW g a3 off0 ++ (offW g a5 off0))) rfl ?_
  refine g_astq (ws2 := [(q, .inr (6, [.ref q1, .ref (a3 0), .int 0, .int 0, .int 0])), (q1, .inl (g.2.1 3, 8, .inr (.inr (.inr (.inr (va_up (fun _ => none) ((0 : Int32)).toNatClampNeg (some (a5 0))))))))] ++ (offW g a3 off0 ++ (offW g a5 off0))) hC dX2_init_44 45 rfl 1 14 rfl rfl (vp_in_d (by decide +kernel)) rfl ?_
  refine g_iinc (v2 := (1 : Int32)) (lv2 := [(1, .int (1 : Int32)), (0, .ref q)]) hC dX2_init_45 48 rfl 0 rfl (by decide) (by decide) rfl ?_
  refine g_goto hC dX2_init_48 26 (by decide) ?_
  refine g_iload_n hC dX2_init_26 27 rfl rfl 0 rfl ?_
  refine g_bipush hC (8 : Int32) dX2_init_27 29 rfl bipush_8 ?_
  refine g_icmp_ge hC dX2_init_29 51 (by decide) 32 rfl (fun c => absurd c (by decide)) (fun _ => ?_)
  refine g_aload_n hC dX2_init_32 33 rfl rfl 1 rfl ?_
  refine g_get hC fl_X2_11 dX2_init_33 36 rfl 0 rfl rfl ?_
  refine g_iload_n hC dX2_init_36 37 rfl rfl 0 rfl ?_
  refine g_new hC (C := RX3) (ci := 7) (T := TX3) (N := 16) rfl tyX3 tyX3_ok uw_X3 (lw_inT 139 (by decide +kernel) rfl) (lw_inT 46 (by decide +kernel) rfl) (lw_inT 3 (by decide +kernel) rfl) (fs := [.int 0, .int 0, .int 0, .int 0, .int 0, .null, .null, .null, .null, .null, .null, .null, .null, .null, .null, .null]) (by decide +kernel) ⟨Nat.le_of_ble_eq_true rfl, Nat.le_of_ble_eq_true rfl⟩ dX2_init_37 40 rfl (fun q6 => ?_)
  refine g_ws (ws2 := [(q, .inr (6, [.ref q1, .ref (a3 0), .int 0, .int 0, .int 0])), (q1, .inl (g.2.1 3, 8, .inr (.inr (.inr (.inr (va_up (fun _ => none) ((0 : Int32)).toNatClampNeg (some (a5 0))))))))] ++ (offW g a3 off0 ++ (offW g a5 off0 ++ ([(q6, .inr (7, [.int 0, .int 0, .int 0, .int 0, .int 0, .null, .null, .null, .null, .null, .null, .null, .null, .null, .null, .null]))])))) rfl ?_
  refine g_dup hC dX2_init_40 41 rfl rfl ?_
  refine g_callI hC (ct_X3_init l g q6) gY_X3_init dX2_init_41 44 rfl ml_X2_17 ([(q, .inr (6, [.ref q1, .ref (a3 0), .int 0, .int 0, .int 0])), (q1, .inl (g.2.1 3, 8, .inr (.inr (.inr (.inr (va_up (fun _ => none) ((0 : Int32)).toNatClampNeg (some (a5 0))))))))] ++ (offW g a3 off0 ++ (offW g a5 off0))) [] rfl [.ref q6, .int (1 : Int32), .ref q1] rfl rfl rfl ⟨Nat.le_of_ble_eq_true rfl, Nat.le_of_ble_eq_true rfl⟩ (Nat.le_of_ble_eq_true rfl) ⟨Nat.le_of_ble_eq_true rfl, Nat.le_of_ble_eq_true rfl⟩ ?_
  rintro r w1 ⟨a7, rfl, rfl, rfl⟩
  refine g_ws (ws2 := [(q, .inr (6, [.ref q1, .ref (a3 0), .int 0, .int 0, .int 0])), (q1, .inl (g.2.1 3, 8, .inr (.inr (.inr (.inr (va_up (fun _ => none) ((0 : Int32)).toNatClampNeg (some (a5 0))))))))] ++ (offW g a3 off0 ++ (offW g a5 off0 ++ (offW g a7 off0)))) rfl ?_
  refine g_astq (ws2 := [(q, .inr (6, [.ref q1, .ref (a3 0), .int 0, .int 0, .int 0])), (q1, .inl (g.2.1 3, 8, .inr (.inr (.inr (.inr (va_up (va_up (fun _ => none) ((0 : Int32)).toNatClampNeg (some (a5 0))) ((1 : Int32)).toNatClampNeg (some (a7 0))))))))] ++ (offW g a3 off0 ++ (offW g a5 off0 ++ (offW g a7 off0)))) hC dX2_init_44 45 rfl 1 26 rfl rfl (vp_in_d (by decide +kernel)) rfl ?_
  refine g_iinc (v2 := (2 : Int32)) (lv2 := [(1, .int (2 : Int32)), (0, .ref q)]) hC dX2_init_45 48 rfl 0 rfl (by decide) (by decide) rfl ?_
  refine g_goto hC dX2_init_48 26 (by decide) ?_
  refine g_iload_n hC dX2_init_26 27 rfl rfl 0 rfl ?_
  refine g_bipush hC (8 : Int32) dX2_init_27 29 rfl bipush_8 ?_
  refine g_icmp_ge hC dX2_init_29 51 (by decide) 32 rfl (fun c => absurd c (by decide)) (fun _ => ?_)
  refine g_aload_n hC dX2_init_32 33 rfl rfl 1 rfl ?_
  refine g_get hC fl_X2_11 dX2_init_33 36 rfl 0 rfl rfl ?_
  refine g_iload_n hC dX2_init_36 37 rfl rfl 0 rfl ?_
  refine g_new hC (C := RX3) (ci := 7) (T := TX3) (N := 16) rfl tyX3 tyX3_ok uw_X3 (lw_inT 139 (by decide +kernel) rfl) (lw_inT 46 (by decide +kernel) rfl) (lw_inT 3 (by decide +kernel) rfl) (fs := [.int 0, .int 0, .int 0, .int 0, .int 0, .null, .null, .null, .null, .null, .null, .null, .null, .null, .null, .null]) (by decide +kernel) ⟨Nat.le_of_ble_eq_true rfl, Nat.le_of_ble_eq_true rfl⟩ dX2_init_37 40 rfl (fun q8 => ?_)
  refine g_ws (ws2 := [(q, .inr (6, [.ref q1, .ref (a3 0), .int 0, .int 0, .int 0])), (q1, .inl (g.2.1 3, 8, .inr (.inr (.inr (.inr (va_up (va_up (fun _ => none) ((0 : Int32)).toNatClampNeg (some (a5 0))) ((1 : Int32)).toNatClampNeg (some (a7 0))))))))] ++ (offW g a3 off0 ++ (offW g a5 off0 ++ (offW g a7 off0 ++ ([(q8, .inr (7, [.int 0, .int 0, .int 0, .int 0, .int 0, .null, .null, .null, .null, .null, .null, .null, .null, .null, .null, .null]))]))))) rfl ?_
  refine g_dup hC dX2_init_40 41 rfl rfl ?_
  refine g_callI hC (ct_X3_init l g q8) gY_X3_init dX2_init_41 44 rfl ml_X2_17 ([(q, .inr (6, [.ref q1, .ref (a3 0), .int 0, .int 0, .int 0])), (q1, .inl (g.2.1 3, 8, .inr (.inr (.inr (.inr (va_up (va_up (fun _ => none) ((0 : Int32)).toNatClampNeg (some (a5 0))) ((1 : Int32)).toNatClampNeg (some (a7 0))))))))] ++ (offW g a3 off0 ++ (offW g a5 off0 ++ (offW g a7 off0)))) [] rfl [.ref q8, .int (2 : Int32), .ref q1] rfl rfl rfl ⟨Nat.le_of_ble_eq_true rfl, Nat.le_of_ble_eq_true rfl⟩ (Nat.le_of_ble_eq_true rfl) ⟨Nat.le_of_ble_eq_true rfl, Nat.le_of_ble_eq_true rfl⟩ ?_
  rintro r w1 ⟨a9, rfl, rfl, rfl⟩
  refine g_ws (ws2 := [(q, .inr (6, [.ref q1, .ref (a3 0), .int 0, .int 0, .int 0])), (q1, .inl (g.2.1 3, 8, .inr (.inr (.inr (.inr (va_up (va_up (fun _ => none) ((0 : Int32)).toNatClampNeg (some (a5 0))) ((1 : Int32)).toNatClampNeg (some (a7 0))))))))] ++ (offW g a3 off0 ++ (offW g a5 off0 ++ (offW g a7 off0 ++ (offW g a9 off0))))) rfl ?_
  refine g_astq (ws2 := [(q, .inr (6, [.ref q1, .ref (a3 0), .int 0, .int 0, .int 0])), (q1, .inl (g.2.1 3, 8, .inr (.inr (.inr (.inr (va_up (va_up (va_up (fun _ => none) ((0 : Int32)).toNatClampNeg (some (a5 0))) ((1 : Int32)).toNatClampNeg (some (a7 0))) ((2 : Int32)).toNatClampNeg (some (a9 0))))))))] ++ (offW g a3 off0 ++ (offW g a5 off0 ++ (offW g a7 off0 ++ (offW g a9 off0))))) hC dX2_init_44 45 rfl 1 38 rfl rfl (vp_in_d (by decide +kernel)) rfl ?_
  refine g_iinc (v2 := (3 : Int32)) (lv2 := [(1, .int (3 : Int32)), (0, .ref q)]) hC dX2_init_45 48 rfl 0 rfl (by decide) (by decide) rfl ?_
  refine g_goto hC dX2_init_48 26 (by decide) ?_
  refine g_iload_n hC dX2_init_26 27 rfl rfl 0 rfl ?_
  refine g_bipush hC (8 : Int32) dX2_init_27 29 rfl bipush_8 ?_
  refine g_icmp_ge hC dX2_init_29 51 (by decide) 32 rfl (fun c => absurd c (by decide)) (fun _ => ?_)
  refine g_aload_n hC dX2_init_32 33 rfl rfl 1 rfl ?_
  refine g_get hC fl_X2_11 dX2_init_33 36 rfl 0 rfl rfl ?_
  refine g_iload_n hC dX2_init_36 37 rfl rfl 0 rfl ?_
  refine g_new hC (C := RX3) (ci := 7) (T := TX3) (N := 16) rfl tyX3 tyX3_ok uw_X3 (lw_inT 139 (by decide +kernel) rfl) (lw_inT 46 (by decide +kernel) rfl) (lw_inT 3 (by decide +kernel) rfl) (fs := [.int 0, .int 0, .int 0, .int 0, .int 0, .null, .null, .null, .null, .null, .null, .null, .null, .null, .null, .null]) (by decide +kernel) ⟨Nat.le_of_ble_eq_true rfl, Nat.le_of_ble_eq_true rfl⟩ dX2_init_37 40 rfl (fun q10 => ?_)
  refine g_ws (ws2 := [(q, .inr (6, [.ref q1, .ref (a3 0), .int 0, .int 0, .int 0])), (q1, .inl (g.2.1 3, 8, .inr (.inr (.inr (.inr (va_up (va_up (va_up (fun _ => none) ((0 : Int32)).toNatClampNeg (some (a5 0))) ((1 : Int32)).toNatClampNeg (some (a7 0))) ((2 : Int32)).toNatClampNeg (some (a9 0))))))))] ++ (offW g a3 off0 ++ (offW g a5 off0 ++ (offW g a7 off0 ++ (offW g a9 off0 ++ ([(q10, .inr (7, [.int 0, .int 0, .int 0, .int 0, .int 0, .null, .null, .null, .null, .null, .null, .null, .null, .null, .null, .null]))])))))) rfl ?_
  refine g_dup hC dX2_init_40 41 rfl rfl ?_
  refine g_callI hC (ct_X3_init l g q10) gY_X3_init dX2_init_41 44 rfl ml_X2_17 ([(q, .inr (6, [.ref q1, .ref (a3 0), .int 0, .int 0, .int 0])), (q1, .inl (g.2.1 3, 8, .inr (.inr (.inr (.inr (va_up (va_up (va_up (fun _ => none) ((0 : Int32)).toNatClampNeg (some (a5 0))) ((1 : Int32)).toNatClampNeg (some (a7 0))) ((2 : Int32)).toNatClampNeg (some (a9 0))))))))] ++ (offW g a3 off0 ++ (offW g a5 off0 ++ (offW g a7 off0 ++ (offW g a9 off0))))) [] rfl [.ref q10, .int (3 : Int32), .ref q1] rfl rfl rfl ⟨Nat.le_of_ble_eq_true rfl, Nat.le_of_ble_eq_true rfl⟩ (Nat.le_of_ble_eq_true rfl) ⟨Nat.le_of_ble_eq_true rfl, Nat.le_of_ble_eq_true rfl⟩ ?_
  rintro r w1 ⟨a11, rfl, rfl, rfl⟩
  refine g_ws (ws2 := [(q, .inr (6, [.ref q1, .ref (a3 0), .int 0, .int 0, .int 0])), (q1, .inl (g.2.1 3, 8, .inr (.inr (.inr (.inr (va_up (va_up (va_up (fun _ => none) ((0 : Int32)).toNatClampNeg (some (a5 0))) ((1 : Int32)).toNatClampNeg (some (a7 0))) ((2 : Int32)).toNatClampNeg (some (a9 0))))))))] ++ (offW g a3 off0 ++ (offW g a5 off0 ++ (offW g a7 off0 ++ (offW g a9 off0 ++ (offW g a11 off0)))))) rfl ?_
  refine g_astq (ws2 := [(q, .inr (6, [.ref q1, .ref (a3 0), .int 0, .int 0, .int 0])), (q1, .inl (g.2.1 3, 8, .inr (.inr (.inr (.inr (va_up (va_up (va_up (va_up (fun _ => none) ((0 : Int32)).toNatClampNeg (some (a5 0))) ((1 : Int32)).toNatClampNeg (some (a7 0))) ((2 : Int32)).toNatClampNeg (some (a9 0))) ((3 : Int32)).toNatClampNeg (some (a11 0))))))))] ++ (offW g a3 off0 ++ (offW g a5 off0 ++ (offW g a7 off0 ++ (offW g a9 off0 ++ (offW g a11 off0)))))) hC dX2_init_44 45 rfl 1 50 rfl rfl (vp_in_d (by decide +kernel)) rfl ?_
  refine g_iinc (v2 := (4 : Int32)) (lv2 := [(1, .int (4 : Int32)), (0, .ref q)]) hC dX2_init_45 48 rfl 0 rfl (by decide) (by decide) rfl ?_
  refine g_goto hC dX2_init_48 26 (by decide) ?_
  refine g_iload_n hC dX2_init_26 27 rfl rfl 0 rfl ?_
  refine g_bipush hC (8 : Int32) dX2_init_27 29 rfl bipush_8 ?_
  refine g_icmp_ge hC dX2_init_29 51 (by decide) 32 rfl (fun c => absurd c (by decide)) (fun _ => ?_)
  refine g_aload_n hC dX2_init_32 33 rfl rfl 1 rfl ?_
  refine g_get hC fl_X2_11 dX2_init_33 36 rfl 0 rfl rfl ?_
  refine g_iload_n hC dX2_init_36 37 rfl rfl 0 rfl ?_
  refine g_new hC (C := RX3) (ci := 7) (T := TX3) (N := 16) rfl tyX3 tyX3_ok uw_X3 (lw_inT 139 (by decide +kernel) rfl) (lw_inT 46 (by decide +kernel) rfl) (lw_inT 3 (by decide +kernel) rfl) (fs := [.int 0, .int 0, .int 0, .int 0, .int 0, .null, .null, .null, .null, .null, .null, .null, .null, .null, .null, .null]) (by decide +kernel) ⟨Nat.le_of_ble_eq_true rfl, Nat.le_of_ble_eq_true rfl⟩ dX2_init_37 40 rfl (fun q12 => ?_)
  refine g_ws (ws2 := [(q, .inr (6, [.ref q1, .ref (a3 0), .int 0, .int 0, .int 0])), (q1, .inl (g.2.1 3, 8, .inr (.inr (.inr (.inr (va_up (va_up (va_up (va_up (fun _ => none) ((0 : Int32)).toNatClampNeg (some (a5 0))) ((1 : Int32)).toNatClampNeg (some (a7 0))) ((2 : Int32)).toNatClampNeg (some (a9 0))) ((3 : Int32)).toNatClampNeg (some (a11 0))))))))] ++ (offW g a3 off0 ++ (offW g a5 off0 ++ (offW g a7 off0 ++ (offW g a9 off0 ++ (offW g a11 off0 ++ ([(q12, .inr (7, [.int 0, .int 0, .int 0, .int 0, .int 0, .null, .null, .null, .null, .null, .null, .null, .null, .null, .null, .null]))]))))))) rfl ?_
  refine g_dup hC dX2_init_40 41 rfl rfl ?_
  refine g_callI hC (ct_X3_init l g q12) gY_X3_init dX2_init_41 44 rfl ml_X2_17 ([(q, .inr (6, [.ref q1, .ref (a3 0), .int 0, .int 0, .int 0])), (q1, .inl (g.2.1 3, 8, .inr (.inr (.inr (.inr (va_up (va_up (va_up (va_up (fun _ => none) ((0 : Int32)).toNatClampNeg (some (a5 0))) ((1 : Int32)).toNatClampNeg (some (a7 0))) ((2 : Int32)).toNatClampNeg (some (a9 0))) ((3 : Int32)).toNatClampNeg (some (a11 0))))))))] ++ (offW g a3 off0 ++ (offW g a5 off0 ++ (offW g a7 off0 ++ (offW g a9 off0 ++ (offW g a11 off0)))))) [] rfl [.ref q12, .int (4 : Int32), .ref q1] rfl rfl rfl ⟨Nat.le_of_ble_eq_true rfl, Nat.le_of_ble_eq_true rfl⟩ (Nat.le_of_ble_eq_true rfl) ⟨Nat.le_of_ble_eq_true rfl, Nat.le_of_ble_eq_true rfl⟩ ?_
  rintro r w1 ⟨a13, rfl, rfl, rfl⟩
  refine g_ws (ws2 := [(q, .inr (6, [.ref q1, .ref (a3 0), .int 0, .int 0, .int 0])), (q1, .inl (g.2.1 3, 8, .inr (.inr (.inr (.inr (va_up (va_up (va_up (va_up (fun _ => none) ((0 : Int32)).toNatClampNeg (some (a5 0))) ((1 : Int32)).toNatClampNeg (some (a7 0))) ((2 : Int32)).toNatClampNeg (some (a9 0))) ((3 : Int32)).toNatClampNeg (some (a11 0))))))))] ++ (offW g a3 off0 ++ (offW g a5 off0 ++ (offW g a7 off0 ++ (offW g a9 off0 ++ (offW g a11 off0 ++ (offW g a13 off0))))))) rfl ?_
  refine g_astq (ws2 := [(q, .inr (6, [.ref q1, .ref (a3 0), .int 0, .int 0, .int 0])), (q1, .inl (g.2.1 3, 8, .inr (.inr (.inr (.inr (va_up (va_up (va_up (va_up (va_up (fun _ => none) ((0 : Int32)).toNatClampNeg (some (a5 0))) ((1 : Int32)).toNatClampNeg (some (a7 0))) ((2 : Int32)).toNatClampNeg (some (a9 0))) ((3 : Int32)).toNatClampNeg (some (a11 0))) ((4 : Int32)).toNatClampNeg (some (a13 0))))))))] ++ (offW g a3 off0 ++ (offW g a5 off0 ++ (offW g a7 off0 ++ (offW g a9 off0 ++ (offW g a11 off0 ++ (offW g a13 off0))))))) hC dX2_init_44 45 rfl 1 62 rfl rfl (vp_in_d (by decide +kernel)) rfl ?_
  refine g_iinc (v2 := (5 : Int32)) (lv2 := [(1, .int (5 : Int32)), (0, .ref q)]) hC dX2_init_45 48 rfl 0 rfl (by decide) (by decide) rfl ?_
  refine g_goto hC dX2_init_48 26 (by decide) ?_
  refine g_iload_n hC dX2_init_26 27 rfl rfl 0 rfl ?_
  refine g_bipush hC (8 : Int32) dX2_init_27 29 rfl bipush_8 ?_
  refine g_icmp_ge hC dX2_init_29 51 (by decide) 32 rfl (fun c => absurd c (by decide)) (fun _ => ?_)
  refine g_aload_n hC dX2_init_32 33 rfl rfl 1 rfl ?_
  refine g_get hC fl_X2_11 dX2_init_33 36 rfl 0 rfl rfl ?_
  refine g_iload_n hC dX2_init_36 37 rfl rfl 0 rfl ?_
  refine g_new hC (C := RX3) (ci := 7) (T := TX3) (N := 16) rfl tyX3 tyX3_ok uw_X3 (lw_inT 139 (by decide +kernel) rfl) (lw_inT 46 (by decide +kernel) rfl) (lw_inT 3 (by decide +kernel) rfl) (fs := [.int 0, .int 0, .int 0, .int 0, .int 0, .null, .null, .null, .null, .null, .null, .null, .null, .null, .null, .null]) (by decide +kernel) ⟨Nat.le_of_ble_eq_true rfl, Nat.le_of_ble_eq_true rfl⟩ dX2_init_37 40 rfl (fun q14 => ?_)
  refine g_ws (ws2 := [(q, .inr (6, [.ref q1, .ref (a3 0), .int 0, .int 0, .int 0])), (q1, .inl (g.2.1 3, 8, .inr (.inr (.inr (.inr (va_up (va_up (va_up (va_up (va_up (fun _ => none) ((0 : Int32)).toNatClampNeg (some (a5 0))) ((1 : Int32)).toNatClampNeg (some (a7 0))) ((2 : Int32)).toNatClampNeg (some (a9 0))) ((3 : Int32)).toNatClampNeg (some (a11 0))) ((4 : Int32)).toNatClampNeg (some (a13 0))))))))] ++ (offW g a3 off0 ++ (offW g a5 off0 ++ (offW g a7 off0 ++ (offW g a9 off0 ++ (offW g a11 off0 ++ (offW g a13 off0 ++ ([(q14, .inr (7, [.int 0, .int 0, .int 0, .int 0, .int 0, .null, .null, .null, .null, .null, .null, .null, .null, .null, .null, .null]))])))))))) rfl ?_
  refine g_dup hC dX2_init_40 41 rfl rfl ?_
  refine g_callI hC (ct_X3_init l g q14) gY_X3_init dX2_init_41 44 rfl ml_X2_17 ([(q, .inr (6, [.ref q1, .ref (a3 0), .int 0, .int 0, .int 0])), (q1, .inl (g.2.1 3, 8, .inr (.inr (.inr (.inr (va_up (va_up (va_up (va_up (va_up (fun _ => none) ((0 : Int32)).toNatClampNeg (some (a5 0))) ((1 : Int32)).toNatClampNeg (some (a7 0))) ((2 : Int32)).toNatClampNeg (some (a9 0))) ((3 : Int32)).toNatClampNeg (some (a11 0))) ((4 : Int32)).toNatClampNeg (some (a13 0))))))))] ++ (offW g a3 off0 ++ (offW g a5 off0 ++ (offW g a7 off0 ++ (offW g a9 off0 ++ (offW g a11 off0 ++ (offW g a13 off0))))))) [] rfl [.ref q14, .int (5 : Int32), .ref q1] rfl rfl rfl ⟨Nat.le_of_ble_eq_true rfl, Nat.le_of_ble_eq_true rfl⟩ (Nat.le_of_ble_eq_true rfl) ⟨Nat.le_of_ble_eq_true rfl, Nat.le_of_ble_eq_true rfl⟩ ?_
  rintro r w1 ⟨a15, rfl, rfl, rfl⟩
  refine g_ws (ws2 := [(q, .inr (6, [.ref q1, .ref (a3 0), .int 0, .int 0, .int 0])), (q1, .inl (g.2.1 3, 8, .inr (.inr (.inr (.inr (va_up (va_up (va_up (va_up (va_up (fun _ => none) ((0 : Int32)).toNatClampNeg (some (a5 0))) ((1 : Int32)).toNatClampNeg (some (a7 0))) ((2 : Int32)).toNatClampNeg (some (a9 0))) ((3 : Int32)).toNatClampNeg (some (a11 0))) ((4 : Int32)).toNatClampNeg (some (a13 0))))))))] ++ (offW g a3 off0 ++ (offW g a5 off0 ++ (offW g a7 off0 ++ (offW g a9 off0 ++ (offW g a11 off0 ++ (offW g a13 off0 ++ (offW g a15 off0)))))))) rfl ?_
  refine g_astq (ws2 := [(q, .inr (6, [.ref q1, .ref (a3 0), .int 0, .int 0, .int 0])), (q1, .inl (g.2.1 3, 8, .inr (.inr (.inr (.inr (va_up (va_up (va_up (va_up (va_up (va_up (fun _ => none) ((0 : Int32)).toNatClampNeg (some (a5 0))) ((1 : Int32)).toNatClampNeg (some (a7 0))) ((2 : Int32)).toNatClampNeg (some (a9 0))) ((3 : Int32)).toNatClampNeg (some (a11 0))) ((4 : Int32)).toNatClampNeg (some (a13 0))) ((5 : Int32)).toNatClampNeg (some (a15 0))))))))] ++ (offW g a3 off0 ++ (offW g a5 off0 ++ (offW g a7 off0 ++ (offW g a9 off0 ++ (offW g a11 off0 ++ (offW g a13 off0 ++ (offW g a15 off0)))))))) hC dX2_init_44 45 rfl 1 74 rfl rfl (vp_in_d (by decide +kernel)) rfl ?_
  refine g_iinc (v2 := (6 : Int32)) (lv2 := [(1, .int (6 : Int32)), (0, .ref q)]) hC dX2_init_45 48 rfl 0 rfl (by decide) (by decide) rfl ?_
  refine g_goto hC dX2_init_48 26 (by decide) ?_
  refine g_iload_n hC dX2_init_26 27 rfl rfl 0 rfl ?_
  refine g_bipush hC (8 : Int32) dX2_init_27 29 rfl bipush_8 ?_
  refine g_icmp_ge hC dX2_init_29 51 (by decide) 32 rfl (fun c => absurd c (by decide)) (fun _ => ?_)
  refine g_aload_n hC dX2_init_32 33 rfl rfl 1 rfl ?_
  refine g_get hC fl_X2_11 dX2_init_33 36 rfl 0 rfl rfl ?_
  refine g_iload_n hC dX2_init_36 37 rfl rfl 0 rfl ?_
  refine g_new hC (C := RX3) (ci := 7) (T := TX3) (N := 16) rfl tyX3 tyX3_ok uw_X3 (lw_inT 139 (by decide +kernel) rfl) (lw_inT 46 (by decide +kernel) rfl) (lw_inT 3 (by decide +kernel) rfl) (fs := [.int 0, .int 0, .int 0, .int 0, .int 0, .null, .null, .null, .null, .null, .null, .null, .null, .null, .null, .null]) (by decide +kernel) ⟨Nat.le_of_ble_eq_true rfl, Nat.le_of_ble_eq_true rfl⟩ dX2_init_37 40 rfl (fun q16 => ?_)
  refine g_ws (ws2 := [(q, .inr (6, [.ref q1, .ref (a3 0), .int 0, .int 0, .int 0])), (q1, .inl (g.2.1 3, 8, .inr (.inr (.inr (.inr (va_up (va_up (va_up (va_up (va_up (va_up (fun _ => none) ((0 : Int32)).toNatClampNeg (some (a5 0))) ((1 : Int32)).toNatClampNeg (some (a7 0))) ((2 : Int32)).toNatClampNeg (some (a9 0))) ((3 : Int32)).toNatClampNeg (some (a11 0))) ((4 : Int32)).toNatClampNeg (some (a13 0))) ((5 : Int32)).toNatClampNeg (some (a15 0))))))))] ++ (offW g a3 off0 ++ (offW g a5 off0 ++ (offW g a7 off0 ++ (offW g a9 off0 ++ (offW g a11 off0 ++ (offW g a13 off0 ++ (offW g a15 off0 ++ ([(q16, .inr (7, [.int 0, .int 0, .int 0, .int 0, .int 0, .null, .null, .null, .null, .null, .null, .null, .null, .null, .null, .null]))]))))))))) rfl ?_
  refine g_dup hC dX2_init_40 41 rfl rfl ?_
  refine g_callI hC (ct_X3_init l g q16) gY_X3_init dX2_init_41 44 rfl ml_X2_17 ([(q, .inr (6, [.ref q1, .ref (a3 0), .int 0, .int 0, .int 0])), (q1, .inl (g.2.1 3, 8, .inr (.inr (.inr (.inr (va_up (va_up (va_up (va_up (va_up (va_up (fun _ => none) ((0 : Int32)).toNatClampNeg (some (a5 0))) ((1 : Int32)).toNatClampNeg (some (a7 0))) ((2 : Int32)).toNatClampNeg (some (a9 0))) ((3 : Int32)).toNatClampNeg (some (a11 0))) ((4 : Int32)).toNatClampNeg (some (a13 0))) ((5 : Int32)).toNatClampNeg (some (a15 0))))))))] ++ (offW g a3 off0 ++ (offW g a5 off0 ++ (offW g a7 off0 ++ (offW g a9 off0 ++ (offW g a11 off0 ++ (offW g a13 off0 ++ (offW g a15 off0)))))))) [] rfl [.ref q16, .int (6 : Int32), .ref q1] rfl rfl rfl ⟨Nat.le_of_ble_eq_true rfl, Nat.le_of_ble_eq_true rfl⟩ (Nat.le_of_ble_eq_true rfl) ⟨Nat.le_of_ble_eq_true rfl, Nat.le_of_ble_eq_true rfl⟩ ?_
  rintro r w1 ⟨a17, rfl, rfl, rfl⟩
  refine g_ws (ws2 := [(q, .inr (6, [.ref q1, .ref (a3 0), .int 0, .int 0, .int 0])), (q1, .inl (g.2.1 3, 8, .inr (.inr (.inr (.inr (va_up (va_up (va_up (va_up (va_up (va_up (fun _ => none) ((0 : Int32)).toNatClampNeg (some (a5 0))) ((1 : Int32)).toNatClampNeg (some (a7 0))) ((2 : Int32)).toNatClampNeg (some (a9 0))) ((3 : Int32)).toNatClampNeg (some (a11 0))) ((4 : Int32)).toNatClampNeg (some (a13 0))) ((5 : Int32)).toNatClampNeg (some (a15 0))))))))] ++ (offW g a3 off0 ++ (offW g a5 off0 ++ (offW g a7 off0 ++ (offW g a9 off0 ++ (offW g a11 off0 ++ (offW g a13 off0 ++ (offW g a15 off0 ++ (offW g a17 off0))))))))) rfl ?_
  refine g_astq (ws2 := [(q, .inr (6, [.ref q1, .ref (a3 0), .int 0, .int 0, .int 0])), (q1, .inl (g.2.1 3, 8, .inr (.inr (.inr (.inr (va_up (va_up (va_up (va_up (va_up (va_up (va_up (fun _ => none) ((0 : Int32)).toNatClampNeg (some (a5 0))) ((1 : Int32)).toNatClampNeg (some (a7 0))) ((2 : Int32)).toNatClampNeg (some (a9 0))) ((3 : Int32)).toNatClampNeg (some (a11 0))) ((4 : Int32)).toNatClampNeg (some (a13 0))) ((5 : Int32)).toNatClampNeg (some (a15 0))) ((6 : Int32)).toNatClampNeg (some (a17 0))))))))] ++ (offW g a3 off0 ++ (offW g a5 off0 ++ (offW g a7 off0 ++ (offW g a9 off0 ++ (offW g a11 off0 ++ (offW g a13 off0 ++ (offW g a15 off0 ++ (offW g a17 off0))))))))) hC dX2_init_44 45 rfl 1 86 rfl rfl (vp_in_d (by decide +kernel)) rfl ?_
  refine g_iinc (v2 := (7 : Int32)) (lv2 := [(1, .int (7 : Int32)), (0, .ref q)]) hC dX2_init_45 48 rfl 0 rfl (by decide) (by decide) rfl ?_
  refine g_goto hC dX2_init_48 26 (by decide) ?_
  refine g_iload_n hC dX2_init_26 27 rfl rfl 0 rfl ?_
  refine g_bipush hC (8 : Int32) dX2_init_27 29 rfl bipush_8 ?_
  refine g_icmp_ge hC dX2_init_29 51 (by decide) 32 rfl (fun c => absurd c (by decide)) (fun _ => ?_)
  refine g_aload_n hC dX2_init_32 33 rfl rfl 1 rfl ?_
  refine g_get hC fl_X2_11 dX2_init_33 36 rfl 0 rfl rfl ?_
  refine g_iload_n hC dX2_init_36 37 rfl rfl 0 rfl ?_
  refine g_new hC (C := RX3) (ci := 7) (T := TX3) (N := 16) rfl tyX3 tyX3_ok uw_X3 (lw_inT 139 (by decide +kernel) rfl) (lw_inT 46 (by decide +kernel) rfl) (lw_inT 3 (by decide +kernel) rfl) (fs := [.int 0, .int 0, .int 0, .int 0, .int 0, .null, .null, .null, .null, .null, .null, .null, .null, .null, .null, .null]) (by decide +kernel) ⟨Nat.le_of_ble_eq_true rfl, Nat.le_of_ble_eq_true rfl⟩ dX2_init_37 40 rfl (fun q18 => ?_)
  refine g_ws (ws2 := [(q, .inr (6, [.ref q1, .ref (a3 0), .int 0, .int 0, .int 0])), (q1, .inl (g.2.1 3, 8, .inr (.inr (.inr (.inr (va_up (va_up (va_up (va_up (va_up (va_up (va_up (fun _ => none) ((0 : Int32)).toNatClampNeg (some (a5 0))) ((1 : Int32)).toNatClampNeg (some (a7 0))) ((2 : Int32)).toNatClampNeg (some (a9 0))) ((3 : Int32)).toNatClampNeg (some (a11 0))) ((4 : Int32)).toNatClampNeg (some (a13 0))) ((5 : Int32)).toNatClampNeg (some (a15 0))) ((6 : Int32)).toNatClampNeg (some (a17 0))))))))] ++ (offW g a3 off0 ++ (offW g a5 off0 ++ (offW g a7 off0 ++ (offW g a9 off0 ++ (offW g a11 off0 ++ (offW g a13 off0 ++ (offW g a15 off0 ++ (offW g a17 off0 ++ ([(q18, .inr (7, [.int 0, .int 0, .int 0, .int 0, .int 0, .null, .null, .null, .null, .null, .null, .null, .null, .null, .null, .null]))])))))))))) rfl ?_
  refine g_dup hC dX2_init_40 41 rfl rfl ?_
  refine g_callI hC (ct_X3_init l g q18) gY_X3_init dX2_init_41 44 rfl ml_X2_17 ([(q, .inr (6, [.ref q1, .ref (a3 0), .int 0, .int 0, .int 0])), (q1, .inl (g.2.1 3, 8, .inr (.inr (.inr (.inr (va_up (va_up (va_up (va_up (va_up (va_up (va_up (fun _ => none) ((0 : Int32)).toNatClampNeg (some (a5 0))) ((1 : Int32)).toNatClampNeg (some (a7 0))) ((2 : Int32)).toNatClampNeg (some (a9 0))) ((3 : Int32)).toNatClampNeg (some (a11 0))) ((4 : Int32)).toNatClampNeg (some (a13 0))) ((5 : Int32)).toNatClampNeg (some (a15 0))) ((6 : Int32)).toNatClampNeg (some (a17 0))))))))] ++ (offW g a3 off0 ++ (offW g a5 off0 ++ (offW g a7 off0 ++ (offW g a9 off0 ++ (offW g a11 off0 ++ (offW g a13 off0 ++ (offW g a15 off0 ++ (offW g a17 off0))))))))) [] rfl [.ref q18, .int (7 : Int32), .ref q1] rfl rfl rfl ⟨Nat.le_of_ble_eq_true rfl, Nat.le_of_ble_eq_true rfl⟩ (Nat.le_of_ble_eq_true rfl) ⟨Nat.le_of_ble_eq_true rfl, Nat.le_of_ble_eq_true rfl⟩ ?_
  rintro r w1 ⟨a19, rfl, rfl, rfl⟩
  refine g_ws (ws2 := [(q, .inr (6, [.ref q1, .ref (a3 0), .int 0, .int 0, .int 0])), (q1, .inl (g.2.1 3, 8, .inr (.inr (.inr (.inr (va_up (va_up (va_up (va_up (va_up (va_up (va_up (fun _ => none) ((0 : Int32)).toNatClampNeg (some (a5 0))) ((1 : Int32)).toNatClampNeg (some (a7 0))) ((2 : Int32)).toNatClampNeg (some (a9 0))) ((3 : Int32)).toNatClampNeg (some (a11 0))) ((4 : Int32)).toNatClampNeg (some (a13 0))) ((5 : Int32)).toNatClampNeg (some (a15 0))) ((6 : Int32)).toNatClampNeg (some (a17 0))))))))] ++ (offW g a3 off0 ++ (offW g a5 off0 ++ (offW g a7 off0 ++ (offW g a9 off0 ++ (offW g a11 off0 ++ (offW g a13 off0 ++ (offW g a15 off0 ++ (offW g a17 off0 ++ (offW g a19 off0)))))))))) rfl ?_
  refine g_astq (ws2 := [(q, .inr (6, [.ref q1, .ref (a3 0), .int 0, .int 0, .int 0])), (q1, .inl (g.2.1 3, 8, .inr (.inr (.inr (.inr (va_up (va_up (va_up (va_up (va_up (va_up (va_up (va_up (fun _ => none) ((0 : Int32)).toNatClampNeg (some (a5 0))) ((1 : Int32)).toNatClampNeg (some (a7 0))) ((2 : Int32)).toNatClampNeg (some (a9 0))) ((3 : Int32)).toNatClampNeg (some (a11 0))) ((4 : Int32)).toNatClampNeg (some (a13 0))) ((5 : Int32)).toNatClampNeg (some (a15 0))) ((6 : Int32)).toNatClampNeg (some (a17 0))) ((7 : Int32)).toNatClampNeg (some (a19 0))))))))] ++ (offW g a3 off0 ++ (offW g a5 off0 ++ (offW g a7 off0 ++ (offW g a9 off0 ++ (offW g a11 off0 ++ (offW g a13 off0 ++ (offW g a15 off0 ++ (offW g a17 off0 ++ (offW g a19 off0)))))))))) hC dX2_init_44 45 rfl 1 98 rfl rfl (vp_in_d (by decide +kernel)) rfl ?_
  refine g_iinc (v2 := (8 : Int32)) (lv2 := [(1, .int (8 : Int32)), (0, .ref q)]) hC dX2_init_45 48 rfl 0 rfl (by decide) (by decide) rfl ?_
  refine g_goto hC dX2_init_48 26 (by decide) ?_
  refine g_iload_n hC dX2_init_26 27 rfl rfl 0 rfl ?_
  refine g_bipush hC (8 : Int32) dX2_init_27 29 rfl bipush_8 ?_
  refine g_icmp_ge hC dX2_init_29 51 (by decide) 32 rfl (fun _ => ?_) (fun c => absurd (by decide) c)
  refine g_alt (ws2 := (q, .inr (6, [.ref q1, .ref (a3 0), .int 0, .int 0, .int 0])) :: (q1, .inl (g.2.1 3, 8, .inr (.inr (.inr (.inr (fun i => some ((fun i => [a5, a7, a9, a11, a13, a15, a17, a19, a3].getD i (fun _ => 0)) i 0))))))) :: (offW g a3 off0 ++ (offW g a5 off0 ++ (offW g a7 off0 ++ (offW g a9 off0 ++ (offW g a11 off0 ++ (offW g a13 off0 ++ (offW g a15 off0 ++ (offW g a17 off0 ++ (offW g a19 off0)))))))))) (fun H hP => va_P_row (fun j hj => ?_) hP) rfl ?_
  · rcases (show j = 0 ∨ j = 1 ∨ j = 2 ∨ j = 3 ∨ j = 4 ∨ j = 5 ∨ j = 6 ∨ j = 7 by omega) with rfl | rfl | rfl | rfl | rfl | rfl | rfl | rfl <;> rfl
  have p1 : ((q, .inr (6, [.ref q1, .ref (a3 0), .int 0, .int 0, .int 0])) :: (q1, .inl (g.2.1 3, 8, .inr (.inr (.inr (.inr (fun i => some ((fun i => [a5, a7, a9, a11, a13, a15, a17, a19, a3].getD i (fun _ => 0)) i 0))))))) :: (offW g a3 off0 ++ (offW g a5 off0 ++ (offW g a7 off0 ++ (offW g a9 off0 ++ (offW g a11 off0 ++ (offW g a13 off0 ++ (offW g a15 off0 ++ (offW g a17 off0 ++ (offW g a19 off0)))))))))).Perm ((q, .inr (6, [.ref q1, .ref (a3 0), .int 0, .int 0, .int 0])) :: (q1, .inl (g.2.1 3, 8, .inr (.inr (.inr (.inr (fun i => some ((fun i => [a5, a7, a9, a11, a13, a15, a17, a19, a3].getD i (fun _ => 0)) i 0))))))) :: (offW g a5 off0 ++ (offW g a7 off0 ++ (offW g a9 off0 ++ (offW g a11 off0 ++ (offW g a13 off0 ++ (offW g a15 off0 ++ (offW g a17 off0 ++ (offW g a19 off0 ++ (offW g a3 off0 ++ ([]))))))))))) := List.Perm.cons _ (List.Perm.cons _ (by
    have h9 := (mvF [offW g a5 off0, offW g a7 off0, offW g a9 off0, offW g a11 off0, offW g a13 off0, offW g a15 off0, offW g a17 off0, offW g a19 off0] (offW g a3 off0) []).symm
    have e9 : offW g a3 off0 ++ List.foldr (fun a b => a ++ b) [] [offW g a5 off0, offW g a7 off0, offW g a9 off0, offW g a11 off0, offW g a13 off0, offW g a15 off0, offW g a17 off0, offW g a19 off0] = offW g a3 off0 ++ (offW g a5 off0 ++ (offW g a7 off0 ++ (offW g a9 off0 ++ (offW g a11 off0 ++ (offW g a13 off0 ++ (offW g a15 off0 ++ (offW g a17 off0 ++ (offW g a19 off0)))))))) := by rfl
    rw [e9] at h9
    exact h9))
  refine g_perm p1 ?_
  exact g_vret hC hZ dX2_init_51 ⟨(fun i => [q, q1].getD i 0), (fun i => [a5, a7, a9, a11, a13, a15, a17, a19, a3].getD i (fun _ => 0)), rfl, rfl, rfl⟩
theorem nw_X0 {U : State} (h : gNw U) : va_Nw (.methodLinkNest RX4 9 yX0_init RX4) U := h.1 _ (by simp [gNwL])
theorem nw_X1 {U : State} (h : gNw U) : va_Nw (.methodLinkNest RX4 36 yX1_init RX4) U := h.1 _ (by simp [gNwL])
set_option maxRecDepth 100000 in
set_option maxHeartbeats 4000000 in
theorem ct_X4_init (l : Launch) (g : gE) (q : Nat) : FnN l g yX4_init cX4_init 1 none 3 62 141 1975 [(q, .inr (8, [.null, .null, .null, .null, .null, .null, .int 0, .int 0, .int 0, .int 0]))] [.ref q] (fun r w => ∃ A : Nat → Nat → Nat, A 0 0 = q ∧ r = none ∧ w = embW g A emb0) := by
  refine FnN.of (by decide) (Nat.le_of_ble_eq_true rfl) (fun x hC hZ hNw hin => ?_)
  show G x g 1 0 0 [(q, .inr (8, [.null, .null, .null, .null, .null, .null, .int 0, .int 0, .int 0, .int 0]))] 0 [(0, .ref q)] []
  refine g_aload_n hC dX4_init_0 1 rfl rfl 0 rfl ?_
  refine g_oinit hC (lw_inT 36 (by decide +kernel) rfl) oi_w1 oi_w2 dX4_init_1 4 rfl ⟨Nat.le_of_ble_eq_true rfl, Nat.le_of_ble_eq_true rfl⟩ (Nat.le_of_ble_eq_true rfl) ?_
  refine g_aload_n hC dX4_init_4 5 rfl rfl 0 rfl ?_
  refine g_new hC (C := RX0) (ci := 4) (T := TX0) (N := 2) rfl tyX0 tyX0_ok uw_X0 (lw_inT 39 (by decide +kernel) rfl) (lw_inT 40 (by decide +kernel) rfl) (lw_inT 2 (by decide +kernel) rfl) (fs := [.null, .int 0]) (by decide +kernel) ⟨Nat.le_of_ble_eq_true rfl, Nat.le_of_ble_eq_true rfl⟩ dX4_init_5 8 rfl (fun q1 => ?_)
  refine g_ws (ws2 := [(q, .inr (8, [.null, .null, .null, .null, .null, .null, .int 0, .int 0, .int 0, .int 0])), (q1, .inr (4, [.null, .int 0]))]) rfl ?_
  refine g_dup hC dX4_init_8 9 rfl rfl ?_
  refine g_callIN hC (ct_X0_init l g q1) gY_X0_init dX4_init_9 12 rfl (nw_X0 hNw) ([(q, .inr (8, [.null, .null, .null, .null, .null, .null, .int 0, .int 0, .int 0, .int 0]))]) [] rfl [.ref q1, .ref q] rfl rfl rfl ⟨Nat.le_of_ble_eq_true rfl, Nat.le_of_ble_eq_true rfl⟩ (Nat.le_of_ble_eq_true rfl) ⟨Nat.le_of_ble_eq_true rfl, Nat.le_of_ble_eq_true rfl⟩ ?_
  rintro r w1 ⟨a2, rfl, rfl⟩
  refine g_ws (ws2 := [(q, .inr (8, [.null, .null, .null, .null, .null, .null, .int 0, .int 0, .int 0, .int 0]))] ++ (chkW g q1 a2 off0)) rfl ?_
  refine g_putF (ws2 := [(q, .inr (8, [.ref q1, .null, .null, .null, .null, .null, .int 0, .int 0, .int 0, .int 0]))] ++ (chkW g q1 a2 off0)) hC hin ff_X4_10 dX4_init_12 15 rfl 0 rfl rfl rfl (Nat.le_of_ble_eq_true rfl) rfl ?_
  refine g_aload_n hC dX4_init_15 16 rfl rfl 0 rfl ?_
  refine g_aload_n hC dX4_init_16 17 rfl rfl 0 rfl ?_
  refine g_get hC fl_X4_10 dX4_init_17 20 rfl 0 rfl rfl ?_
  refine g_get hC fl_X4_16 dX4_init_20 23 rfl 1 rfl rfl ?_
  refine g_putF (ws2 := [(q, .inr (8, [.ref q1, .ref (a2 0), .null, .null, .null, .null, .int 0, .int 0, .int 0, .int 0]))] ++ (chkW g q1 a2 off0)) hC hin ff_X4_20 dX4_init_23 26 rfl 0 rfl rfl rfl (Nat.le_of_ble_eq_true rfl) rfl ?_
  refine g_aload_n hC dX4_init_26 27 rfl rfl 0 rfl ?_
  refine g_new hC (C := RX3) (ci := 7) (T := TX3) (N := 16) rfl tyX3 tyX3_ok uw_X3 (lw_inT 131 (by decide +kernel) rfl) (lw_inT 46 (by decide +kernel) rfl) (lw_inT 3 (by decide +kernel) rfl) (fs := [.int 0, .int 0, .int 0, .int 0, .int 0, .null, .null, .null, .null, .null, .null, .null, .null, .null, .null, .null]) (by decide +kernel) ⟨Nat.le_of_ble_eq_true rfl, Nat.le_of_ble_eq_true rfl⟩ dX4_init_27 30 rfl (fun q3 => ?_)
  refine g_ws (ws2 := [(q, .inr (8, [.ref q1, .ref (a2 0), .null, .null, .null, .null, .int 0, .int 0, .int 0, .int 0]))] ++ (chkW g q1 a2 off0 ++ ([(q3, .inr (7, [.int 0, .int 0, .int 0, .int 0, .int 0, .null, .null, .null, .null, .null, .null, .null, .null, .null, .null, .null]))]))) rfl ?_
  refine g_dup hC dX4_init_30 31 rfl rfl ?_
  refine g_callI hC (ct_X3_init l g q3) gY_X3_init dX4_init_31 34 rfl ml_X4_23 ([(q, .inr (8, [.ref q1, .ref (a2 0), .null, .null, .null, .null, .int 0, .int 0, .int 0, .int 0]))] ++ (chkW g q1 a2 off0)) [] rfl [.ref q3, .ref q] rfl rfl rfl ⟨Nat.le_of_ble_eq_true rfl, Nat.le_of_ble_eq_true rfl⟩ (Nat.le_of_ble_eq_true rfl) ⟨Nat.le_of_ble_eq_true rfl, Nat.le_of_ble_eq_true rfl⟩ ?_
  rintro r w1 ⟨a4, rfl, rfl, rfl⟩
  refine g_ws (ws2 := [(q, .inr (8, [.ref q1, .ref (a2 0), .null, .null, .null, .null, .int 0, .int 0, .int 0, .int 0]))] ++ (chkW g q1 a2 off0 ++ (offW g a4 off0))) rfl ?_
  refine g_putF (ws2 := [(q, .inr (8, [.ref q1, .ref (a2 0), .ref (a4 0), .null, .null, .null, .int 0, .int 0, .int 0, .int 0]))] ++ (chkW g q1 a2 off0 ++ (offW g a4 off0))) hC hin ff_X4_24 dX4_init_34 37 rfl 0 rfl rfl rfl (Nat.le_of_ble_eq_true rfl) rfl ?_
  refine g_aload_n hC dX4_init_37 38 rfl rfl 0 rfl ?_
  refine g_new hC (C := RX2) (ci := 6) (T := TX2) (N := 5) rfl tyX2 tyX2_ok uw_X2 (lw_inT 133 (by decide +kernel) rfl) (lw_inT 134 (by decide +kernel) rfl) (lw_inT 4 (by decide +kernel) rfl) (fs := [.null, .null, .int 0, .int 0, .int 0]) (by decide +kernel) ⟨Nat.le_of_ble_eq_true rfl, Nat.le_of_ble_eq_true rfl⟩ dX4_init_38 41 rfl (fun q5 => ?_)
  refine g_ws (ws2 := [(q, .inr (8, [.ref q1, .ref (a2 0), .ref (a4 0), .null, .null, .null, .int 0, .int 0, .int 0, .int 0]))] ++ (chkW g q1 a2 off0 ++ (offW g a4 off0 ++ ([(q5, .inr (6, [.null, .null, .int 0, .int 0, .int 0]))])))) rfl ?_
  refine g_dup hC dX4_init_41 42 rfl rfl ?_
  refine g_callIW hC hNw (ct_X2_init l g q5) gY_X2_init dX4_init_42 45 rfl ml_X4_29 ([(q, .inr (8, [.ref q1, .ref (a2 0), .ref (a4 0), .null, .null, .null, .int 0, .int 0, .int 0, .int 0]))] ++ (chkW g q1 a2 off0 ++ (offW g a4 off0))) [] rfl [.ref q5, .ref q] rfl rfl rfl ⟨Nat.le_of_ble_eq_true rfl, Nat.le_of_ble_eq_true rfl⟩ (Nat.le_of_ble_eq_true rfl) ⟨Nat.le_of_ble_eq_true rfl, Nat.le_of_ble_eq_true rfl⟩ ?_
  rintro r w1 ⟨a6, pa6, rfl, rfl, rfl⟩
  refine g_ws (ws2 := [(q, .inr (8, [.ref q1, .ref (a2 0), .ref (a4 0), .null, .null, .null, .int 0, .int 0, .int 0, .int 0]))] ++ (chkW g q1 a2 off0 ++ (offW g a4 off0 ++ (hisW g a6 pa6 emb0)))) rfl ?_
  refine g_putF (ws2 := [(q, .inr (8, [.ref q1, .ref (a2 0), .ref (a4 0), .ref (a6 0), .null, .null, .int 0, .int 0, .int 0, .int 0]))] ++ (chkW g q1 a2 off0 ++ (offW g a4 off0 ++ (hisW g a6 pa6 emb0)))) hC hin ff_X4_30 dX4_init_45 48 rfl 0 rfl rfl rfl (Nat.le_of_ble_eq_true rfl) rfl ?_
  refine g_aload_n hC dX4_init_48 49 rfl rfl 0 rfl ?_
  refine g_new hC (C := RX1) (ci := 5) (T := TX1) (N := 7) rfl tyX1 tyX1_ok uw_X1 (lw_inT 160 (by decide +kernel) rfl) (lw_inT 161 (by decide +kernel) rfl) (lw_inT 5 (by decide +kernel) rfl) (fs := [.null, .null, .null, .int 0, .int 0, .int 0, .int 0]) (by decide +kernel) ⟨Nat.le_of_ble_eq_true rfl, Nat.le_of_ble_eq_true rfl⟩ dX4_init_49 52 rfl (fun q7 => ?_)
  refine g_ws (ws2 := [(q, .inr (8, [.ref q1, .ref (a2 0), .ref (a4 0), .ref (a6 0), .null, .null, .int 0, .int 0, .int 0, .int 0]))] ++ (chkW g q1 a2 off0 ++ (offW g a4 off0 ++ (hisW g a6 pa6 emb0 ++ ([(q7, .inr (5, [.null, .null, .null, .int 0, .int 0, .int 0, .int 0]))]))))) rfl ?_
  refine g_dup hC dX4_init_52 53 rfl rfl ?_
  refine g_callIN hC (ct_X1_init l g q7) gY_X1_init dX4_init_53 56 rfl (nw_X1 hNw) ([(q, .inr (8, [.ref q1, .ref (a2 0), .ref (a4 0), .ref (a6 0), .null, .null, .int 0, .int 0, .int 0, .int 0]))] ++ (chkW g q1 a2 off0 ++ (offW g a4 off0 ++ (hisW g a6 pa6 emb0)))) [] rfl [.ref q7, .ref q] rfl rfl rfl ⟨Nat.le_of_ble_eq_true rfl, Nat.le_of_ble_eq_true rfl⟩ (Nat.le_of_ble_eq_true rfl) ⟨Nat.le_of_ble_eq_true rfl, Nat.le_of_ble_eq_true rfl⟩ ?_
  rintro r w1 ⟨a8, rfl, rfl, rfl⟩
  refine g_ws (ws2 := [(q, .inr (8, [.ref q1, .ref (a2 0), .ref (a4 0), .ref (a6 0), .null, .null, .int 0, .int 0, .int 0, .int 0]))] ++ (chkW g q1 a2 off0 ++ (offW g a4 off0 ++ (hisW g a6 pa6 emb0 ++ (cmdW g a8 (fun _ _ => 0)))))) rfl ?_
  refine g_putF (ws2 := [(q, .inr (8, [.ref q1, .ref (a2 0), .ref (a4 0), .ref (a6 0), .ref (a8 0), .null, .int 0, .int 0, .int 0, .int 0]))] ++ (chkW g q1 a2 off0 ++ (offW g a4 off0 ++ (hisW g a6 pa6 emb0 ++ (cmdW g a8 (fun _ _ => 0)))))) hC hin ff_X4_37 dX4_init_56 59 rfl 0 rfl rfl rfl (Nat.le_of_ble_eq_true rfl) rfl ?_
  refine g_aload_n hC dX4_init_59 60 rfl rfl 0 rfl ?_
  refine g_new hC (C := RJ4) (ci := 1) (T := TJ4) (N := 4) rfl tyJ4 tyJ4_ok uw_J4 (lw_inT 191 (by decide +kernel) rfl) (lw_inT 192 (by decide +kernel) rfl) (lw_inT 7 (by decide +kernel) rfl) (fs := [.null, .int 0, .int 0, .int 0]) (by decide +kernel) ⟨Nat.le_of_ble_eq_true rfl, Nat.le_of_ble_eq_true rfl⟩ dX4_init_60 63 rfl (fun q9 => ?_)
  refine g_ws (ws2 := [(q, .inr (8, [.ref q1, .ref (a2 0), .ref (a4 0), .ref (a6 0), .ref (a8 0), .null, .int 0, .int 0, .int 0, .int 0]))] ++ (chkW g q1 a2 off0 ++ (offW g a4 off0 ++ (hisW g a6 pa6 emb0 ++ (cmdW g a8 (fun _ _ => 0) ++ ([(q9, .inr (1, [.null, .int 0, .int 0, .int 0]))])))))) rfl ?_
  refine g_dup hC dX4_init_63 64 rfl rfl ?_
  refine g_callI hC (ct_J4_init_da8c8 l g q9) gY_J4_init_da8c8 dX4_init_64 67 rfl ml_X4_43 ([(q, .inr (8, [.ref q1, .ref (a2 0), .ref (a4 0), .ref (a6 0), .ref (a8 0), .null, .int 0, .int 0, .int 0, .int 0]))] ++ (chkW g q1 a2 off0 ++ (offW g a4 off0 ++ (hisW g a6 pa6 emb0 ++ (cmdW g a8 (fun _ _ => 0)))))) [] rfl [.ref q9, .ref q] rfl rfl rfl ⟨Nat.le_of_ble_eq_true rfl, Nat.le_of_ble_eq_true rfl⟩ (Nat.le_of_ble_eq_true rfl) ⟨Nat.le_of_ble_eq_true rfl, Nat.le_of_ble_eq_true rfl⟩ ?_
  rintro r w1 ⟨a10, rfl, rfl, rfl⟩
  refine g_ws (ws2 := [(q, .inr (8, [.ref q1, .ref (a2 0), .ref (a4 0), .ref (a6 0), .ref (a8 0), .null, .int 0, .int 0, .int 0, .int 0]))] ++ (chkW g q1 a2 off0 ++ (offW g a4 off0 ++ (hisW g a6 pa6 emb0 ++ (cmdW g a8 (fun _ _ => 0) ++ (sbW g a10 (fun _ _ => 0))))))) rfl ?_
  refine g_putF (ws2 := [(q, .inr (8, [.ref q1, .ref (a2 0), .ref (a4 0), .ref (a6 0), .ref (a8 0), .ref (a10 0), .int 0, .int 0, .int 0, .int 0]))] ++ (chkW g q1 a2 off0 ++ (offW g a4 off0 ++ (hisW g a6 pa6 emb0 ++ (cmdW g a8 (fun _ _ => 0) ++ (sbW g a10 (fun _ _ => 0))))))) hC hin ff_X4_44 dX4_init_67 70 rfl 0 rfl rfl rfl (Nat.le_of_ble_eq_true rfl) rfl ?_
  refine g_aload_n hC dX4_init_70 71 rfl rfl 0 rfl ?_
  refine g_iconst hC (0 : Int32) dX4_init_71 72 rfl iconst_0 ?_
  refine g_put (ws2 := [(q, .inr (8, [.ref q1, .ref (a2 0), .ref (a4 0), .ref (a6 0), .ref (a8 0), .ref (a10 0), .int (0 : Int32), .int 0, .int 0, .int 0]))] ++ (chkW g q1 a2 off0 ++ (offW g a4 off0 ++ (hisW g a6 pa6 emb0 ++ (cmdW g a8 (fun _ _ => 0) ++ (sbW g a10 (fun _ _ => 0))))))) hC fp_X4_48 dX4_init_72 75 rfl 0 rfl rfl rfl (Nat.le_of_ble_eq_true rfl) rfl ?_
  refine g_aload_n hC dX4_init_75 76 rfl rfl 0 rfl ?_
  refine g_iconst hC (0 : Int32) dX4_init_76 77 rfl iconst_0 ?_
  refine g_put (ws2 := [(q, .inr (8, [.ref q1, .ref (a2 0), .ref (a4 0), .ref (a6 0), .ref (a8 0), .ref (a10 0), .int (0 : Int32), .int (0 : Int32), .int 0, .int 0]))] ++ (chkW g q1 a2 off0 ++ (offW g a4 off0 ++ (hisW g a6 pa6 emb0 ++ (cmdW g a8 (fun _ _ => 0) ++ (sbW g a10 (fun _ _ => 0))))))) hC fp_X4_52 dX4_init_77 80 rfl 0 rfl rfl rfl (Nat.le_of_ble_eq_true rfl) rfl ?_
  refine g_aload_n hC dX4_init_80 81 rfl rfl 0 rfl ?_
  refine g_iconst hC (0 : Int32) dX4_init_81 82 rfl iconst_0 ?_
  refine g_put (ws2 := [(q, .inr (8, [.ref q1, .ref (a2 0), .ref (a4 0), .ref (a6 0), .ref (a8 0), .ref (a10 0), .int (0 : Int32), .int (0 : Int32), .int (0 : Int32), .int 0]))] ++ (chkW g q1 a2 off0 ++ (offW g a4 off0 ++ (hisW g a6 pa6 emb0 ++ (cmdW g a8 (fun _ _ => 0) ++ (sbW g a10 (fun _ _ => 0))))))) hC fp_X4_55 dX4_init_82 85 rfl 0 rfl rfl rfl (Nat.le_of_ble_eq_true rfl) rfl ?_
  refine g_aload_n hC dX4_init_85 86 rfl rfl 0 rfl ?_
  refine g_iconst hC (-1 : Int32) dX4_init_86 87 rfl iconst_m1 ?_
  refine g_put (ws2 := [(q, .inr (8, [.ref q1, .ref (a2 0), .ref (a4 0), .ref (a6 0), .ref (a8 0), .ref (a10 0), .int (0 : Int32), .int (0 : Int32), .int (0 : Int32), .int (-1 : Int32)]))] ++ (chkW g q1 a2 off0 ++ (offW g a4 off0 ++ (hisW g a6 pa6 emb0 ++ (cmdW g a8 (fun _ _ => 0) ++ (sbW g a10 (fun _ _ => 0))))))) hC fp_X4_58 dX4_init_87 90 rfl 0 rfl rfl rfl (Nat.le_of_ble_eq_true rfl) rfl ?_
  have p1 : (([(q, .inr (8, [.ref q1, .ref (a2 0), .ref (a4 0), .ref (a6 0), .ref (a8 0), .ref (a10 0), .int (0 : Int32), .int (0 : Int32), .int (0 : Int32), .int (-1 : Int32)]))] ++ (chkW g q1 a2 off0 ++ (offW g a4 off0 ++ (hisW g a6 pa6 emb0 ++ (cmdW g a8 (fun _ _ => 0) ++ (sbW g a10 (fun _ _ => 0)))))) : va_W)).Perm (([(q, .inr (8, [.ref q1, .ref (a2 0), .ref (a4 0), .ref (a6 0), .ref (a8 0), .ref (a10 0), .int (0 : Int32), .int (0 : Int32), .int (0 : Int32), .int (-1 : Int32)]))] : va_W) ++ (cmdW g a8 (fun _ _ => 0) ++ (sbW g a10 (fun _ _ => 0) ++ (chkW g q1 a2 off0 ++ (hisW g a6 pa6 emb0 ++ (offW g a4 off0 ++ [])))))) := List.Perm.append_left _ (by
    have h1 := mvF [chkW g q1 a2 off0, offW g a4 off0, hisW g a6 pa6 emb0] (cmdW g a8 (fun _ _ => 0)) (sbW g a10 (fun _ _ => 0))
    have h2 := mvF [chkW g q1 a2 off0, offW g a4 off0, hisW g a6 pa6 emb0] (sbW g a10 (fun _ _ => 0)) []
    have h3 : (offW g a4 off0 ++ (hisW g a6 pa6 emb0 ++ [])).Perm (hisW g a6 pa6 emb0 ++ (offW g a4 off0 ++ [])) := List.perm_append_comm_assoc _ _ _
    have h4 : (chkW g q1 a2 off0 ++ (offW g a4 off0 ++ (hisW g a6 pa6 emb0 ++ (sbW g a10 (fun _ _ => 0) ++ [])))).Perm (sbW g a10 (fun _ _ => 0) ++ (chkW g q1 a2 off0 ++ (hisW g a6 pa6 emb0 ++ (offW g a4 off0 ++ [])))) := h2.trans (List.Perm.append_left _ (List.Perm.append_left _ h3))
    rw [List.append_nil] at h4
    exact h1.trans (List.Perm.append_left _ h4))
  refine g_perm p1 ?_
  obtain ⟨B, eB⟩ : ∃ B : Nat → Nat → Nat, B = (fun i => if i < 20 then [fun _ => q, fun _ => q1, a2, a4, a6, a8, a10].getD i (fun _ => 0) else pa6 (i - 20)) := ⟨_, rfl⟩
  have eP : (fun i => B (20 + i)) = pa6 := by
    funext i; rw [eB]; show (if 20 + i < 20 then _ else pa6 (20 + i - 20)) = _
    rw [if_neg (by omega), Nat.add_sub_cancel_left]
  have eW : ([(q, .inr (8, [.ref q1, .ref (a2 0), .ref (a4 0), .ref (a6 0), .ref (a8 0), .ref (a10 0), .int (0 : Int32), .int (0 : Int32), .int (0 : Int32), .int (-1 : Int32)]))] : va_W) ++ (cmdW g a8 (fun _ _ => 0) ++ (sbW g a10 (fun _ _ => 0) ++ (chkW g q1 a2 off0 ++ (hisW g a6 pa6 emb0 ++ (offW g a4 off0 ++ []))))) = embW g B emb0 := by
    unfold embW embT embH
    rw [eP, eB]
    rfl
  refine g_ws eW ?_
  exact g_vret hC hZ dX4_init_90 ⟨B, by rw [eB]; rfl, rfl, rfl⟩
