/-! ===== things that are made: rows, contracts of constructors ===== -/
section GNEW
variable {x : gX} {l : Launch} {cc : ByteArray} {nL : Nat} {own : String} {g : gE} {fr lo mc ms k n pc : Nat} {ws : va_W} {lv : List (Nat × Value)} {st : List Value}
theorem gArr (hC : gC x l cc nL own g fr lo mc ms) {j : Nat} {q : ClassId × FieldType} (hj : (gT g)[j]? = some q) {cA : ClassId} (h : va_RA (x_s x) cA q.2) : cA = q.1 := by
  have h2 := (hC.2.2.2.2.2.1.2 j q hj).2
  obtain ⟨c, t⟩ := q
  cases t with
  | object C =>
    obtain ⟨kA, comp, -, -, -, h4⟩ := h
    obtain ⟨kB, comp2, -, -, -, h5⟩ := h2
    exact Option.some.inj (h4.symm.trans h5)
  | _ => exact Option.some.inj (h.symm.trans h2)
theorem gLast {cl : List vw_C} {tys : List (ClassId × FieldType)} {D : va_G} {U : State} {q : ClassId × FieldType} (h : va_K D cl (tys ++ [q]) U) : va_RA U q.1 q.2 :=
  (h.2 tys.length q (by rw [List.getElem?_append_right (Nat.le_refl _), Nat.sub_self]; rfl)).2
/-- 'newarray' of the kind j of gT, its things at the start: a0 -/
theorem g_newa (hC : gC x l cc nL own g fr lo mc ms) (j : Nat) {atype : ArrayType} {cj : ClassId} {ty : FieldType} (hty : newarray.typeOf atype = ty) (hj : (gT g)[j]? = some (cj, ty)) (harr : Cond.arrayClass (newarray.typeOf atype) ∈ lw_all) {z : Int32} (N : Nat) {a0 : vp_A} (ha : ∀ cA : ClassId, vp_cell cA a0 = arrV cA N (fun _ => defaultValue ty)) (hn : ¬ z < 0) (hN : z.toNatClampNeg = N) (hb : N * componentBytes ty ≤ 536870912) (hkn : k + 1 ≤ mc ∧ n + N ≤ ms)
    (hd : decode cc pc = .ok (.newarray atype, 2)) (pc2 : Nat) (e : pc + 2 = pc2) (kk : ∀ q : Nat, G x g nL (k + 1) (n + N) (ws ++ [(q, .inl (cj, a0))]) pc2 lv (.ref q :: st)) : G x g nL k n ws pc lv (.int z :: st) := by
  subst e
  intro H locs ls hP hD hS h
  have hRm := hC.2.2.2.2.2.2.2.2.2.1
  refine va_newa hC.1 hC.2.1 (hC.2.2.2.2.1 _ harr) hty hC.2.2.2.2.2.1 hP hD hS hC.2.2.2.2.2.2.1 ha hn hN hb (by rw [hRm]; exact hkn.1) (by rw [hRm]; exact hkn.2) hd ?_
  intro q cA H1 hK1 hP1 hD1 hS1
  have e1 : cA = cj := gArr hC hj (gLast hK1)
  subst e1
  exact kk q H1 locs ls hP1 hD1 hS1 h
/-- 'anewarray' of offices -/
theorem g_newq (hC : gC x l cc nL own g fr lo mc ms) (hAO : va_AO "SockEmbassy$Office" (x_s x)) {index : Nat} (hcl : Cond.classLink own index "SockEmbassy$Office" ∈ lw_all) {z : Int32} (N : Nat) (hn : ¬ z < 0) (hN : z.toNatClampNeg = N) (hb : N * 4 ≤ 536870912) (hkn : k + 1 ≤ mc ∧ n + N ≤ ms)
    (hd : decode cc pc = .ok (.anewarray index, 3)) (pc2 : Nat) (e : pc + 3 = pc2) (kk : ∀ q : Nat, G x g nL (k + 1) (n + N) (ws ++ [(q, .inl (g.2.1 3, N, .inr (.inr (.inr (.inr (fun _ => none))))))]) pc2 lv (.ref q :: st)) : G x g nL k n ws pc lv (.int z :: st) := by
  subst e
  intro H locs ls hP hD hS h
  have hRm := hC.2.2.2.2.2.2.2.2.2.1
  refine va_newq hC.1 hC.2.1 hC.2.2.2.1 (hC.2.2.2.2.1 _ hcl) hAO hC.2.2.2.2.2.1 hP hD hS hC.2.2.2.2.2.2.1 hn hN hb (by rw [hRm]; exact hkn.1) (by rw [hRm]; exact hkn.2) hd ?_
  intro q cA H1 hK1 hP1 hD1 hS1
  have e1 : cA = g.2.1 3 := gArr hC (j := 3) (q := (g.2.1 3, .object "SockEmbassy$Office")) rfl (gLast hK1)
  subst e1
  exact kk q H1 locs ls hP1 hD1 hS1 h
theorem g_astq (hC : gC x l cc nL own g fr lo mc ms) {a N v : Nat} {f : Nat → Option Nat} {i : Int32} {vs : List Value} {ws2 : va_W} (hd : decode cc pc = .ok (.aastore, 1)) (pc2 : Nat) (e : pc + 1 = pc2) (q0 qk : Nat) (ha : ws[q0]? = some (a, .inl (g.2.1 3, N, .inr (.inr (.inr (.inr f)))))) (hv : ws[qk]? = some (v, .inr (7, vs))) (hin : vp_in i N) (hw : ws.set q0 (a, .inl (g.2.1 3, N, .inr (.inr (.inr (.inr (va_up f i.toNatClampNeg (some v))))))) = ws2) (kk : G x g nL k n ws2 pc2 lv st) : G x g nL k n ws pc lv (.ref v :: .int i :: .ref a :: st) := by
  subst e; subst hw
  intro H locs ls hP hD hS h
  exact va_astq hC.1 hC.2.1 hC.2.2.2.2.2.1 hP hD hS q0 3 qk 7 ha rfl hv rfl hin hd (fun H1 locs1 hP1 hD1 hS1 => kk H1 locs1 ls hP1 hD1 hS1 h)
/-- 'new' of a kind of ours -/
theorem g_new (hC : gC x l cc nL own g fr lo mc ms) {C : String} {T : u_T} {N ci index : Nat} (hc : vwCl[ci]? = some (C, T, N)) (ty : Nat → FieldType) (hty : ∀ k, k < N → parseFieldDescriptor (T k).2.2.1 = some (ty k)) (hin : ∀ w ∈ u_ws C T N, w ∈ lw_all) (hcl : Cond.classLink own index C ∈ lw_all) (hinst : Cond.instantiable C N ∈ lw_all) (hini : Cond.initialized C ∈ lw_all) {fs : List Value} (hfs : ∀ j, j < N → defaultValue (ty j) = vp_V fs j) (hkn : k + 1 ≤ mc ∧ n + N ≤ ms)
    (hd : decode cc pc = .ok (.new index, 3)) (pc2 : Nat) (e : pc + 3 = pc2) (kk : ∀ q : Nat, G x g nL (k + 1) (n + N) (ws ++ [(q, .inr (ci, fs))]) pc2 lv (.ref q :: st)) : G x g nL k n ws pc lv st := by
  subst e
  intro H locs ls hP hD hS h
  have hRm := hC.2.2.2.2.2.2.2.2.2.1
  exact va_new hC.1 hC.2.1 hC.2.2.2.2.1 hin ty hty hC.2.2.2.1 (hC.2.2.2.2.1 _ hcl) (hC.2.2.2.2.1 _ hinst) (hC.2.2.2.2.1 _ hini) hC.2.2.2.2.2.1 hP hD hS hC.2.2.2.2.2.2.1 hc hfs (by rw [hRm]; exact hkn.1) (by rw [hRm]; exact hkn.2) hd (fun q H1 hP1 hD1 hS1 => kk q H1 locs ls hP1 hD1 hS1 h)
/-- Object's constructor -/
theorem g_oinit (hC : gC x l cc nL own g fr lo mc ms) {a idx : Nat} (hl : Cond.methodLink own idx Lib.objectInit ∈ lw_all) (w1 : Cond.instanceMethod Lib.objectInit ∈ lw_all) (w2 : Cond.code Lib.objectInit ⟨#[0xb1]⟩ 1 none ∈ lw_all) (hd : decode cc pc = .ok (.invokespecial idx, 3)) (pc2 : Nat) (e : pc + 3 = pc2) (hR : 1 ≤ fr ∧ 20 ≤ lo) (hcat : (st.map fun v => v.category).sum ≤ 8) (kk : G x g nL k n ws pc2 lv st) : G x g nL k n ws pc lv (.ref a :: st) := by
  subst e
  intro H locs ls hP hD hS h
  have hRm := hC.2.2.2.2.2.2.2.2.2.1
  refine W.objInit hC.1 hC.2.1 hC.2.2.2.1 (hC.2.2.2.2.1 _ hl) (hC.2.2.2.2.1 _ w1) (hC.2.2.2.2.1 _ w2) (g := F0 (x_m x) pc ls (.ref a :: st)) rfl (h.1.trans hC.2.2.1.symm) rfl hd (by rw [hRm]; exact hR.1) ?_ (kk H locs ls hP hD hS h)
  rw [hRm]
  have h8 := hR.2
  show 2 * 0 + (st.map fun v => v.category).sum + 12 ≤ lo
  omega
/-- the same cells, said in other words -/
theorem g_alt {ws2 : va_W} (hP2 : ∀ H, va_P g.1 vwCl ws H → va_P g.1 vwCl ws2 H) (hA : ws2.map Prod.fst = ws.map Prod.fst) (kk : G x g nL k n ws2 pc lv st) : G x g nL k n ws pc lv st :=
  fun H locs ls hP hD hS h => kk H locs ls (hP2 H hP) (va_D_iff.mpr ⟨by rw [hA]; exact (va_D_iff.mp hD).1, fun q hq => by
    have h1 : q.1 ∈ ws.map Prod.fst := by rw [← hA]; exact List.mem_map_of_mem hq
    obtain ⟨z, hz, e⟩ := List.mem_map.mp h1
    rw [← e]
    exact (va_D_iff.mp hD).2 z hz⟩) hS h
theorem arrV_same {cI : ClassId} {N : Nat} {f f2 : Nat → Value} (h : ∀ j, j < N → f j = f2 j) : arrV cI N f = arrV cI N f2 := by
  unfold arrV
  congr 2
  funext j
  exact h j.val j.isLt
end GNEW
/-- a constructor's contract, or another's that wants the words that no contract carries -/
def FnN (l : Launch) (g : gE) (y : MethodName) (b : ByteArray) (n : Nat) (ret : Option FieldType) (fr lo mc ms : Nat) (wc : va_W) (As : List Value) (post : Option Value → va_W → Prop) : Prop :=
  ∀ sz : Nat, Met l y (.code y b n ret :: lw_all) ({ frames := fr, cells := mc, slots := ms, locals := lo } : Room) (va_Pc As (gPreX g wc sz)) (gEnd g wc sz post) mc ms (va_A wc sz)
theorem FnN.of {l : Launch} {g : gE} {y : MethodName} {b : ByteArray} {n : Nat} {ret : Option FieldType} {fr lo mc ms : Nat} {wc : va_W} {As : List Value} {post : Option Value → va_W → Prop} (hy : plainName y.cls = true) (hlen : (lg_sl As).length ≤ n)
    (body : ∀ x : gX, gC x l b n y.cls g fr lo mc ms → gZ x g ret wc post mc ms → gNw (x_s x) → (x_meth x).name = y.name → G x g n 0 0 wc 0 (lv_args 0 As) []) : FnN l g y b n ret fr lo mc ms wc As post := by
  intro sz
  refine Met.ofW (cc := b) (maxL := n) (ret := ret) hy rfl ?_
  intro p e s m args below meth c s₁ B hml hv
  obtain ⟨rfl, ⟨hsz, hP, hK, hD0, hKc⟩, hNw⟩ := hv
  subst hsz
  have hD := hD0.self (sz := s.heap.size)
  have hts := atoms_spec (ws := .code y b n ret :: lw_all) B.pre
  have hl := lv_entry As (n := n) hlen
  rw [lg_entry_eq]
  exact body (p, l, e, (headSpec (.code y b n ret :: lw_all) ({ frames := fr, cells := mc, slots := ms, locals := lo } : Room)).room, s, m, As.toArray, below, meth, c, va_A wc s.heap.size, MQ below (gEnd g wc s.heap.size post) As.toArray s mc ms (va_A wc s.heap.size))
    ⟨B.exec, B.bytes, hml, findClass_of_methodNamed B.named, fun w hw => hts w (List.mem_cons_of_mem _ hw), hK, fun q hq => Or.inr hq, B.notSynchronized, rfl, rfl, hKc⟩ ⟨B.returns, rfl, rfl⟩ hNw (name_of_methodNamed B.named B.method).1 s.heap [] _ hP hD va_S.rf hl
/-- .. a plain one, its name known -/
theorem Fn.ofI {l : Launch} {g : gE} {y : MethodName} {b : ByteArray} {n : Nat} {ret : Option FieldType} {fr lo mc ms : Nat} {wc : va_W} {As : List Value} {post : Option Value → va_W → Prop} (hy : plainName y.cls = true) (hlen : (lg_sl As).length ≤ n)
    (body : ∀ x : gX, gC x l b n y.cls g fr lo mc ms → gZ x g ret wc post mc ms → (x_meth x).name = y.name → G x g n 0 0 wc 0 (lv_args 0 As) []) : Fn l g y b n ret fr lo mc ms wc As post := by
  intro sz
  refine Met.ofW (cc := b) (maxL := n) (ret := ret) hy rfl ?_
  intro p e s m args below meth c s₁ B hml hv
  obtain ⟨rfl, hsz, hP, hK, hD0, hKc⟩ := hv
  subst hsz
  have hD := hD0.self (sz := s.heap.size)
  have hts := atoms_spec (ws := .code y b n ret :: lw_all) B.pre
  have hl := lv_entry As (n := n) hlen
  rw [lg_entry_eq]
  exact body (p, l, e, (headSpec (.code y b n ret :: lw_all) ({ frames := fr, cells := mc, slots := ms, locals := lo } : Room)).room, s, m, As.toArray, below, meth, c, va_A wc s.heap.size, MQ below (gEnd g wc s.heap.size post) As.toArray s mc ms (va_A wc s.heap.size))
    ⟨B.exec, B.bytes, hml, findClass_of_methodNamed B.named, fun w hw => hts w (List.mem_cons_of_mem _ hw), hK, fun q hq => Or.inr hq, B.notSynchronized, rfl, rfl, hKc⟩ ⟨B.returns, rfl, rfl⟩ (name_of_methodNamed B.named B.method).1 s.heap [] _ hP hD va_S.rf hl
section GNEW2
variable {x : gX} {l : Launch} {cc : ByteArray} {nL : Nat} {own : String} {g : gE} {fr lo mc ms k n pc : Nat} {ws : va_W} {lv : List (Nat × Value)} {st : List Value}
theorem g_callIW (hC : gC x l cc nL own g fr lo mc ms) (hNw : gNw (x_s x))
    {y : MethodName} {b : ByteArray} {nM fr' lo' mc' ms' np : Nat} {wc : va_W} {As As' : List Value} {post : Option Value → va_W → Prop} (hF : FnN l g y b nM none fr' lo' mc' ms' wc As' post) (hY : gYi y b nM np) {idx : Nat} (hd : decode cc pc = .ok (.invokespecial idx, 3)) (pc2 : Nat) (e : pc + 3 = pc2) (hl : Cond.methodLink own idx y ∈ lw_all)
    (pre suf : va_W) (hw : ws = pre ++ (wc ++ suf)) {a : Nat} (rest : List Value) (hAs : As' = .ref a :: As) (hst : st = As.reverse ++ .ref a :: rest) (hn : As.length = np)
    (hR : fr' + 1 ≤ fr ∧ 8 + (nM + 11) + lo' ≤ lo) (hcat : (rest.map fun v => v.category).sum ≤ 8) (hkn : k + mc' ≤ mc ∧ n + ms' ≤ ms)
    (kk : ∀ (r : Option Value) (w1 : va_W), post r w1 → G x g nL (k + mc') (n + ms') (pre ++ (w1 ++ suf)) pc2 lv (r.toList ++ rest)) : G x g nL k n ws pc lv st := by
  subst hw; subst hAs; subst hst
  intro H locs ls hP hD hS h
  obtain ⟨⟨y1, y2, y3⟩, y4, y5⟩ := hY
  have hM := hF H.size
  rw [← hC.2.2.2.2.2.2.2.2.1] at hM
  have hts := hC.2.2.2.2.1
  exact gBack hC hP hD hS h e (va_runI (As := As) (rest := rest) ⟨hC.1, hC.2.1, hC.2.2.1, hC.2.2.2.1, hC.2.2.2.2.1⟩ hM (cwI np hts (lw_goodM y2) rfl rfl rfl (hts _ y1) (hts _ hl) (hts _ y4) y5 y3 (gRoom2 hC hR))
    ⟨gBlindX, fun U hU hW => ⟨rfl, gYes hC hP hD hS hU hW, hNw.warm hW⟩⟩ rfl hn h.1 rfl (lv_room hcat) hd (gRoom hC hkn)) kk
end GNEW2
