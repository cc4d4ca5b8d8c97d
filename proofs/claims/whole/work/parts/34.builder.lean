section GUP
variable {x : gX} {l : Launch} {cc : ByteArray} {nL : Nat} {own : String} {g : gE} {fr lo mc ms k n pc : Nat} {ws : va_W} {lv : List (Nat × Value)} {st : List Value}
def gYu (y : MethodName) (b : ByteArray) (n : Nat) (ret : Option FieldType) (np : Nat) : Prop := gY0 y b n ret np ∧ Cond.instanceMethod y ∈ lw_all ∧ Cond.sameMethod y.cls y.cls y.name y.desc ∈ lw_all
theorem gSelP {C : String} {y : MethodName} {s : State} {args : Array Value} {n : Nat} (hy : y.cls ≠ "java/lang/invoke/MethodHandle" ∧ y.cls ≠ "java/lang/invoke/VarHandle")
    (hins : (Cond.instantiable C n).before args s = true) (hpriv : (Cond.privateMethod y).before args s = true) (hinst : (Cond.instanceMethod y).before args s = true) (hsame : (Cond.sameMethod y.cls y.cls y.name y.desc).before args s = true) :
    (Cond.selects C y y).before args s = true := by
  obtain ⟨c, k, hc, hk, -, hniab, -, -⟩ := Cond.instantiable_spec hins
  obtain ⟨mk, methM, hnamed, hmethM, -, -⟩ := Cond.instanceMethod_spec hinst
  have hfound : s.methodFound? y.cls y.name y.desc = some mk := State.methodFound?_of_named hnamed hy
  have hsel : selectMethod {} s.vm c mk = .method mk := selectMethod_private hmethM (Cond.privateMethod_at hpriv mk methM hnamed hmethM)
  obtain ⟨-, k2, hk2, hni⟩ := Cond.sameMethod_spec (findClass_of_methodNamed hnamed) hfound hsame
  simp only [Cond.before, Cond.holds, Cond.value, hc, hfound, hnamed, hsel, hk2]
  simp; exact hni
/-- a method that the receiver's class has from above -/
theorem g_callU (hC : gC x l cc nL own g fr lo mc ms) {C : String}
    {y : MethodName} {b : ByteArray} {nM fr' lo' mc' ms' np : Nat} {ret : Option FieldType} {wc : va_W} {As As' : List Value} {post : Option Value → va_W → Prop} (hF : Fn l g y b nM ret fr' lo' mc' ms' wc As' post) (hY : gYu y b nM ret np) (hsel : ∀ (a : Array Value) (s : State), (∀ w ∈ lw_all, w.before a s = true) → (Cond.selects C y y).before a s = true) {idx : Nat} (hd : decode cc pc = .ok (.invokevirtual idx, 3)) (pc2 : Nat) (e : pc + 3 = pc2) (hl : Cond.methodLink own idx y ∈ lw_all)
    (pre suf : va_W) (hw : ws = pre ++ (wc ++ suf)) {a : Nat} (rest : List Value) (hAs : As' = .ref a :: As) (hst : st = As.reverse ++ .ref a :: rest) (hn : As.length = np) (q0 ci : Nat) {fs : List Value} {T : u_T} {N : Nat} (hci : vwCl[ci]? = some (C, T, N)) (hq0 : wc[q0]? = some (a, .inr (ci, fs)))
    (hR : fr' + 1 ≤ fr ∧ 8 + (nM + 11) + lo' ≤ lo) (hcat : (rest.map fun v => v.category).sum ≤ 8) (hkn : k + mc' ≤ mc ∧ n + ms' ≤ ms)
    (kk : ∀ (r : Option Value) (w1 : va_W), post r w1 → G x g nL (k + mc') (n + ms') (pre ++ (w1 ++ suf)) pc2 lv (r.toList ++ rest)) : G x g nL k n ws pc lv st := by
  subst hw; subst hAs; subst hst
  intro H locs ls hP hD hS h
  obtain ⟨⟨y1, y2, y3⟩, y4, y6⟩ := hY
  have hM := hF H.size
  rw [← hC.2.2.2.2.2.2.2.2.1] at hM
  have ht := hC.2.2.2.2.1
  have hG := lw_goodM y2
  have hRR := gRoom2 (mc' := mc') (ms' := ms') hC hR
  have cw : va_CU (x_R x) (x_s x) (x_args x) own C y.cls idx y y b nM ret (.code y b nM ret :: lw_all) ({ frames := fr', cells := mc', slots := ms', locals := lo' } : Room) mc' ms' np :=
    ⟨⟨rfl, rfl, hRR.1, hRR.2, pay_in ht hG, List.mem_cons_self⟩, ht _ y2, ht _ y1, ⟨y3.1, y3.2.1⟩, fun sig hs => by
      have h2 := y3.2.2
      rw [hs] at h2
      exact (Option.some.inj h2).symm, ht _ hl, ht _ y6, va_Decl.of (ht _ y4) (ht _ y2), hsel _ _ ht, ht _ y4⟩
  exact gBack hC hP hD hS h e (va_runU (As := As) (rest := rest) ⟨hC.1, hC.2.1, hC.2.2.1, hC.2.2.2.1, hC.2.2.2.2.1⟩ hM cw
    ⟨gBlind, va_recv hC.2.2.2.2.2.1 (gSub hP) hci hq0, fun U hU hW => ⟨rfl, gYes hC hP hD hS hU hW⟩⟩ rfl hn h.1 rfl (lv_room hcat) hd (gRoom hC hkn)) kk
/-- super.m(..) -/
theorem g_callSU (hC : gC x l cc nL own g fr lo mc ms) {C : String} (hsup : Cond.superclass own C ∈ lw_all) {D : String}
    {y : MethodName} (hyC : y.cls = C) {b : ByteArray} {nM fr' lo' mc' ms' np : Nat} {ret : Option FieldType} {wc : va_W} {As As' : List Value} {post : Option Value → va_W → Prop} (hF : Fn l g y b nM ret fr' lo' mc' ms' wc As' post) (hY : gYu y b nM ret np) (hno : y.name ≠ "<init>") {idx : Nat} (hd : decode cc pc = .ok (.invokespecial idx, 3)) (pc2 : Nat) (e : pc + 3 = pc2) (hl : Cond.methodLink own idx y ∈ lw_all)
    (pre suf : va_W) (hw : ws = pre ++ (wc ++ suf)) {a : Nat} (rest : List Value) (hAs : As' = .ref a :: As) (hst : st = As.reverse ++ .ref a :: rest) (hn : As.length = np) (q0 ci : Nat) {fs : List Value} {T : u_T} {N : Nat} (hci : vwCl[ci]? = some (D, T, N)) (hq0 : wc[q0]? = some (a, .inr (ci, fs)))
    (hR : fr' + 1 ≤ fr ∧ 8 + (nM + 11) + lo' ≤ lo) (hcat : (rest.map fun v => v.category).sum ≤ 8) (hkn : k + mc' ≤ mc ∧ n + ms' ≤ ms)
    (kk : ∀ (r : Option Value) (w1 : va_W), post r w1 → G x g nL (k + mc') (n + ms') (pre ++ (w1 ++ suf)) pc2 lv (r.toList ++ rest)) : G x g nL k n ws pc lv st := by
  subst hw; subst hAs; subst hst; subst hyC
  intro H locs ls hP hD hS h
  obtain ⟨⟨y1, y2, y3⟩, y4, y6⟩ := hY
  have hM := hF H.size
  rw [← hC.2.2.2.2.2.2.2.2.1] at hM
  have hT : GoodIn lw_all (va_wsSU own idx y (.code y b nM ret :: lw_all)) := fun w hw => lw_goodAll w (by
    rcases List.mem_append.mp hw with h1 | h1
    · simp only [List.mem_cons, List.not_mem_nil, or_false] at h1
      rcases h1 with rfl | rfl | rfl | rfl | rfl
      · exact hl
      · exact y6
      · exact hsup
      · exact y4
      · exact y1
    · rcases List.mem_cons.mp h1 with rfl | h1
      · exact y2
      · exact h1)
  have hKn := hC.2.2.2.2.2.1.1 ci _ hci
  exact gBack hC hP hD hS h e (va_runSU hKn.2 (As := As) (rest := rest) ⟨hC.1, hC.2.1, hC.2.2.1, hC.2.2.2.1, hC.2.2.2.2.1⟩ hM (va_cwSU np hC.2.2.2.2.1 hT rfl rfl rfl ⟨hno, y3.2.2⟩ (gRoom2 hC hR))
    ⟨gBlind, va_recv hC.2.2.2.2.2.1 (gSub hP) hci hq0, fun U hU hW => ⟨rfl, gYes hC hP hD hS hU hW⟩⟩ rfl hn h.1 rfl (lv_room hcat) hd (gRoom hC hkn)) kk
/-- what came back, in the usual forms -/
theorem v_read {wc pre suf : va_W} {post : Int32 → Prop} {pc2 : Nat} {rest : List Value} (hw : ws = pre ++ (wc ++ suf)) (hc : (∀ (r : Option Value) (w1 : va_W), pR wc post r w1 → G x g nL (k + 0) (n + 0) (pre ++ (w1 ++ suf)) pc2 lv (r.toList ++ rest)) → G x g nL k n ws pc lv st) (kk : ∀ v : Int32, post v → G x g nL k n ws pc2 lv (.int v :: rest)) : G x g nL k n ws pc lv st :=
  hc (by rintro r w1 ⟨v, rfl, rfl, hp⟩; rw [← hw]; exact kk v hp)
theorem v_ownV {S : Type} {W : S → va_W} {s : S} {post : S → Prop} {pc2 : Nat} {rest : List Value} (hc : (∀ (r : Option Value) (w1 : va_W), pV W post r w1 → G x g nL (k + 0) (n + 0) ([] ++ (w1 ++ [])) pc2 lv (r.toList ++ rest)) → G x g nL k n (W s) pc lv st) (kk : ∀ s' : S, post s' → G x g nL k n (W s') pc2 lv rest) : G x g nL k n (W s) pc lv st :=
  hc (by rintro r w1 ⟨s', rfl, rfl, hp⟩; rw [List.nil_append, List.append_nil]; exact kk s' hp)
theorem v_ownI {S : Type} {W : S → va_W} {s : S} {post : Int32 → S → Prop} {pc2 : Nat} {rest : List Value} (hc : (∀ (r : Option Value) (w1 : va_W), pI W post r w1 → G x g nL (k + 0) (n + 0) ([] ++ (w1 ++ [])) pc2 lv (r.toList ++ rest)) → G x g nL k n (W s) pc lv st) (kk : ∀ (v : Int32) (s' : S), post v s' → G x g nL k n (W s') pc2 lv (.int v :: rest)) : G x g nL k n (W s) pc lv st :=
  hc (by rintro r w1 ⟨v, s', rfl, rfl, hp⟩; rw [List.nil_append, List.append_nil]; exact kk v s' hp)
def pA {S : Type} (W : S → va_W) (a : Nat) (post : S → Prop) : Option Value → va_W → Prop := fun r w => ∃ s : S, r = some (.ref a) ∧ w = W s ∧ post s
theorem v_ownA {S : Type} {W : S → va_W} {s : S} {a : Nat} {post : S → Prop} {pc2 : Nat} {rest : List Value} (hc : (∀ (r : Option Value) (w1 : va_W), pA W a post r w1 → G x g nL (k + 0) (n + 0) ([] ++ (w1 ++ [])) pc2 lv (r.toList ++ rest)) → G x g nL k n (W s) pc lv st) (kk : ∀ s' : S, post s' → G x g nL k n (W s') pc2 lv (.ref a :: rest)) : G x g nL k n (W s) pc lv st :=
  hc (by rintro r w1 ⟨s', rfl, rfl, hp⟩; rw [List.nil_append, List.append_nil]; exact kk s' hp)
end GUP
/-- a builder of 16 bytes -/
def sbF (a : Nat → Nat) (o : Off) : List Value := [.ref (a 1), .int (o 0 1), .int (o 0 2), .int (o 0 3)]
def sbW (g : gE) (a : Nat → Nat) (o : Off) : va_W := [(a 0, .inr (1, sbF a o)), (a 1, .inl (g.2.1 2, 16, .inl (o 1)))]
theorem sbW_p1 {g : gE} {a : Nat → Nat} {o o1 : Off} {v : Int32} (h : o1 = st o 0 1 v) : (sbW g a o).set 0 (a 0, .inr (1, (sbF a o).set 1 (.int v))) = sbW g a o1 := by subst h; rfl
theorem sbW_p2 {g : gE} {a : Nat → Nat} {o o1 : Off} {v : Int32} (h : o1 = st o 0 2 v) : (sbW g a o).set 0 (a 0, .inr (1, (sbF a o).set 2 (.int v))) = sbW g a o1 := by subst h; rfl
theorem sbW_p3 {g : gE} {a : Nat → Nat} {o o1 : Off} {v : Int32} (h : o1 = st o 0 3 v) : (sbW g a o).set 0 (a 0, .inr (1, (sbF a o).set 3 (.int v))) = sbW g a o1 := by subst h; rfl
theorem sbW_s1 {g : gE} {a : Nat → Nat} {o o1 : Off} {i : Nat} {v : Int32} (h : o1 = st o 1 i v) : (sbW g a o).set 1 (a 1, .inl (g.2.1 2, 16, .inl (upd (o 1) i v))) = sbW g a o1 := by subst h; rfl

theorem uw_J4 : ∀ w ∈ u_ws RJ4 TJ4 4, w ∈ lw_all := lw_inL _ [214, 216, 218, 220] (by decide +kernel) (by decide +kernel)
theorem fl_J5_15 : gFl RJ5 1 0 15 := ⟨RJ4, TJ4, 4, rfl, by decide, uw_J4, lw_inT 209 (by decide +kernel) rfl⟩
theorem fl_J5_22 : gFl RJ5 1 1 22 := ⟨RJ4, TJ4, 4, rfl, by decide, uw_J4, lw_inT 210 (by decide +kernel) rfl⟩
theorem fp_J5_22 : gFp RJ5 1 1 22 .byte := ⟨RJ4, TJ4, 4, tyJ4, rfl, by decide, uw_J4, lw_inT 210 (by decide +kernel) rfl, tyJ4_ok, nmJ4, rfl, by decide +kernel⟩
theorem fl_J5_73 : gFl RJ5 1 2 73 := ⟨RJ4, TJ4, 4, rfl, by decide, uw_J4, lw_inT 211 (by decide +kernel) rfl⟩
theorem fp_J5_73 : gFp RJ5 1 2 73 .boolean := ⟨RJ4, TJ4, 4, tyJ4, rfl, by decide, uw_J4, lw_inT 211 (by decide +kernel) rfl, tyJ4_ok, nmJ4, rfl, by decide +kernel⟩
theorem fl_J5_79 : gFl RJ5 1 3 79 := ⟨RJ4, TJ4, 4, rfl, by decide, uw_J4, lw_inT 213 (by decide +kernel) rfl⟩
theorem fp_J5_79 : gFp RJ5 1 3 79 .int := ⟨RJ4, TJ4, 4, tyJ4, rfl, by decide, uw_J4, lw_inT 213 (by decide +kernel) rfl, tyJ4_ok, nmJ4, rfl, by decide +kernel⟩
theorem sup_J4 : Cond.superclass RJ4 "java/lang/AbstractStringBuilder" ∈ lw_all := lw_inT 222 (by decide +kernel) rfl
set_option maxRecDepth 100000 in
theorem gYu_J5_isLatin1_aae02 : gYu yJ5_isLatin1_aae02 cJ5_isLatin1_aae02 1 (some .boolean) 0 := ⟨⟨lw_inT 6 (by decide +kernel) rfl, lw_b6 (List.mem_of_getElem? (i := 87) rfl) rfl, by decide +kernel, by decide +kernel, by decide +kernel⟩, lw_inT 1284 (by decide +kernel) rfl, lw_inT 1285 (by decide +kernel) rfl⟩
theorem sel_J5_isLatin1_aae02 : ∀ (a : Array Value) (s : State), (∀ w ∈ lw_all, w.before a s = true) → (Cond.selects RJ4 yJ5_isLatin1_aae02 yJ5_isLatin1_aae02).before a s = true := fun a s h => h _ (lw_inT 1286 (by decide +kernel) rfl)
set_option maxRecDepth 100000 in
theorem gYu_J5_length_8abf5 : gYu yJ5_length_8abf5 cJ5_length_8abf5 1 (some .int) 0 := ⟨⟨lw_inT 6 (by decide +kernel) rfl, lw_b6 (List.mem_of_getElem? (i := 178) rfl) rfl, by decide +kernel, by decide +kernel, by decide +kernel⟩, lw_inT 1372 (by decide +kernel) rfl, lw_inT 1373 (by decide +kernel) rfl⟩
set_option maxRecDepth 100000 in
theorem gYu_J5_ensureCapacityInternal_d00df : gYu yJ5_ensureCapacityInternal_d00df cJ5_ensureCapacityInternal_d00df 3 none 1 := ⟨⟨lw_inT 6 (by decide +kernel) rfl, lw_b6 (List.mem_of_getElem? (i := 57) rfl) rfl, by decide +kernel, by decide +kernel, by decide +kernel⟩, lw_inT 1256 (by decide +kernel) rfl, lw_inT 2294 (by decide +kernel) rfl⟩
theorem sel_J5_ensureCapacityInternal_d00df : ∀ (a : Array Value) (s : State), (∀ w ∈ lw_all, w.before a s = true) → (Cond.selects RJ4 yJ5_ensureCapacityInternal_d00df yJ5_ensureCapacityInternal_d00df).before a s = true := fun a s h => h _ lw_x
set_option maxRecDepth 100000 in
theorem gYu_J5_append_3fe6f : gYu yJ5_append_3fe6f cJ5_append_3fe6f 2 (some (.object "java/lang/AbstractStringBuilder")) 1 := ⟨⟨lw_inT 6 (by decide +kernel) rfl, lw_b7 (List.mem_of_getElem? (i := 15) rfl) rfl, by decide +kernel, by decide +kernel, by decide +kernel⟩, lw_inT 1454 (by decide +kernel) rfl, lw_inT 2300 (by decide +kernel) rfl⟩
set_option maxRecDepth 100000 in
theorem gYu_J5_append_c97b9 : gYu yJ5_append_c97b9 cJ5_append_c97b9 4 (some (.object "java/lang/AbstractStringBuilder")) 1 := ⟨⟨lw_inT 6 (by decide +kernel) rfl, lw_b6 (List.mem_of_getElem? (i := 135) rfl) rfl, by decide +kernel, by decide +kernel, by decide +kernel⟩, lw_inT 1334 (by decide +kernel) rfl, lw_inT 2299 (by decide +kernel) rfl⟩
set_option maxRecDepth 100000 in
theorem gYu_J5_setLength_d00df : gYu yJ5_setLength_d00df cJ5_setLength_d00df 2 none 1 := ⟨⟨lw_inT 6 (by decide +kernel) rfl, lw_b6 (List.mem_of_getElem? (i := 34) rfl) rfl, by decide +kernel, by decide +kernel, by decide +kernel⟩, lw_inT 1233 (by decide +kernel) rfl, lw_inT 2291 (by decide +kernel) rfl⟩
set_option maxRecDepth 100000 in
theorem gYu_J5_charAt_5068e : gYu yJ5_charAt_5068e cJ5_charAt_5068e 5 (some .char) 1 := ⟨⟨lw_inT 6 (by decide +kernel) rfl, lw_b7 (List.mem_of_getElem? (i := 44) rfl) rfl, by decide +kernel, by decide +kernel, by decide +kernel⟩, lw_inT 1483 (by decide +kernel) rfl, lw_inT 2302 (by decide +kernel) rfl⟩
def wp_J5_isLatin1_aae02 (post : Int32 → Prop) (o : Off) : Prop := (((1 : Int32) = 0 → post (0 : Int32)) ∧ (¬ (1 : Int32) = 0 → ((¬ (o 0 1) = 0 → post (0 : Int32)) ∧ ((o 0 1) = 0 → post (1 : Int32)))))
set_option maxRecDepth 100000 in
set_option maxHeartbeats 4000000 in
theorem ct_J5_isLatin1_aae02 (l : Launch) (g : gE) (a : Nat → Nat) (o : Off) (post : Int32 → Prop) (h : wp_J5_isLatin1_aae02 post o ) : Fn l g yJ5_isLatin1_aae02 cJ5_isLatin1_aae02 1 (some .boolean) 0 0 0 0 (sbW g a o) [.ref (a 0)] (pR (sbW g a o) post) := by
  refine Fn.of (by decide) (Nat.le_of_ble_eq_true rfl) (fun x hC hZ => ?_)
  rw [wp_J5_isLatin1_aae02] at h
  show G x g 1 0 0 (sbW g a o) 0 [(0, .ref (a 0))] []
  refine g_getCS hC (lw_inT 200 (by decide +kernel) rfl) dJ5_isLatin1_aae02_0 3 rfl ?_
  refine g_if_eq hC dJ5_isLatin1_aae02_3 17 (by decide) 6 rfl (fun c => ?_) (fun c => ?_)
  · have h := h.1 c
    refine g_iconst hC (0 : Int32) dJ5_isLatin1_aae02_17 18 rfl iconst_0 ?_
    exact g_zret hC hZ rfl dJ5_isLatin1_aae02_18 ⟨_, rfl, rfl, h⟩
  · have h := h.2 c
    refine g_aload_n hC dJ5_isLatin1_aae02_6 7 rfl rfl 0 rfl ?_
    refine g_get hC fl_J5_22 dJ5_isLatin1_aae02_7 10 rfl 0 rfl rfl ?_
    refine g_if_ne hC dJ5_isLatin1_aae02_10 17 (by decide) 13 rfl (fun c => ?_) (fun c => ?_)
    · have h := h.1 c
      refine g_iconst hC (0 : Int32) dJ5_isLatin1_aae02_17 18 rfl iconst_0 ?_
      exact g_zret hC hZ rfl dJ5_isLatin1_aae02_18 ⟨_, rfl, rfl, h⟩
    · have h := h.2 c
      refine g_iconst hC (1 : Int32) dJ5_isLatin1_aae02_13 14 rfl iconst_1 ?_
      refine g_goto hC dJ5_isLatin1_aae02_14 18 (by decide) ?_
      exact g_zret hC hZ rfl dJ5_isLatin1_aae02_18 ⟨_, rfl, rfl, h⟩
def wp_J5_length_8abf5 (post : Int32 → Prop) (o : Off) : Prop := post (o 0 3)
set_option maxRecDepth 100000 in
set_option maxHeartbeats 4000000 in
theorem ct_J5_length_8abf5 (l : Launch) (g : gE) (a : Nat → Nat) (o : Off) (post : Int32 → Prop) (h : wp_J5_length_8abf5 post o ) : Fn l g yJ5_length_8abf5 cJ5_length_8abf5 1 (some .int) 0 0 0 0 (sbW g a o) [.ref (a 0)] (pR (sbW g a o) post) := by
  refine Fn.of (by decide) (Nat.le_of_ble_eq_true rfl) (fun x hC hZ => ?_)
  rw [wp_J5_length_8abf5] at h
  show G x g 1 0 0 (sbW g a o) 0 [(0, .ref (a 0))] []
  refine g_aload_n hC dJ5_length_8abf5_0 1 rfl rfl 0 rfl ?_
  refine g_get hC fl_J5_79 dJ5_length_8abf5_1 4 rfl 0 rfl rfl ?_
  exact g_iret hC hZ dJ5_length_8abf5_4 ⟨_, rfl, rfl, h⟩
def wp_J5_ensureCapacityInternal_d00df (post : Off → Prop) (o : Off) (p0 : Int32) : Prop := (∀ v1 : Int32, v1 = ((16 : Int32) >>> ((o 0 1) &&& 31)) → (((p0 - v1) ≤ 0 → post o) ∧ (¬ (p0 - v1) ≤ 0 → False)))
set_option maxRecDepth 100000 in
set_option maxHeartbeats 4000000 in
theorem ct_J5_ensureCapacityInternal_d00df (l : Launch) (g : gE) (a : Nat → Nat) (o : Off) (p0 : Int32) (post : Off → Prop) (h : wp_J5_ensureCapacityInternal_d00df post o p0) : Fn l g yJ5_ensureCapacityInternal_d00df cJ5_ensureCapacityInternal_d00df 3 none 0 0 0 0 (sbW g a o) [.ref (a 0), .int p0] (pV (sbW g a) post) := by
  refine Fn.of (by decide) (Nat.le_of_ble_eq_true rfl) (fun x hC hZ => ?_)
  rw [wp_J5_ensureCapacityInternal_d00df] at h
  show G x g 3 0 0 (sbW g a o) 0 [(0, .ref (a 0)), (1, .int p0)] []
  refine g_aload_n hC dJ5_ensureCapacityInternal_d00df_0 1 rfl rfl 0 rfl ?_
  refine g_get hC fl_J5_15 dJ5_ensureCapacityInternal_d00df_1 4 rfl 0 rfl rfl ?_
  refine g_alen (v := (16 : Int32)) hC dJ5_ensureCapacityInternal_d00df_4 5 rfl 1 2 rfl rfl rfl ?_
  refine g_aload_n hC dJ5_ensureCapacityInternal_d00df_5 6 rfl rfl 0 rfl ?_
  refine g_get hC fl_J5_22 dJ5_ensureCapacityInternal_d00df_6 9 rfl 0 rfl rfl ?_
  refine g_ishr hC dJ5_ensureCapacityInternal_d00df_9 10 rfl ?_
  refine g_topi (fun v1 ev1 => ?_)
  have h := h v1 ev1
  refine g_istore_n (lv2 := [(2, .int v1), (0, .ref (a 0)), (1, .int p0)]) hC dJ5_ensureCapacityInternal_d00df_10 11 rfl rfl (by decide) rfl ?_
  refine g_iload_n hC dJ5_ensureCapacityInternal_d00df_11 12 rfl rfl 2 rfl ?_
  refine g_iload_n hC dJ5_ensureCapacityInternal_d00df_12 13 rfl rfl 0 rfl ?_
  refine g_isub hC dJ5_ensureCapacityInternal_d00df_13 14 rfl ?_
  refine g_if_le hC dJ5_ensureCapacityInternal_d00df_14 38 (by decide) 17 rfl (fun c => ?_) (fun c => ?_)
  · have h := h.1 c
    exact g_vret hC hZ dJ5_ensureCapacityInternal_d00df_38 ⟨_, rfl, rfl, h⟩
  · have h := h.2 c
    exact h.elim
def wp_J1_canEncode_fc78d (post : Int32 → Prop) (p0 : Int32) : Prop := (((255 : Int32) < p0 → post (0 : Int32)) ∧ (¬ (255 : Int32) < p0 → post (1 : Int32)))
set_option maxRecDepth 100000 in
set_option maxHeartbeats 4000000 in
theorem ct_J1_canEncode_fc78d (l : Launch) (g : gE) (p0 : Int32) (post : Int32 → Prop) (h : wp_J1_canEncode_fc78d post p0) : Fn l g yJ1_canEncode_fc78d cJ1_canEncode_fc78d 1 (some .boolean) 0 0 0 0 [] [.int p0] (pR [] post) := by
  refine Fn.of (by decide) (Nat.le_of_ble_eq_true rfl) (fun x hC hZ => ?_)
  rw [wp_J1_canEncode_fc78d] at h
  show G x g 1 0 0 [] 0 [(0, .int p0)] []
  refine g_iload_n hC dJ1_canEncode_fc78d_0 1 rfl rfl 0 rfl ?_
  refine g_sipush hC (255 : Int32) dJ1_canEncode_fc78d_1 4 rfl sipush_255 ?_
  refine g_icmp_gt hC dJ1_canEncode_fc78d_4 11 (by decide) 7 rfl (fun c => ?_) (fun c => ?_)
  · have h := h.1 c
    refine g_iconst hC (0 : Int32) dJ1_canEncode_fc78d_11 12 rfl iconst_0 ?_
    exact g_zret hC hZ rfl dJ1_canEncode_fc78d_12 ⟨_, rfl, rfl, h⟩
  · have h := h.2 c
    refine g_iconst hC (1 : Int32) dJ1_canEncode_fc78d_7 8 rfl iconst_1 ?_
    refine g_goto hC dJ1_canEncode_fc78d_8 12 (by decide) ?_
    exact g_zret hC hZ rfl dJ1_canEncode_fc78d_12 ⟨_, rfl, rfl, h⟩
def wl_J6_stringSize_0f7a4_16 (post : Int32 → Prop) : Nat → Int32 → Int32 → Int32 → Int32 → Prop
  | 0, _, _, _, _ => False
  | n + 1, x0, x1, x2, x3 => (((10 : Int32) ≤ x3 → post ((10 : Int32) + x1)) ∧ (¬ (10 : Int32) ≤ x3 → ((x0 ≤ x2 → (∀ v1 : Int32, v1 = ((10 : Int32) * x2) → (∀ v2 : Int32, v2 = x3 + (1 : Int32) → wl_J6_stringSize_0f7a4_16 post n x0 x1 v1 v2))) ∧ (¬ x0 ≤ x2 → post (x3 + x1)))))
def wp_J6_stringSize_0f7a4 (post : Int32 → Prop) (p0 : Int32) : Prop := ((p0 < 0 → (∃ m : Nat, wl_J6_stringSize_0f7a4_16 post m p0 (1 : Int32) (-10 : Int32) (1 : Int32))) ∧ (¬ p0 < 0 → (∀ v3 : Int32, v3 = (-p0) → (∃ m : Nat, wl_J6_stringSize_0f7a4_16 post m v3 (0 : Int32) (-10 : Int32) (1 : Int32)))))
set_option maxRecDepth 100000 in
set_option maxHeartbeats 4000000 in
theorem lp_J6_stringSize_0f7a4_16 {x : gX} {l : Launch} {g : gE} {post : Int32 → Prop} (hC : gC x l cJ6_stringSize_0f7a4 4 RJ6 g 0 0 0 0) (hZ : gZ x g (some .int) [] (pR [] post) 0 0) : ∀ (n : Nat) (x0 : Int32) (x1 : Int32) (x2 : Int32) (x3 : Int32) , wl_J6_stringSize_0f7a4_16 post n x0 x1 x2 x3 → G x g 4 0 0 [] 16 [(0, .int x0), (1, .int x1), (2, .int x2), (3, .int x3)] [] := by
  intro n
  induction n with
  | zero =>
    intro x0 x1 x2 x3 h
    exact h.elim
  | succ n ih =>
    intro x0 x1 x2 x3 h
    rw [wl_J6_stringSize_0f7a4_16] at h
    refine g_iload_n hC dJ6_stringSize_0f7a4_16 17 rfl rfl 3 rfl ?_
    refine g_bipush hC (10 : Int32) dJ6_stringSize_0f7a4_17 19 rfl bipush_10 ?_
    refine g_icmp_ge hC dJ6_stringSize_0f7a4_19 42 (by decide) 22 rfl (fun c => ?_) (fun c => ?_)
    · have h := h.1 c
      refine g_bipush hC (10 : Int32) dJ6_stringSize_0f7a4_42 44 rfl bipush_10 ?_
      refine g_iload_n hC dJ6_stringSize_0f7a4_44 45 rfl rfl 1 rfl ?_
      refine g_iadd hC dJ6_stringSize_0f7a4_45 46 rfl ?_
      exact g_iret hC hZ dJ6_stringSize_0f7a4_46 ⟨_, rfl, rfl, h⟩
    · have h := h.2 c
      refine g_iload_n hC dJ6_stringSize_0f7a4_22 23 rfl rfl 0 rfl ?_
      refine g_iload_n hC dJ6_stringSize_0f7a4_23 24 rfl rfl 2 rfl ?_
      refine g_icmp_le hC dJ6_stringSize_0f7a4_24 31 (by decide) 27 rfl (fun c => ?_) (fun c => ?_)
      · have h := h.1 c
        refine g_bipush hC (10 : Int32) dJ6_stringSize_0f7a4_31 33 rfl bipush_10 ?_
        refine g_iload_n hC dJ6_stringSize_0f7a4_33 34 rfl rfl 2 rfl ?_
        refine g_imul hC dJ6_stringSize_0f7a4_34 35 rfl ?_
        refine g_topi (fun v1 ev1 => ?_)
        have h := h v1 ev1
        refine g_istore_n (lv2 := [(2, .int v1), (0, .int x0), (1, .int x1), (3, .int x3)]) hC dJ6_stringSize_0f7a4_35 36 rfl rfl (by decide) rfl ?_
        obtain ⟨v2, ev2⟩ : ∃ y : Int32, y = x3 + (1 : Int32) := ⟨_, rfl⟩
        have h := h v2 ev2
        refine g_iinc (v2 := v2) (lv2 := [(3, .int v2), (2, .int v1), (0, .int x0), (1, .int x1)]) hC dJ6_stringSize_0f7a4_36 39 rfl 3 rfl (by rw [iconst_1, ev2]) (by decide) rfl ?_
        refine g_goto hC dJ6_stringSize_0f7a4_39 16 (by decide) ?_
        refine g_lv (lv2 := [(0, .int x0), (1, .int x1), (2, .int v1), (3, .int v2)]) [2, 3, 1, 0] rfl ?_
        exact ih x0 x1 v1 v2 h
      · have h := h.2 c
        refine g_iload_n hC dJ6_stringSize_0f7a4_27 28 rfl rfl 3 rfl ?_
        refine g_iload_n hC dJ6_stringSize_0f7a4_28 29 rfl rfl 1 rfl ?_
        refine g_iadd hC dJ6_stringSize_0f7a4_29 30 rfl ?_
        exact g_iret hC hZ dJ6_stringSize_0f7a4_30 ⟨_, rfl, rfl, h⟩
set_option maxRecDepth 100000 in
set_option maxHeartbeats 4000000 in
theorem ct_J6_stringSize_0f7a4 (l : Launch) (g : gE) (p0 : Int32) (post : Int32 → Prop) (h : wp_J6_stringSize_0f7a4 post p0) : Fn l g yJ6_stringSize_0f7a4 cJ6_stringSize_0f7a4 4 (some .int) 0 0 0 0 [] [.int p0] (pR [] post) := by
  refine Fn.of (by decide) (Nat.le_of_ble_eq_true rfl) (fun x hC hZ => ?_)
  rw [wp_J6_stringSize_0f7a4] at h
  show G x g 4 0 0 [] 0 [(0, .int p0)] []
  refine g_iconst hC (1 : Int32) dJ6_stringSize_0f7a4_0 1 rfl iconst_1 ?_
  refine g_istore_n (lv2 := [(1, .int (1 : Int32)), (0, .int p0)]) hC dJ6_stringSize_0f7a4_1 2 rfl rfl (by decide) rfl ?_
  refine g_iload_n hC dJ6_stringSize_0f7a4_2 3 rfl rfl 1 rfl ?_
  refine g_if_lt hC dJ6_stringSize_0f7a4_3 11 (by decide) 6 rfl (fun c => ?_) (fun c => ?_)
  · have h := h.1 c
    refine g_bipush hC (-10 : Int32) dJ6_stringSize_0f7a4_11 13 rfl bipush_m10 ?_
    refine g_istore_n (lv2 := [(2, .int (-10 : Int32)), (1, .int (1 : Int32)), (0, .int p0)]) hC dJ6_stringSize_0f7a4_13 14 rfl rfl (by decide) rfl ?_
    refine g_iconst hC (1 : Int32) dJ6_stringSize_0f7a4_14 15 rfl iconst_1 ?_
    refine g_istore_n (lv2 := [(3, .int (1 : Int32)), (2, .int (-10 : Int32)), (1, .int (1 : Int32)), (0, .int p0)]) hC dJ6_stringSize_0f7a4_15 16 rfl rfl (by decide) rfl ?_
    refine g_lv (lv2 := [(0, .int p0), (1, .int (1 : Int32)), (2, .int (-10 : Int32)), (3, .int (1 : Int32))]) [3, 2, 1, 0] rfl ?_
    obtain ⟨m, h⟩ := h
    exact lp_J6_stringSize_0f7a4_16 hC hZ m p0 (1 : Int32) (-10 : Int32) (1 : Int32) h
  · have h := h.2 c
    refine g_iconst hC (0 : Int32) dJ6_stringSize_0f7a4_6 7 rfl iconst_0 ?_
    refine g_istore_n (lv2 := [(1, .int (0 : Int32)), (0, .int p0)]) hC dJ6_stringSize_0f7a4_7 8 rfl rfl (by decide) rfl ?_
    refine g_iload_n hC dJ6_stringSize_0f7a4_8 9 rfl rfl 1 rfl ?_
    refine g_ineg hC dJ6_stringSize_0f7a4_9 10 rfl ?_
    refine g_topi (fun v3 ev3 => ?_)
    have h := h v3 ev3
    refine g_istore_n (lv2 := [(0, .int v3), (1, .int (0 : Int32))]) hC dJ6_stringSize_0f7a4_10 11 rfl rfl (by decide) rfl ?_
    refine g_bipush hC (-10 : Int32) dJ6_stringSize_0f7a4_11 13 rfl bipush_m10 ?_
    refine g_istore_n (lv2 := [(2, .int (-10 : Int32)), (0, .int v3), (1, .int (0 : Int32))]) hC dJ6_stringSize_0f7a4_13 14 rfl rfl (by decide) rfl ?_
    refine g_iconst hC (1 : Int32) dJ6_stringSize_0f7a4_14 15 rfl iconst_1 ?_
    refine g_istore_n (lv2 := [(3, .int (1 : Int32)), (2, .int (-10 : Int32)), (0, .int v3), (1, .int (0 : Int32))]) hC dJ6_stringSize_0f7a4_15 16 rfl rfl (by decide) rfl ?_
    refine g_lv (lv2 := [(0, .int v3), (1, .int (0 : Int32)), (2, .int (-10 : Int32)), (3, .int (1 : Int32))]) [2, 3, 1, 0] rfl ?_
    obtain ⟨m, h⟩ := h
    exact lp_J6_stringSize_0f7a4_16 hC hZ m v3 (0 : Int32) (-10 : Int32) (1 : Int32) h
def wj_J6_getChars_ba4f3_104 (post : Int32 → Off → Prop) (o : Off) (x5 : Int32) (x6 : Int32) : Prop := ((x6 = 0 → post x5 o) ∧ (¬ x6 = 0 → (∀ v3 : Int32, v3 = x5 + (-1 : Int32) → (vp_in v3 16 ∧ (∀ o4 : Off, o4 = st o 1 v3.toNatClampNeg (vp_nar .byte (45 : Int32)) → post v3 o4)))))
def wl_J6_getChars_ba4f3_22 (post : Int32 → Off → Prop) : Nat → Off → Int32 → Int32 → Int32 → Prop
  | 0, _, _, _, _ => False
  | n + 1, o, x0, x5, x6 => (((-100 : Int32) < x0 → (∀ v1 : Int32, v1 = x5 + (-1 : Int32) → (vp_in (-x0) 100 ∧ (vp_in v1 16 ∧ (∀ o2 : Off, o2 = st o 1 v1.toNatClampNeg (vp_nar .byte (nI (48 + (-x0).toNatClampNeg % 10))) → (((-9 : Int32) ≤ x0 → wj_J6_getChars_ba4f3_104 post o2 v1 x6) ∧ (¬ (-9 : Int32) ≤ x0 → (∀ v5 : Int32, v5 = v1 + (-1 : Int32) → (vp_in (-x0) 100 ∧ (vp_in v5 16 ∧ (∀ o6 : Off, o6 = st o2 1 v5.toNatClampNeg (vp_nar .byte (nI (48 + (-x0).toNatClampNeg / 10))) → wj_J6_getChars_ba4f3_104 post o6 v5 x6))))))))))) ∧ (¬ (-100 : Int32) < x0 → (∀ v7 : Int32, v7 = (x0 / (100 : Int32)) → (∀ v8 : Int32, v8 = ((v7 * (100 : Int32)) - x0) → (∀ v9 : Int32, v9 = x5 + (-1 : Int32) → (vp_in v8 100 ∧ (vp_in v9 16 ∧ (∀ o10 : Off, o10 = st o 1 v9.toNatClampNeg (vp_nar .byte (nI (48 + v8.toNatClampNeg % 10))) → (∀ v11 : Int32, v11 = v9 + (-1 : Int32) → (vp_in v8 100 ∧ (vp_in v11 16 ∧ (∀ o12 : Off, o12 = st o10 1 v11.toNatClampNeg (vp_nar .byte (nI (48 + v8.toNatClampNeg / 10))) → wl_J6_getChars_ba4f3_22 post n o12 v7 v11 x6))))))))))))
def wj_J6_getChars_ba4f3_12 (post : Int32 → Off → Prop) (o : Off) (x0 : Int32) (x5 : Int32) (s0 : Int32) : Prop := ((¬ s0 = 0 → (∃ m : Nat, wl_J6_getChars_ba4f3_22 post m o x0 x5 s0)) ∧ (s0 = 0 → (∀ v13 : Int32, v13 = (-x0) → (∃ m : Nat, wl_J6_getChars_ba4f3_22 post m o v13 x5 s0))))
def wp_J6_getChars_ba4f3 (post : Int32 → Off → Prop) (o : Off) (p0 : Int32) (p1 : Int32) : Prop := ((0 ≤ p0 → wj_J6_getChars_ba4f3_12 post o p0 p1 (0 : Int32)) ∧ (¬ 0 ≤ p0 → wj_J6_getChars_ba4f3_12 post o p0 p1 (1 : Int32)))
set_option maxRecDepth 100000 in
set_option maxHeartbeats 4000000 in
theorem jn_J6_getChars_ba4f3_104 {x : gX} {l : Launch} {g : gE} {a : Nat → Nat} {o0 : Off} {post : Int32 → Off → Prop} (hC : gC x l cJ6_getChars_ba4f3 7 RJ6 g 0 0 0 0) (hZ : gZ x g (some .int) (sbW g a o0) (pI (sbW g a) post) 0 0) : ∀ (o : Off) (x5 : Int32) (x6 : Int32) , wj_J6_getChars_ba4f3_104 post o x5 x6 → G x g 7 0 0 (sbW g a o) 104 [(2, .ref (a 1)), (5, .int x5), (6, .int x6)] [] := by
  intro o x5 x6 h
  rw [wj_J6_getChars_ba4f3_104] at h
  refine g_iload hC dJ6_getChars_ba4f3_104 106 rfl 2 rfl ?_
  refine g_if_eq hC dJ6_getChars_ba4f3_106 118 (by decide) 109 rfl (fun c => ?_) (fun c => ?_)
  · have h := h.1 c
    refine g_iload hC dJ6_getChars_ba4f3_118 120 rfl 1 rfl ?_
    exact g_iret hC hZ dJ6_getChars_ba4f3_120 ⟨_, _, rfl, rfl, h⟩
  · have h := h.2 c
    refine g_aload_n hC dJ6_getChars_ba4f3_109 110 rfl rfl 0 rfl ?_
    obtain ⟨v3, ev3⟩ : ∃ y : Int32, y = x5 + (-1 : Int32) := ⟨_, rfl⟩
    have h := h v3 ev3
    refine g_iinc (v2 := v3) (lv2 := [(5, .int v3), (2, .ref (a 1)), (6, .int x6)]) hC dJ6_getChars_ba4f3_110 113 rfl 1 rfl (by rw [iconst_m1, ev3]) (by decide) rfl ?_
    refine g_iload hC dJ6_getChars_ba4f3_113 115 rfl 0 rfl ?_
    refine g_bipush hC (45 : Int32) dJ6_getChars_ba4f3_115 117 rfl bipush_45 ?_
    obtain ⟨hi, h⟩ := h
    obtain ⟨o4, eo4⟩ : ∃ y : Off, y = st o 1 v3.toNatClampNeg (vp_nar .byte (45 : Int32)) := ⟨_, rfl⟩
    have h := h o4 eo4
    refine g_bast hC dJ6_getChars_ba4f3_117 118 rfl 1 rfl hi (sbW_s1 eo4) ?_
    refine g_iload hC dJ6_getChars_ba4f3_118 120 rfl 0 rfl ?_
    exact g_iret hC hZ dJ6_getChars_ba4f3_120 ⟨_, _, rfl, rfl, h⟩
set_option maxRecDepth 100000 in
set_option maxHeartbeats 4000000 in
theorem lp_J6_getChars_ba4f3_22 {x : gX} {l : Launch} {g : gE} {a : Nat → Nat} {o0 : Off} {post : Int32 → Off → Prop} (hC : gC x l cJ6_getChars_ba4f3 7 RJ6 g 0 0 0 0) (hZ : gZ x g (some .int) (sbW g a o0) (pI (sbW g a) post) 0 0) : ∀ (n : Nat) (o : Off) (x0 : Int32) (x5 : Int32) (x6 : Int32) , wl_J6_getChars_ba4f3_22 post n o x0 x5 x6 → G x g 7 0 0 (sbW g a o) 22 [(0, .int x0), (2, .ref (a 1)), (5, .int x5), (6, .int x6)] [] := by
  intro n
  induction n with
  | zero =>
    intro o x0 x5 x6 h
    exact h.elim
  | succ n ih =>
    intro o x0 x5 x6 h
    rw [wl_J6_getChars_ba4f3_22] at h
    refine g_iload_n hC dJ6_getChars_ba4f3_22 23 rfl rfl 0 rfl ?_
    refine g_bipush hC (-100 : Int32) dJ6_getChars_ba4f3_23 25 rfl bipush_m100 ?_
    refine g_icmp_gt hC dJ6_getChars_ba4f3_25 72 (by decide) 28 rfl (fun c => ?_) (fun c => ?_)
    · have h := h.1 c
      refine g_aload_n hC dJ6_getChars_ba4f3_72 73 rfl rfl 1 rfl ?_
      obtain ⟨v1, ev1⟩ : ∃ y : Int32, y = x5 + (-1 : Int32) := ⟨_, rfl⟩
      have h := h v1 ev1
      refine g_iinc (v2 := v1) (lv2 := [(5, .int v1), (0, .int x0), (2, .ref (a 1)), (6, .int x6)]) hC dJ6_getChars_ba4f3_73 76 rfl 2 rfl (by rw [iconst_m1, ev1]) (by decide) rfl ?_
      refine g_iload hC dJ6_getChars_ba4f3_76 78 rfl 0 rfl ?_
      refine g_getDO hC (lw_inT 1342 (by decide +kernel) rfl) dJ6_getChars_ba4f3_78 81 rfl ?_
      refine g_iload_n hC dJ6_getChars_ba4f3_81 82 rfl rfl 1 rfl ?_
      refine g_ineg hC dJ6_getChars_ba4f3_82 83 rfl ?_
      obtain ⟨hi, h⟩ := h
      refine g_bDO hC dJ6_getChars_ba4f3_83 84 rfl hi ?_
      obtain ⟨hi, h⟩ := h
      obtain ⟨o2, eo2⟩ : ∃ y : Off, y = st o 1 v1.toNatClampNeg (vp_nar .byte (nI (48 + (-x0).toNatClampNeg % 10))) := ⟨_, rfl⟩
      have h := h o2 eo2
      refine g_bast hC dJ6_getChars_ba4f3_84 85 rfl 1 rfl hi (sbW_s1 eo2) ?_
      refine g_iload_n hC dJ6_getChars_ba4f3_85 86 rfl rfl 1 rfl ?_
      refine g_bipush hC (-9 : Int32) dJ6_getChars_ba4f3_86 88 rfl bipush_m9 ?_
      refine g_icmp_ge hC dJ6_getChars_ba4f3_88 104 (by decide) 91 rfl (fun c => ?_) (fun c => ?_)
      · have h := h.1 c
        refine g_lv (lv2 := [(2, .ref (a 1)), (5, .int v1), (6, .int x6)]) [2, 0, 3] rfl ?_
        exact jn_J6_getChars_ba4f3_104 hC hZ o2 v1 x6 h
      · have h := h.2 c
        refine g_aload_n hC dJ6_getChars_ba4f3_91 92 rfl rfl 2 rfl ?_
        obtain ⟨v5, ev5⟩ : ∃ y : Int32, y = v1 + (-1 : Int32) := ⟨_, rfl⟩
        have h := h v5 ev5
        refine g_iinc (v2 := v5) (lv2 := [(5, .int v5), (0, .int x0), (2, .ref (a 1)), (6, .int x6)]) hC dJ6_getChars_ba4f3_92 95 rfl 0 rfl (by rw [iconst_m1, ev5]) (by decide) rfl ?_
        refine g_iload hC dJ6_getChars_ba4f3_95 97 rfl 0 rfl ?_
        refine g_getDT hC (lw_inT 1344 (by decide +kernel) rfl) dJ6_getChars_ba4f3_97 100 rfl ?_
        refine g_iload_n hC dJ6_getChars_ba4f3_100 101 rfl rfl 1 rfl ?_
        refine g_ineg hC dJ6_getChars_ba4f3_101 102 rfl ?_
        obtain ⟨hi, h⟩ := h
        refine g_bDT hC dJ6_getChars_ba4f3_102 103 rfl hi ?_
        obtain ⟨hi, h⟩ := h
        obtain ⟨o6, eo6⟩ : ∃ y : Off, y = st o2 1 v5.toNatClampNeg (vp_nar .byte (nI (48 + (-x0).toNatClampNeg / 10))) := ⟨_, rfl⟩
        have h := h o6 eo6
        refine g_bast hC dJ6_getChars_ba4f3_103 104 rfl 1 rfl hi (sbW_s1 eo6) ?_
        refine g_lv (lv2 := [(2, .ref (a 1)), (5, .int v5), (6, .int x6)]) [2, 0, 3] rfl ?_
        exact jn_J6_getChars_ba4f3_104 hC hZ o6 v5 x6 h
    · have h := h.2 c
      refine g_iload_n hC dJ6_getChars_ba4f3_28 29 rfl rfl 0 rfl ?_
      refine g_bipush hC (100 : Int32) dJ6_getChars_ba4f3_29 31 rfl bipush_100 ?_
      refine g_idiv hC dJ6_getChars_ba4f3_31 32 rfl (by decide) ?_
      refine g_topi (fun v7 ev7 => ?_)
      have h := h v7 ev7
      refine g_istore_n (lv2 := [(3, .int v7), (0, .int x0), (2, .ref (a 1)), (5, .int x5), (6, .int x6)]) hC dJ6_getChars_ba4f3_32 33 rfl rfl (by decide) rfl ?_
      refine g_iload_n hC dJ6_getChars_ba4f3_33 34 rfl rfl 0 rfl ?_
      refine g_bipush hC (100 : Int32) dJ6_getChars_ba4f3_34 36 rfl bipush_100 ?_
      refine g_imul hC dJ6_getChars_ba4f3_36 37 rfl ?_
      refine g_iload_n hC dJ6_getChars_ba4f3_37 38 rfl rfl 1 rfl ?_
      refine g_isub hC dJ6_getChars_ba4f3_38 39 rfl ?_
      refine g_topi (fun v8 ev8 => ?_)
      have h := h v8 ev8
      refine g_istore (lv2 := [(4, .int v8), (3, .int v7), (0, .int x0), (2, .ref (a 1)), (5, .int x5), (6, .int x6)]) hC dJ6_getChars_ba4f3_39 41 rfl (by decide) rfl ?_
      refine g_iload_n hC dJ6_getChars_ba4f3_41 42 rfl rfl 1 rfl ?_
      refine g_istore_n (lv2 := [(0, .int v7), (4, .int v8), (3, .int v7), (2, .ref (a 1)), (5, .int x5), (6, .int x6)]) hC dJ6_getChars_ba4f3_42 43 rfl rfl (by decide) rfl ?_
      refine g_aload_n hC dJ6_getChars_ba4f3_43 44 rfl rfl 3 rfl ?_
      obtain ⟨v9, ev9⟩ : ∃ y : Int32, y = x5 + (-1 : Int32) := ⟨_, rfl⟩
      have h := h v9 ev9
      refine g_iinc (v2 := v9) (lv2 := [(5, .int v9), (0, .int v7), (4, .int v8), (3, .int v7), (2, .ref (a 1)), (6, .int x6)]) hC dJ6_getChars_ba4f3_44 47 rfl 4 rfl (by rw [iconst_m1, ev9]) (by decide) rfl ?_
      refine g_iload hC dJ6_getChars_ba4f3_47 49 rfl 0 rfl ?_
      refine g_getDO hC (lw_inT 1342 (by decide +kernel) rfl) dJ6_getChars_ba4f3_49 52 rfl ?_
      refine g_iload hC dJ6_getChars_ba4f3_52 54 rfl 2 rfl ?_
      obtain ⟨hi, h⟩ := h
      refine g_bDO hC dJ6_getChars_ba4f3_54 55 rfl hi ?_
      obtain ⟨hi, h⟩ := h
      obtain ⟨o10, eo10⟩ : ∃ y : Off, y = st o 1 v9.toNatClampNeg (vp_nar .byte (nI (48 + v8.toNatClampNeg % 10))) := ⟨_, rfl⟩
      have h := h o10 eo10
      refine g_bast hC dJ6_getChars_ba4f3_55 56 rfl 1 rfl hi (sbW_s1 eo10) ?_
      refine g_aload_n hC dJ6_getChars_ba4f3_56 57 rfl rfl 4 rfl ?_
      obtain ⟨v11, ev11⟩ : ∃ y : Int32, y = v9 + (-1 : Int32) := ⟨_, rfl⟩
      have h := h v11 ev11
      refine g_iinc (v2 := v11) (lv2 := [(5, .int v11), (0, .int v7), (4, .int v8), (3, .int v7), (2, .ref (a 1)), (6, .int x6)]) hC dJ6_getChars_ba4f3_57 60 rfl 0 rfl (by rw [iconst_m1, ev11]) (by decide) rfl ?_
      refine g_iload hC dJ6_getChars_ba4f3_60 62 rfl 0 rfl ?_
      refine g_getDT hC (lw_inT 1344 (by decide +kernel) rfl) dJ6_getChars_ba4f3_62 65 rfl ?_
      refine g_iload hC dJ6_getChars_ba4f3_65 67 rfl 2 rfl ?_
      obtain ⟨hi, h⟩ := h
      refine g_bDT hC dJ6_getChars_ba4f3_67 68 rfl hi ?_
      obtain ⟨hi, h⟩ := h
      obtain ⟨o12, eo12⟩ : ∃ y : Off, y = st o10 1 v11.toNatClampNeg (vp_nar .byte (nI (48 + v8.toNatClampNeg / 10))) := ⟨_, rfl⟩
      have h := h o12 eo12
      refine g_bast hC dJ6_getChars_ba4f3_68 69 rfl 1 rfl hi (sbW_s1 eo12) ?_
      refine g_goto hC dJ6_getChars_ba4f3_69 22 (by decide) ?_
      refine g_lv (lv2 := [(0, .int v7), (2, .ref (a 1)), (5, .int v11), (6, .int x6)]) [1, 4, 0, 5] rfl ?_
      exact ih o12 v7 v11 x6 h
set_option maxRecDepth 100000 in
set_option maxHeartbeats 4000000 in
theorem jn_J6_getChars_ba4f3_12 {x : gX} {l : Launch} {g : gE} {a : Nat → Nat} {o0 : Off} {post : Int32 → Off → Prop} (hC : gC x l cJ6_getChars_ba4f3 7 RJ6 g 0 0 0 0) (hZ : gZ x g (some .int) (sbW g a o0) (pI (sbW g a) post) 0 0) : ∀ (o : Off) (x0 : Int32) (x5 : Int32) (s0 : Int32) , wj_J6_getChars_ba4f3_12 post o x0 x5 s0 → G x g 7 0 0 (sbW g a o) 12 [(0, .int x0), (2, .ref (a 1)), (5, .int x5)] [.int s0] := by
  intro o x0 x5 s0 h
  rw [wj_J6_getChars_ba4f3_12] at h
  refine g_istore (lv2 := [(6, .int s0), (0, .int x0), (2, .ref (a 1)), (5, .int x5)]) hC dJ6_getChars_ba4f3_12 14 rfl (by decide) rfl ?_
  refine g_iload hC dJ6_getChars_ba4f3_14 16 rfl 0 rfl ?_
  refine g_if_ne hC dJ6_getChars_ba4f3_16 22 (by decide) 19 rfl (fun c => ?_) (fun c => ?_)
  · have h := h.1 c
    refine g_lv (lv2 := [(0, .int x0), (2, .ref (a 1)), (5, .int x5), (6, .int s0)]) [1, 2, 3, 0] rfl ?_
    obtain ⟨m, h⟩ := h
    exact lp_J6_getChars_ba4f3_22 hC hZ m o x0 x5 s0 h
  · have h := h.2 c
    refine g_iload_n hC dJ6_getChars_ba4f3_19 20 rfl rfl 1 rfl ?_
    refine g_ineg hC dJ6_getChars_ba4f3_20 21 rfl ?_
    refine g_topi (fun v13 ev13 => ?_)
    have h := h v13 ev13
    refine g_istore_n (lv2 := [(0, .int v13), (6, .int s0), (2, .ref (a 1)), (5, .int x5)]) hC dJ6_getChars_ba4f3_21 22 rfl rfl (by decide) rfl ?_
    refine g_lv (lv2 := [(0, .int v13), (2, .ref (a 1)), (5, .int x5), (6, .int s0)]) [0, 2, 3, 1] rfl ?_
    obtain ⟨m, h⟩ := h
    exact lp_J6_getChars_ba4f3_22 hC hZ m o v13 x5 s0 h
set_option maxRecDepth 100000 in
set_option maxHeartbeats 4000000 in
theorem ct_J6_getChars_ba4f3 (l : Launch) (g : gE) (a : Nat → Nat) (o : Off) (p0 : Int32) (p1 : Int32) (post : Int32 → Off → Prop) (h : wp_J6_getChars_ba4f3 post o p0 p1) : Fn l g yJ6_getChars_ba4f3 cJ6_getChars_ba4f3 7 (some .int) 0 0 0 0 (sbW g a o) [.int p0, .int p1, .ref (a 1)] (pI (sbW g a) post) := by
  refine Fn.of (by decide) (Nat.le_of_ble_eq_true rfl) (fun x hC hZ => ?_)
  rw [wp_J6_getChars_ba4f3] at h
  show G x g 7 0 0 (sbW g a o) 0 [(0, .int p0), (1, .int p1), (2, .ref (a 1))] []
  refine g_iload_n hC dJ6_getChars_ba4f3_0 1 rfl rfl 1 rfl ?_
  refine g_istore (lv2 := [(5, .int p1), (0, .int p0), (1, .int p1), (2, .ref (a 1))]) hC dJ6_getChars_ba4f3_1 3 rfl (by decide) rfl ?_
  refine g_iload_n hC dJ6_getChars_ba4f3_3 4 rfl rfl 1 rfl ?_
  refine g_if_ge hC dJ6_getChars_ba4f3_4 11 (by decide) 7 rfl (fun c => ?_) (fun c => ?_)
  · have h := h.1 c
    refine g_iconst hC (0 : Int32) dJ6_getChars_ba4f3_11 12 rfl iconst_0 ?_
    refine g_lv (lv2 := [(0, .int p0), (2, .ref (a 1)), (5, .int p1)]) [1, 3, 0] rfl ?_
    exact jn_J6_getChars_ba4f3_12 hC hZ o p0 p1 (0 : Int32) h
  · have h := h.2 c
    refine g_iconst hC (1 : Int32) dJ6_getChars_ba4f3_7 8 rfl iconst_1 ?_
    refine g_goto hC dJ6_getChars_ba4f3_8 12 (by decide) ?_
    refine g_lv (lv2 := [(0, .int p0), (2, .ref (a 1)), (5, .int p1)]) [1, 3, 0] rfl ?_
    exact jn_J6_getChars_ba4f3_12 hC hZ o p0 p1 (1 : Int32) h
def wj_J5_append_3fe6f_56 (post : Off → Prop) (o : Off) (x1 : Int32) : Prop := False
def wj_J5_append_3fe6f_45 (post : Off → Prop) (o : Off) (x1 : Int32) : Prop := wp_J5_isLatin1_aae02 (fun v3 => ((v3 = 0 → wj_J5_append_3fe6f_56 post o x1) ∧ (¬ v3 = 0 → False))) o 
def wp_J5_append_3fe6f (post : Off → Prop) (o : Off) (p0 : Int32) : Prop := wp_J5_ensureCapacityInternal_d00df (fun o1 => wp_J5_isLatin1_aae02 (fun v2 => ((v2 = 0 → wj_J5_append_3fe6f_45 post o1 p0) ∧ (¬ v2 = 0 → wp_J1_canEncode_fc78d (fun v5 => ((v5 = 0 → wj_J5_append_3fe6f_45 post o1 p0) ∧ (¬ v5 = 0 → (∀ o6 : Off, o6 = st o1 0 3 ((o1 0 3) + (1 : Int32)) → (vp_in (o1 0 3) 16 ∧ (∀ o7 : Off, o7 = st o6 1 (o1 0 3).toNatClampNeg (vp_nar .byte ((p0).toInt8.toInt32)) → post o7)))))) p0))) o1 ) o ((o 0 3) + (1 : Int32))
set_option maxRecDepth 100000 in
set_option maxHeartbeats 4000000 in
theorem jn_J5_append_3fe6f_56 {x : gX} {l : Launch} {g : gE} {a : Nat → Nat} {o0 : Off} {post : Off → Prop} (hC : gC x l cJ5_append_3fe6f 2 RJ5 g 1 22 0 0) (hZ : gZ x g (some (.object "java/lang/AbstractStringBuilder")) (sbW g a o0) (pA (sbW g a) (a 0) post) 0 0) : ∀ (o : Off) (x1 : Int32) , wj_J5_append_3fe6f_56 post o x1 → G x g 2 0 0 (sbW g a o) 56 [(0, .ref (a 0)), (1, .int x1)] [] := by
  intro o x1 h
  rw [wj_J5_append_3fe6f_56] at h
  exact h.elim
set_option maxRecDepth 100000 in
set_option maxHeartbeats 4000000 in
theorem jn_J5_append_3fe6f_45 {x : gX} {l : Launch} {g : gE} {a : Nat → Nat} {o0 : Off} {post : Off → Prop} (hC : gC x l cJ5_append_3fe6f 2 RJ5 g 1 22 0 0) (hZ : gZ x g (some (.object "java/lang/AbstractStringBuilder")) (sbW g a o0) (pA (sbW g a) (a 0) post) 0 0) : ∀ (o : Off) (x1 : Int32) , wj_J5_append_3fe6f_45 post o x1 → G x g 2 0 0 (sbW g a o) 45 [(0, .ref (a 0)), (1, .int x1)] [] := by
  intro o x1 h
  rw [wj_J5_append_3fe6f_45] at h
  refine g_aload_n hC dJ5_append_3fe6f_45 46 rfl rfl 0 rfl ?_
  refine v_read (pre := []) (suf := []) (by simp only [List.nil_append, List.append_nil]) (g_callU hC (ct_J5_isLatin1_aae02 l g a o  _ h) gYu_J5_isLatin1_aae02 sel_J5_isLatin1_aae02 dJ5_append_3fe6f_46 49 rfl ml_J5_83 [] [] (by simp only [List.nil_append, List.append_nil]) [] rfl rfl rfl 0 1 rfl rfl ⟨Nat.le_of_ble_eq_true rfl, Nat.le_of_ble_eq_true rfl⟩ (Nat.le_of_ble_eq_true rfl) ⟨Nat.le_refl _, Nat.le_refl _⟩) (fun v3 h => ?_)
  refine g_if_eq hC dJ5_append_3fe6f_49 56 (by decide) 52 rfl (fun c => ?_) (fun c => ?_)
  · have h := h.1 c
    exact jn_J5_append_3fe6f_56 hC hZ o x1 h
  · have h := h.2 c
    exact h.elim
set_option maxRecDepth 100000 in
set_option maxHeartbeats 4000000 in
theorem ct_J5_append_3fe6f (l : Launch) (g : gE) (a : Nat → Nat) (o : Off) (p0 : Int32) (post : Off → Prop) (h : wp_J5_append_3fe6f post o p0) : Fn l g yJ5_append_3fe6f cJ5_append_3fe6f 2 (some (.object "java/lang/AbstractStringBuilder")) 1 22 0 0 (sbW g a o) [.ref (a 0), .int p0] (pA (sbW g a) (a 0) post) := by
  refine Fn.of (by decide) (Nat.le_of_ble_eq_true rfl) (fun x hC hZ => ?_)
  rw [wp_J5_append_3fe6f] at h
  show G x g 2 0 0 (sbW g a o) 0 [(0, .ref (a 0)), (1, .int p0)] []
  refine g_aload_n hC dJ5_append_3fe6f_0 1 rfl rfl 0 rfl ?_
  refine g_aload_n hC dJ5_append_3fe6f_1 2 rfl rfl 0 rfl ?_
  refine g_get hC fl_J5_79 dJ5_append_3fe6f_2 5 rfl 0 rfl rfl ?_
  refine g_iconst hC (1 : Int32) dJ5_append_3fe6f_5 6 rfl iconst_1 ?_
  refine g_iadd hC dJ5_append_3fe6f_6 7 rfl ?_
  refine v_ownV (g_callU hC (ct_J5_ensureCapacityInternal_d00df l g a o ((o 0 3) + (1 : Int32)) _ h) gYu_J5_ensureCapacityInternal_d00df sel_J5_ensureCapacityInternal_d00df dJ5_append_3fe6f_7 10 rfl ml_J5_100 [] [] (by simp only [List.nil_append, List.append_nil]) [] rfl rfl rfl 0 1 rfl rfl ⟨Nat.le_of_ble_eq_true rfl, Nat.le_of_ble_eq_true rfl⟩ (Nat.le_of_ble_eq_true rfl) ⟨Nat.le_refl _, Nat.le_refl _⟩) (fun o1 h => ?_)
  refine g_aload_n hC dJ5_append_3fe6f_10 11 rfl rfl 0 rfl ?_
  refine v_read (pre := []) (suf := []) (by simp only [List.nil_append, List.append_nil]) (g_callU hC (ct_J5_isLatin1_aae02 l g a o1  _ h) gYu_J5_isLatin1_aae02 sel_J5_isLatin1_aae02 dJ5_append_3fe6f_11 14 rfl ml_J5_83 [] [] (by simp only [List.nil_append, List.append_nil]) [] rfl rfl rfl 0 1 rfl rfl ⟨Nat.le_of_ble_eq_true rfl, Nat.le_of_ble_eq_true rfl⟩ (Nat.le_of_ble_eq_true rfl) ⟨Nat.le_refl _, Nat.le_refl _⟩) (fun v2 h => ?_)
  refine g_if_eq hC dJ5_append_3fe6f_14 45 (by decide) 17 rfl (fun c => ?_) (fun c => ?_)
  · have h := h.1 c
    exact jn_J5_append_3fe6f_45 hC hZ o1 p0 h
  · have h := h.2 c
    refine g_iload_n hC dJ5_append_3fe6f_17 18 rfl rfl 1 rfl ?_
    refine g_readS hC (ct_J1_canEncode_fc78d l g p0 _ h) gY_J1_canEncode_fc78d dJ5_append_3fe6f_18 21 rfl ml_J5_191 [] _ rfl [] rfl rfl ⟨Nat.le_of_ble_eq_true rfl, Nat.le_of_ble_eq_true rfl⟩ (Nat.le_of_ble_eq_true rfl) ⟨Nat.le_refl _, Nat.le_refl _⟩ (fun v5 h => ?_)
    refine g_if_eq hC dJ5_append_3fe6f_21 45 (by decide) 24 rfl (fun c => ?_) (fun c => ?_)
    · have h := h.1 c
      exact jn_J5_append_3fe6f_45 hC hZ o1 p0 h
    · have h := h.2 c
      refine g_aload_n hC dJ5_append_3fe6f_24 25 rfl rfl 0 rfl ?_
      refine g_get hC fl_J5_15 dJ5_append_3fe6f_25 28 rfl 0 rfl rfl ?_
      refine g_aload_n hC dJ5_append_3fe6f_28 29 rfl rfl 0 rfl ?_
      refine g_dup hC dJ5_append_3fe6f_29 30 rfl rfl ?_
      refine g_get hC fl_J5_79 dJ5_append_3fe6f_30 33 rfl 0 rfl rfl ?_
      refine g_dup_x1 hC dJ5_append_3fe6f_33 34 rfl rfl rfl ?_
      refine g_iconst hC (1 : Int32) dJ5_append_3fe6f_34 35 rfl iconst_1 ?_
      refine g_iadd hC dJ5_append_3fe6f_35 36 rfl ?_
      obtain ⟨o6, eo6⟩ : ∃ y : Off, y = st o1 0 3 ((o1 0 3) + (1 : Int32)) := ⟨_, rfl⟩
      have h := h o6 eo6
      refine g_put hC fp_J5_79 dJ5_append_3fe6f_36 39 rfl 0 rfl rfl rfl (Nat.le_of_ble_eq_true rfl) (sbW_p3 eo6) ?_
      refine g_iload_n hC dJ5_append_3fe6f_39 40 rfl rfl 1 rfl ?_
      refine g_i2b hC dJ5_append_3fe6f_40 41 rfl ?_
      obtain ⟨hi, h⟩ := h
      obtain ⟨o7, eo7⟩ : ∃ y : Off, y = st o6 1 (o1 0 3).toNatClampNeg (vp_nar .byte ((p0).toInt8.toInt32)) := ⟨_, rfl⟩
      have h := h o7 eo7
      refine g_bast hC dJ5_append_3fe6f_41 42 rfl 1 rfl hi (sbW_s1 eo7) ?_
      refine g_goto hC dJ5_append_3fe6f_42 75 (by decide) ?_
      refine g_aload_n hC dJ5_append_3fe6f_75 76 rfl rfl 0 rfl ?_
      exact g_aret hC hZ (Or.inl ⟨_, rfl⟩) dJ5_append_3fe6f_76 ⟨_, rfl, rfl, h⟩
def wj_J5_append_c97b9_48 (post : Off → Prop) (o : Off) (x3 : Int32) : Prop := (∀ o8 : Off, o8 = st o 0 3 x3 → post o8)
def wp_J5_append_c97b9 (post : Off → Prop) (o : Off) (p0 : Int32) : Prop := (∀ v1 : Int32, v1 = (o 0 3) → wp_J6_stringSize_0f7a4 (fun v2 => (∀ v3 : Int32, v3 = (v1 + v2) → wp_J5_ensureCapacityInternal_d00df (fun o4 => wp_J5_isLatin1_aae02 (fun v5 => ((v5 = 0 → False) ∧ (¬ v5 = 0 → wp_J6_getChars_ba4f3 (fun v7 o6 => wj_J5_append_c97b9_48 post o6 v3) o4 p0 v3))) o4 ) o v3)) p0)
set_option maxRecDepth 100000 in
set_option maxHeartbeats 4000000 in
theorem jn_J5_append_c97b9_48 {x : gX} {l : Launch} {g : gE} {a : Nat → Nat} {o0 : Off} {post : Off → Prop} (hC : gC x l cJ5_append_c97b9 4 RJ5 g 1 26 0 0) (hZ : gZ x g (some (.object "java/lang/AbstractStringBuilder")) (sbW g a o0) (pA (sbW g a) (a 0) post) 0 0) : ∀ (o : Off) (x3 : Int32) , wj_J5_append_c97b9_48 post o x3 → G x g 4 0 0 (sbW g a o) 48 [(0, .ref (a 0)), (3, .int x3)] [] := by
  intro o x3 h
  rw [wj_J5_append_c97b9_48] at h
  refine g_aload_n hC dJ5_append_c97b9_48 49 rfl rfl 0 rfl ?_
  refine g_iload_n hC dJ5_append_c97b9_49 50 rfl rfl 1 rfl ?_
  obtain ⟨o8, eo8⟩ : ∃ y : Off, y = st o 0 3 x3 := ⟨_, rfl⟩
  have h := h o8 eo8
  refine g_put hC fp_J5_79 dJ5_append_c97b9_50 53 rfl 0 rfl rfl rfl (Nat.le_of_ble_eq_true rfl) (sbW_p3 eo8) ?_
  refine g_aload_n hC dJ5_append_c97b9_53 54 rfl rfl 0 rfl ?_
  exact g_aret hC hZ (Or.inl ⟨_, rfl⟩) dJ5_append_c97b9_54 ⟨_, rfl, rfl, h⟩
set_option maxRecDepth 100000 in
set_option maxHeartbeats 4000000 in
theorem ct_J5_append_c97b9 (l : Launch) (g : gE) (a : Nat → Nat) (o : Off) (p0 : Int32) (post : Off → Prop) (h : wp_J5_append_c97b9 post o p0) : Fn l g yJ5_append_c97b9 cJ5_append_c97b9 4 (some (.object "java/lang/AbstractStringBuilder")) 1 26 0 0 (sbW g a o) [.ref (a 0), .int p0] (pA (sbW g a) (a 0) post) := by
  refine Fn.of (by decide) (Nat.le_of_ble_eq_true rfl) (fun x hC hZ => ?_)
  rw [wp_J5_append_c97b9] at h
  show G x g 4 0 0 (sbW g a o) 0 [(0, .ref (a 0)), (1, .int p0)] []
  refine g_aload_n hC dJ5_append_c97b9_0 1 rfl rfl 0 rfl ?_
  refine g_get hC fl_J5_79 dJ5_append_c97b9_1 4 rfl 0 rfl rfl ?_
  refine g_topi (fun v1 ev1 => ?_)
  have h := h v1 ev1
  refine g_istore_n (lv2 := [(2, .int v1), (0, .ref (a 0)), (1, .int p0)]) hC dJ5_append_c97b9_4 5 rfl rfl (by decide) rfl ?_
  refine g_iload_n hC dJ5_append_c97b9_5 6 rfl rfl 0 rfl ?_
  refine g_iload_n hC dJ5_append_c97b9_6 7 rfl rfl 2 rfl ?_
  refine g_readS hC (ct_J6_stringSize_0f7a4 l g p0 _ h) gY_J6_stringSize_0f7a4 dJ5_append_c97b9_7 10 rfl ml_J5_245 [] _ rfl [.int v1] rfl rfl ⟨Nat.le_of_ble_eq_true rfl, Nat.le_of_ble_eq_true rfl⟩ (Nat.le_of_ble_eq_true rfl) ⟨Nat.le_refl _, Nat.le_refl _⟩ (fun v2 h => ?_)
  refine g_iadd hC dJ5_append_c97b9_10 11 rfl ?_
  refine g_topi (fun v3 ev3 => ?_)
  have h := h v3 ev3
  refine g_istore_n (lv2 := [(3, .int v3), (2, .int v1), (0, .ref (a 0)), (1, .int p0)]) hC dJ5_append_c97b9_11 12 rfl rfl (by decide) rfl ?_
  refine g_aload_n hC dJ5_append_c97b9_12 13 rfl rfl 2 rfl ?_
  refine g_iload_n hC dJ5_append_c97b9_13 14 rfl rfl 0 rfl ?_
  refine v_ownV (g_callU hC (ct_J5_ensureCapacityInternal_d00df l g a o v3 _ h) gYu_J5_ensureCapacityInternal_d00df sel_J5_ensureCapacityInternal_d00df dJ5_append_c97b9_14 17 rfl ml_J5_100 [] [] (by simp only [List.nil_append, List.append_nil]) [] rfl rfl rfl 0 1 rfl rfl ⟨Nat.le_of_ble_eq_true rfl, Nat.le_of_ble_eq_true rfl⟩ (Nat.le_of_ble_eq_true rfl) ⟨Nat.le_refl _, Nat.le_refl _⟩) (fun o4 h => ?_)
  refine g_aload_n hC dJ5_append_c97b9_17 18 rfl rfl 2 rfl ?_
  refine v_read (pre := []) (suf := []) (by simp only [List.nil_append, List.append_nil]) (g_callU hC (ct_J5_isLatin1_aae02 l g a o4  _ h) gYu_J5_isLatin1_aae02 sel_J5_isLatin1_aae02 dJ5_append_c97b9_18 21 rfl ml_J5_83 [] [] (by simp only [List.nil_append, List.append_nil]) [] rfl rfl rfl 0 1 rfl rfl ⟨Nat.le_of_ble_eq_true rfl, Nat.le_of_ble_eq_true rfl⟩ (Nat.le_of_ble_eq_true rfl) ⟨Nat.le_refl _, Nat.le_refl _⟩) (fun v5 h => ?_)
  refine g_if_eq hC dJ5_append_c97b9_21 37 (by decide) 24 rfl (fun c => ?_) (fun c => ?_)
  · have h := h.1 c
    exact h.elim
  · have h := h.2 c
    refine g_iload_n hC dJ5_append_c97b9_24 25 rfl rfl 3 rfl ?_
    refine g_iload_n hC dJ5_append_c97b9_25 26 rfl rfl 0 rfl ?_
    refine g_aload_n hC dJ5_append_c97b9_26 27 rfl rfl 2 rfl ?_
    refine g_get hC fl_J5_15 dJ5_append_c97b9_27 30 rfl 0 rfl rfl ?_
    refine v_ownI (g_callS hC (ct_J6_getChars_ba4f3 l g a o4 p0 v3 _ h) gY_J6_getChars_ba4f3 dJ5_append_c97b9_30 33 rfl ml_J5_248 [] [] (by simp only [List.nil_append, List.append_nil]) [] rfl rfl ⟨Nat.le_of_ble_eq_true rfl, Nat.le_of_ble_eq_true rfl⟩ (Nat.le_of_ble_eq_true rfl) ⟨Nat.le_refl _, Nat.le_refl _⟩) (fun v7 o6 h => ?_)
    refine g_pop hC dJ5_append_c97b9_33 34 rfl rfl ?_
    refine g_goto hC dJ5_append_c97b9_34 48 (by decide) ?_
    refine g_lv (lv2 := [(0, .ref (a 0)), (3, .int v3)]) [2, 0] rfl ?_
    exact jn_J5_append_c97b9_48 hC hZ o6 v3 h
def wj_J5_setLength_d00df_76 (post : Off → Prop) (o : Off) (x1 : Int32) : Prop := (∀ o2 : Off, o2 = st o 0 3 x1 → post o2)
def wp_J5_setLength_d00df (post : Off → Prop) (o : Off) (p0 : Int32) : Prop := ((0 ≤ p0 → wp_J5_ensureCapacityInternal_d00df (fun o1 => ((p0 ≤ (o1 0 3) → (((o1 0 3) ≤ p0 → wj_J5_setLength_d00df_76 post o1 p0) ∧ (¬ (o1 0 3) ≤ p0 → (∀ o3 : Off, o3 = st o1 0 2 (1 : Int32) → wj_J5_setLength_d00df_76 post o3 p0)))) ∧ (¬ p0 ≤ (o1 0 3) → wp_J5_isLatin1_aae02 (fun v4 => ((v4 = 0 → False) ∧ (¬ v4 = 0 → False))) o1 ))) o p0) ∧ (¬ 0 ≤ p0 → False))
set_option maxRecDepth 100000 in
set_option maxHeartbeats 4000000 in
theorem jn_J5_setLength_d00df_76 {x : gX} {l : Launch} {g : gE} {a : Nat → Nat} {o0 : Off} {post : Off → Prop} (hC : gC x l cJ5_setLength_d00df 2 RJ5 g 1 22 0 0) (hZ : gZ x g none (sbW g a o0) (pV (sbW g a) post) 0 0) : ∀ (o : Off) (x1 : Int32) , wj_J5_setLength_d00df_76 post o x1 → G x g 2 0 0 (sbW g a o) 76 [(0, .ref (a 0)), (1, .int x1)] [] := by
  intro o x1 h
  rw [wj_J5_setLength_d00df_76] at h
  refine g_aload_n hC dJ5_setLength_d00df_76 77 rfl rfl 0 rfl ?_
  refine g_iload_n hC dJ5_setLength_d00df_77 78 rfl rfl 1 rfl ?_
  obtain ⟨o2, eo2⟩ : ∃ y : Off, y = st o 0 3 x1 := ⟨_, rfl⟩
  have h := h o2 eo2
  refine g_put hC fp_J5_79 dJ5_setLength_d00df_78 81 rfl 0 rfl rfl rfl (Nat.le_of_ble_eq_true rfl) (sbW_p3 eo2) ?_
  exact g_vret hC hZ dJ5_setLength_d00df_81 ⟨_, rfl, rfl, h⟩
set_option maxRecDepth 100000 in
set_option maxHeartbeats 4000000 in
theorem ct_J5_setLength_d00df (l : Launch) (g : gE) (a : Nat → Nat) (o : Off) (p0 : Int32) (post : Off → Prop) (h : wp_J5_setLength_d00df post o p0) : Fn l g yJ5_setLength_d00df cJ5_setLength_d00df 2 none 1 22 0 0 (sbW g a o) [.ref (a 0), .int p0] (pV (sbW g a) post) := by
  refine Fn.of (by decide) (Nat.le_of_ble_eq_true rfl) (fun x hC hZ => ?_)
  rw [wp_J5_setLength_d00df] at h
  show G x g 2 0 0 (sbW g a o) 0 [(0, .ref (a 0)), (1, .int p0)] []
  refine g_iload_n hC dJ5_setLength_d00df_0 1 rfl rfl 1 rfl ?_
  refine g_if_ge hC dJ5_setLength_d00df_1 13 (by decide) 4 rfl (fun c => ?_) (fun c => ?_)
  · have h := h.1 c
    refine g_aload_n hC dJ5_setLength_d00df_13 14 rfl rfl 0 rfl ?_
    refine g_iload_n hC dJ5_setLength_d00df_14 15 rfl rfl 1 rfl ?_
    refine v_ownV (g_callU hC (ct_J5_ensureCapacityInternal_d00df l g a o p0 _ h) gYu_J5_ensureCapacityInternal_d00df sel_J5_ensureCapacityInternal_d00df dJ5_setLength_d00df_15 18 rfl ml_J5_100 [] [] (by simp only [List.nil_append, List.append_nil]) [] rfl rfl rfl 0 1 rfl rfl ⟨Nat.le_of_ble_eq_true rfl, Nat.le_of_ble_eq_true rfl⟩ (Nat.le_of_ble_eq_true rfl) ⟨Nat.le_refl _, Nat.le_refl _⟩) (fun o1 h => ?_)
    refine g_aload_n hC dJ5_setLength_d00df_18 19 rfl rfl 0 rfl ?_
    refine g_get hC fl_J5_79 dJ5_setLength_d00df_19 22 rfl 0 rfl rfl ?_
    refine g_iload_n hC dJ5_setLength_d00df_22 23 rfl rfl 1 rfl ?_
    refine g_icmp_ge hC dJ5_setLength_d00df_23 63 (by decide) 26 rfl (fun c => ?_) (fun c => ?_)
    · have h := h.1 c
      refine g_aload_n hC dJ5_setLength_d00df_63 64 rfl rfl 0 rfl ?_
      refine g_get hC fl_J5_79 dJ5_setLength_d00df_64 67 rfl 0 rfl rfl ?_
      refine g_iload_n hC dJ5_setLength_d00df_67 68 rfl rfl 1 rfl ?_
      refine g_icmp_le hC dJ5_setLength_d00df_68 76 (by decide) 71 rfl (fun c => ?_) (fun c => ?_)
      · have h := h.1 c
        exact jn_J5_setLength_d00df_76 hC hZ o1 p0 h
      · have h := h.2 c
        refine g_aload_n hC dJ5_setLength_d00df_71 72 rfl rfl 0 rfl ?_
        refine g_iconst hC (1 : Int32) dJ5_setLength_d00df_72 73 rfl iconst_1 ?_
        obtain ⟨o3, eo3⟩ : ∃ y : Off, y = st o1 0 2 (1 : Int32) := ⟨_, rfl⟩
        have h := h o3 eo3
        refine g_put hC fp_J5_73 dJ5_setLength_d00df_73 76 rfl 0 rfl rfl rfl (Nat.le_of_ble_eq_true rfl) (sbW_p2 eo3) ?_
        exact jn_J5_setLength_d00df_76 hC hZ o3 p0 h
    · have h := h.2 c
      refine g_aload_n hC dJ5_setLength_d00df_26 27 rfl rfl 0 rfl ?_
      refine v_read (pre := []) (suf := []) (by simp only [List.nil_append, List.append_nil]) (g_callU hC (ct_J5_isLatin1_aae02 l g a o1  _ h) gYu_J5_isLatin1_aae02 sel_J5_isLatin1_aae02 dJ5_setLength_d00df_27 30 rfl ml_J5_83 [] [] (by simp only [List.nil_append, List.append_nil]) [] rfl rfl rfl 0 1 rfl rfl ⟨Nat.le_of_ble_eq_true rfl, Nat.le_of_ble_eq_true rfl⟩ (Nat.le_of_ble_eq_true rfl) ⟨Nat.le_refl _, Nat.le_refl _⟩) (fun v4 h => ?_)
      refine g_if_eq hC dJ5_setLength_d00df_30 48 (by decide) 33 rfl (fun c => ?_) (fun c => ?_)
      · have h := h.1 c
        exact h.elim
      · have h := h.2 c
        exact h.elim
  · have h := h.2 c
    exact h.elim
def wp_J5_charAt_5068e (post : Int32 → Prop) (o : Off) (p0 : Int32) : Prop := (∀ v1 : Int32, v1 = (o 0 1) → (∀ v2 : Int32, v2 = (if ((16 : Int32) >>> (v1 &&& 31)) < (o 0 3) then ((16 : Int32) >>> (v1 &&& 31)) else (o 0 3)) → (¬ p0 < 0 ∧ p0 < v2 ∧ ((¬ v1 = 0 → False) ∧ (v1 = 0 → (vp_in p0 16 ∧ (isC (((((o 1 p0.toNatClampNeg) &&& (255 : Int32))).toUInt32 % 65536).toInt32) ∧ post (((((o 1 p0.toNatClampNeg) &&& (255 : Int32))).toUInt32 % 65536).toInt32))))))))
set_option maxRecDepth 100000 in
set_option maxHeartbeats 4000000 in
theorem ct_J5_charAt_5068e (l : Launch) (g : gE) (a : Nat → Nat) (o : Off) (p0 : Int32) (post : Int32 → Prop) (h : wp_J5_charAt_5068e post o p0) : Fn l g yJ5_charAt_5068e cJ5_charAt_5068e 5 (some .char) 2 43 0 0 (sbW g a o) [.ref (a 0), .int p0] (pR (sbW g a o) post) := by
  refine Fn.of (by decide) (Nat.le_of_ble_eq_true rfl) (fun x hC hZ => ?_)
  rw [wp_J5_charAt_5068e] at h
  show G x g 5 0 0 (sbW g a o) 0 [(0, .ref (a 0)), (1, .int p0)] []
  refine g_aload_n hC dJ5_charAt_5068e_0 1 rfl rfl 0 rfl ?_
  refine g_get hC fl_J5_22 dJ5_charAt_5068e_1 4 rfl 0 rfl rfl ?_
  refine g_topi (fun v1 ev1 => ?_)
  have h := h v1 ev1
  refine g_istore_n (lv2 := [(2, .int v1), (0, .ref (a 0)), (1, .int p0)]) hC dJ5_charAt_5068e_4 5 rfl rfl (by decide) rfl ?_
  refine g_aload_n hC dJ5_charAt_5068e_5 6 rfl rfl 1 rfl ?_
  refine g_get hC fl_J5_15 dJ5_charAt_5068e_6 9 rfl 0 rfl rfl ?_
  refine g_astore_n (lv2 := [(3, .ref (a 1)), (2, .int v1), (0, .ref (a 0)), (1, .int p0)]) hC dJ5_charAt_5068e_9 10 rfl rfl (by decide) rfl ?_
  refine g_aload_n hC dJ5_charAt_5068e_10 11 rfl rfl 2 rfl ?_
  refine g_get hC fl_J5_79 dJ5_charAt_5068e_11 14 rfl 0 rfl rfl ?_
  refine g_aload_n hC dJ5_charAt_5068e_14 15 rfl rfl 0 rfl ?_
  refine g_alen (v := (16 : Int32)) hC dJ5_charAt_5068e_15 16 rfl 1 2 rfl rfl rfl ?_
  refine g_iload_n hC dJ5_charAt_5068e_16 17 rfl rfl 1 rfl ?_
  refine g_ishr hC dJ5_charAt_5068e_17 18 rfl ?_
  refine g_mmin hC dJ5_charAt_5068e_18 21 rfl mth_J5_138 mth_min.1 mth_min.2.1 mth_min.2.2 ⟨Nat.le_of_ble_eq_true rfl, Nat.le_of_ble_eq_true rfl, Nat.le_refl _, Nat.le_refl _⟩ (Nat.le_of_ble_eq_true rfl) ?_
  refine g_topi (fun v2 ev2 => ?_)
  have h := h v2 ev2
  refine g_istore (lv2 := [(4, .int v2), (3, .ref (a 1)), (2, .int v1), (0, .ref (a 0)), (1, .int p0)]) hC dJ5_charAt_5068e_21 23 rfl (by decide) rfl ?_
  refine g_iload_n hC dJ5_charAt_5068e_23 24 rfl rfl 4 rfl ?_
  refine g_iload hC dJ5_charAt_5068e_24 26 rfl 0 rfl ?_
  obtain ⟨h8, h9, h⟩ := h
  refine g_nopS hC (ct_J0_checkIndex l g p0 v2 h8 h9) gY_J0_checkIndex_df160 dJ5_charAt_5068e_26 29 rfl ml_J5_144 [] rfl rfl ⟨Nat.le_of_ble_eq_true rfl, Nat.le_of_ble_eq_true rfl⟩ (Nat.le_of_ble_eq_true rfl) ⟨Nat.le_refl _, Nat.le_refl _⟩ ?_
  refine g_iload_n hC dJ5_charAt_5068e_29 30 rfl rfl 2 rfl ?_
  refine g_if_ne hC dJ5_charAt_5068e_30 42 (by decide) 33 rfl (fun c => ?_) (fun c => ?_)
  · have h := h.1 c
    exact h.elim
  · have h := h.2 c
    refine g_aload_n hC dJ5_charAt_5068e_33 34 rfl rfl 1 rfl ?_
    refine g_iload_n hC dJ5_charAt_5068e_34 35 rfl rfl 4 rfl ?_
    obtain ⟨hi, h⟩ := h
    refine g_bald hC dJ5_charAt_5068e_35 36 rfl 1 rfl hi ?_
    refine g_sipush hC (255 : Int32) dJ5_charAt_5068e_36 39 rfl sipush_255 ?_
    refine g_iand hC dJ5_charAt_5068e_39 40 rfl ?_
    refine g_i2c hC dJ5_charAt_5068e_40 41 rfl ?_
    obtain ⟨hb, h⟩ := h
    exact g_zret hC hZ (hb) dJ5_charAt_5068e_41 ⟨_, rfl, rfl, h⟩
def wp_J4_append_cf468 (post : Off → Prop) (o : Off) (p0 : Int32) : Prop := wp_J5_append_3fe6f (fun o1 => post o1) o p0
set_option maxRecDepth 100000 in
set_option maxHeartbeats 4000000 in
theorem ct_J4_append_cf468 (l : Launch) (g : gE) (a : Nat → Nat) (o : Off) (p0 : Int32) (post : Off → Prop) (h : wp_J4_append_cf468 post o p0) : Fn l g yJ4_append_cf468 cJ4_append_cf468 2 (some (.object "java/lang/StringBuilder")) 2 43 0 0 (sbW g a o) [.ref (a 0), .int p0] (pA (sbW g a) (a 0) post) := by
  refine Fn.of (by decide) (Nat.le_of_ble_eq_true rfl) (fun x hC hZ => ?_)
  rw [wp_J4_append_cf468] at h
  show G x g 2 0 0 (sbW g a o) 0 [(0, .ref (a 0)), (1, .int p0)] []
  refine g_aload_n hC dJ4_append_cf468_0 1 rfl rfl 0 rfl ?_
  refine g_iload_n hC dJ4_append_cf468_1 2 rfl rfl 1 rfl ?_
  refine v_ownA (g_callSU hC sup_J4 rfl (ct_J5_append_3fe6f l g a o p0 _ h) gYu_J5_append_3fe6f (by decide) dJ4_append_cf468_2 5 rfl ml_J4_50 [] [] (by simp only [List.nil_append, List.append_nil]) [] rfl rfl rfl 0 1 rfl rfl ⟨Nat.le_of_ble_eq_true rfl, Nat.le_of_ble_eq_true rfl⟩ (Nat.le_of_ble_eq_true rfl) ⟨Nat.le_refl _, Nat.le_refl _⟩) (fun o1 h => ?_)
  refine g_pop hC dJ4_append_cf468_5 6 rfl rfl ?_
  refine g_aload_n hC dJ4_append_cf468_6 7 rfl rfl 0 rfl ?_
  exact g_aret hC hZ (Or.inl ⟨_, rfl⟩) dJ4_append_cf468_7 ⟨_, rfl, rfl, h⟩
def wp_J4_append_bf812 (post : Off → Prop) (o : Off) (p0 : Int32) : Prop := wp_J5_append_c97b9 (fun o1 => post o1) o p0
set_option maxRecDepth 100000 in
set_option maxHeartbeats 4000000 in
theorem ct_J4_append_bf812 (l : Launch) (g : gE) (a : Nat → Nat) (o : Off) (p0 : Int32) (post : Off → Prop) (h : wp_J4_append_bf812 post o p0) : Fn l g yJ4_append_bf812 cJ4_append_bf812 2 (some (.object "java/lang/StringBuilder")) 2 49 0 0 (sbW g a o) [.ref (a 0), .int p0] (pA (sbW g a) (a 0) post) := by
  refine Fn.of (by decide) (Nat.le_of_ble_eq_true rfl) (fun x hC hZ => ?_)
  rw [wp_J4_append_bf812] at h
  show G x g 2 0 0 (sbW g a o) 0 [(0, .ref (a 0)), (1, .int p0)] []
  refine g_aload_n hC dJ4_append_bf812_0 1 rfl rfl 0 rfl ?_
  refine g_iload_n hC dJ4_append_bf812_1 2 rfl rfl 1 rfl ?_
  refine v_ownA (g_callSU hC sup_J4 rfl (ct_J5_append_c97b9 l g a o p0 _ h) gYu_J5_append_c97b9 (by decide) dJ4_append_bf812_2 5 rfl ml_J4_53 [] [] (by simp only [List.nil_append, List.append_nil]) [] rfl rfl rfl 0 1 rfl rfl ⟨Nat.le_of_ble_eq_true rfl, Nat.le_of_ble_eq_true rfl⟩ (Nat.le_of_ble_eq_true rfl) ⟨Nat.le_refl _, Nat.le_refl _⟩) (fun o1 h => ?_)
  refine g_pop hC dJ4_append_bf812_5 6 rfl rfl ?_
  refine g_aload_n hC dJ4_append_bf812_6 7 rfl rfl 0 rfl ?_
  exact g_aret hC hZ (Or.inl ⟨_, rfl⟩) dJ4_append_bf812_7 ⟨_, rfl, rfl, h⟩
def wp_J4_setLength_d00df (post : Off → Prop) (o : Off) (p0 : Int32) : Prop := wp_J5_setLength_d00df (fun o1 => post o1) o p0
set_option maxRecDepth 100000 in
set_option maxHeartbeats 4000000 in
theorem ct_J4_setLength_d00df (l : Launch) (g : gE) (a : Nat → Nat) (o : Off) (p0 : Int32) (post : Off → Prop) (h : wp_J4_setLength_d00df post o p0) : Fn l g yJ4_setLength_d00df cJ4_setLength_d00df 2 none 2 43 0 0 (sbW g a o) [.ref (a 0), .int p0] (pV (sbW g a) post) := by
  refine Fn.of (by decide) (Nat.le_of_ble_eq_true rfl) (fun x hC hZ => ?_)
  rw [wp_J4_setLength_d00df] at h
  show G x g 2 0 0 (sbW g a o) 0 [(0, .ref (a 0)), (1, .int p0)] []
  refine g_aload_n hC dJ4_setLength_d00df_0 1 rfl rfl 0 rfl ?_
  refine g_iload_n hC dJ4_setLength_d00df_1 2 rfl rfl 1 rfl ?_
  refine v_ownV (g_callSU hC sup_J4 rfl (ct_J5_setLength_d00df l g a o p0 _ h) gYu_J5_setLength_d00df (by decide) dJ4_setLength_d00df_2 5 rfl ml_J4_333 [] [] (by simp only [List.nil_append, List.append_nil]) [] rfl rfl rfl 0 1 rfl rfl ⟨Nat.le_of_ble_eq_true rfl, Nat.le_of_ble_eq_true rfl⟩ (Nat.le_of_ble_eq_true rfl) ⟨Nat.le_refl _, Nat.le_refl _⟩) (fun o1 h => ?_)
  exact g_vret hC hZ dJ4_setLength_d00df_5 ⟨_, rfl, rfl, h⟩
def wp_J4_length_8abf5 (post : Int32 → Prop) (o : Off) : Prop := wp_J5_length_8abf5 (fun v1 => post v1) o 
set_option maxRecDepth 100000 in
set_option maxHeartbeats 4000000 in
theorem ct_J4_length_8abf5 (l : Launch) (g : gE) (a : Nat → Nat) (o : Off) (post : Int32 → Prop) (h : wp_J4_length_8abf5 post o ) : Fn l g yJ4_length_8abf5 cJ4_length_8abf5 1 (some .int) 1 20 0 0 (sbW g a o) [.ref (a 0)] (pR (sbW g a o) post) := by
  refine Fn.of (by decide) (Nat.le_of_ble_eq_true rfl) (fun x hC hZ => ?_)
  rw [wp_J4_length_8abf5] at h
  show G x g 1 0 0 (sbW g a o) 0 [(0, .ref (a 0))] []
  refine g_aload_n hC dJ4_length_8abf5_0 1 rfl rfl 0 rfl ?_
  refine v_read (pre := []) (suf := []) (by simp only [List.nil_append, List.append_nil]) (g_callSU hC sup_J4 rfl (ct_J5_length_8abf5 l g a o  _ h) gYu_J5_length_8abf5 (by decide) dJ4_length_8abf5_1 4 rfl ml_J4_343 [] [] (by simp only [List.nil_append, List.append_nil]) [] rfl rfl rfl 0 1 rfl rfl ⟨Nat.le_of_ble_eq_true rfl, Nat.le_of_ble_eq_true rfl⟩ (Nat.le_of_ble_eq_true rfl) ⟨Nat.le_refl _, Nat.le_refl _⟩) (fun v1 h => ?_)
  exact g_iret hC hZ dJ4_length_8abf5_4 ⟨_, rfl, rfl, h⟩
def wp_J4_charAt_5068e (post : Int32 → Prop) (o : Off) (p0 : Int32) : Prop := wp_J5_charAt_5068e (fun v1 => (isC v1 ∧ post v1)) o p0
set_option maxRecDepth 100000 in
set_option maxHeartbeats 4000000 in
theorem ct_J4_charAt_5068e (l : Launch) (g : gE) (a : Nat → Nat) (o : Off) (p0 : Int32) (post : Int32 → Prop) (h : wp_J4_charAt_5068e post o p0) : Fn l g yJ4_charAt_5068e cJ4_charAt_5068e 2 (some .char) 3 67 0 0 (sbW g a o) [.ref (a 0), .int p0] (pR (sbW g a o) post) := by
  refine Fn.of (by decide) (Nat.le_of_ble_eq_true rfl) (fun x hC hZ => ?_)
  rw [wp_J4_charAt_5068e] at h
  show G x g 2 0 0 (sbW g a o) 0 [(0, .ref (a 0)), (1, .int p0)] []
  refine g_aload_n hC dJ4_charAt_5068e_0 1 rfl rfl 0 rfl ?_
  refine g_iload_n hC dJ4_charAt_5068e_1 2 rfl rfl 1 rfl ?_
  refine v_read (pre := []) (suf := []) (by simp only [List.nil_append, List.append_nil]) (g_callSU hC sup_J4 rfl (ct_J5_charAt_5068e l g a o p0 _ h) gYu_J5_charAt_5068e (by decide) dJ4_charAt_5068e_2 5 rfl ml_J4_329 [] [] (by simp only [List.nil_append, List.append_nil]) [] rfl rfl rfl 0 1 rfl rfl ⟨Nat.le_of_ble_eq_true rfl, Nat.le_of_ble_eq_true rfl⟩ (Nat.le_of_ble_eq_true rfl) ⟨Nat.le_refl _, Nat.le_refl _⟩) (fun v1 h => ?_)
  obtain ⟨hb, h⟩ := h
  exact g_zret hC hZ (hb) dJ4_charAt_5068e_5 ⟨_, rfl, rfl, h⟩
