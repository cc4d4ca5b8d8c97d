/-! ===== states: rows of numbers; worlds of them ===== -/
abbrev Off : Type := Nat → Nat → Int32
def st (o : Off) (k i : Nat) (v : Int32) : Off := fun j => if j = k then upd (o k) i v else o j
def isB (v : Int32) : Prop := v = 0 ∨ v = 1
def isC (v : Int32) : Prop := narrow .char (.int v) = .int v
theorem isB_n {v : Int32} (h : isB v) : narrow .boolean (.int v) = .int v := by rcases h with rfl | rfl <;> rfl
theorem isB_f {v : Int32} (h : isB v) : fits .boolean (.int v) = true := by rcases h with rfl | rfl <;> rfl
theorem isB_0 : isB 0 := Or.inl rfl
theorem isB_1 : isB 1 := Or.inr rfl
/-- ends: a state read (its world stays), a state written, no state at all -/
def pR (ws : va_W) (post : Int32 → Prop) : Option Value → va_W → Prop := fun r w => ∃ v : Int32, r = some (.int v) ∧ w = ws ∧ post v
def pI {S : Type} (W : S → va_W) (post : Int32 → S → Prop) : Option Value → va_W → Prop := fun r w => ∃ (v : Int32) (s : S), r = some (.int v) ∧ w = W s ∧ post v s
def pV {S : Type} (W : S → va_W) (post : S → Prop) : Option Value → va_W → Prop := fun r w => ∃ s : S, r = none ∧ w = W s ∧ post s
def pD (ws : va_W) (post : UInt64 → Prop) : Option Value → va_W → Prop := fun r w => ∃ v : UInt64, r = some (.double v) ∧ w = ws ∧ post v
def pF (ws : va_W) (post : UInt32 → Prop) : Option Value → va_W → Prop := fun r w => ∃ v : UInt32, r = some (.float v) ∧ w = ws ∧ post v
def pDw {S : Type} (W : S → va_W) (post : UInt64 → S → Prop) : Option Value → va_W → Prop := fun r w => ∃ (v : UInt64) (s : S), r = some (.double v) ∧ w = W s ∧ post v s
def pFw {S : Type} (W : S → va_W) (post : UInt32 → S → Prop) : Option Value → va_W → Prop := fun r w => ∃ (v : UInt32) (s : S), r = some (.float v) ∧ w = W s ∧ post v s
section GCALLS
variable {x : gX} {l : Launch} {cc : ByteArray} {nL : Nat} {own : String} {g : gE} {fr lo mc ms k n pc : Nat} {ws : va_W} {lv : List (Nat × Value)} {st : List Value}
theorem g_readV (hC : gC x l cc nL own g fr lo mc ms) {y : MethodName} {b : ByteArray} {nM fr' lo' np : Nat} {ret : Option FieldType} {wc : va_W} {As As' : List Value} {post : Int32 → Prop} (hF : Fn l g y b nM ret fr' lo' 0 0 wc As' (pR wc post)) (hY : gYv y b nM ret np) {idx : Nat} (hd : decode cc pc = .ok (.invokevirtual idx, 3)) (pc2 : Nat) (e : pc + 3 = pc2) (hl : Cond.methodLink own idx y ∈ lw_all)
    (pre suf : va_W) (hw : ws = pre ++ (wc ++ suf)) {a : Nat} (rest : List Value) (hAs : As' = .ref a :: As) (hst : st = As.reverse ++ .ref a :: rest) (hn : As.length = np) (q0 ci : Nat) {fs : List Value} {T : u_T} {N : Nat} (hci : vwCl[ci]? = some (y.cls, T, N)) (hq0 : wc[q0]? = some (a, .inr (ci, fs)))
    (hR : fr' + 1 ≤ fr ∧ 8 + (nM + 11) + lo' ≤ lo) (hcat : (rest.map fun v => v.category).sum ≤ 8) (hkn : k ≤ mc ∧ n ≤ ms) (kk : ∀ v : Int32, post v → G x g nL k n ws pc2 lv (.int v :: rest)) : G x g nL k n ws pc lv st := by
  refine g_callV hC hF hY hd pc2 e hl pre suf hw rest hAs hst hn q0 ci hci hq0 hR hcat hkn ?_
  rintro r w1 ⟨v, rfl, rfl, hp⟩
  rw [← hw]
  exact kk v hp
theorem g_readS (hC : gC x l cc nL own g fr lo mc ms) {y : MethodName} {b : ByteArray} {nM fr' lo' np : Nat} {ret : Option FieldType} {wc : va_W} {As : List Value} {post : Int32 → Prop} (hF : Fn l g y b nM ret fr' lo' 0 0 wc As (pR wc post)) (hY : gYs y b nM ret np) {idx : Nat} (hd : decode cc pc = .ok (.invokestatic idx, 3)) (pc2 : Nat) (e : pc + 3 = pc2) (hl : Cond.methodLink own idx y ∈ lw_all)
    (pre suf : va_W) (hw : ws = pre ++ (wc ++ suf)) (rest : List Value) (hst : st = As.reverse ++ rest) (hn : As.length = np)
    (hR : fr' + 1 ≤ fr ∧ 8 + (nM + 11) + lo' ≤ lo) (hcat : (rest.map fun v => v.category).sum ≤ 8) (hkn : k ≤ mc ∧ n ≤ ms) (kk : ∀ v : Int32, post v → G x g nL k n ws pc2 lv (.int v :: rest)) : G x g nL k n ws pc lv st := by
  refine g_callS hC hF hY hd pc2 e hl pre suf hw rest hst hn hR hcat hkn ?_
  rintro r w1 ⟨v, rfl, rfl, hp⟩
  rw [← hw]
  exact kk v hp
theorem g_ownI {S : Type} (hC : gC x l cc nL own g fr lo mc ms) {y : MethodName} {b : ByteArray} {nM fr' lo' np : Nat} {ret : Option FieldType} {W : S → va_W} {s : S} {As As' : List Value} {post : Int32 → S → Prop} (hF : Fn l g y b nM ret fr' lo' 0 0 (W s) As' (pI W post)) (hY : gYv y b nM ret np) {idx : Nat} (hd : decode cc pc = .ok (.invokevirtual idx, 3)) (pc2 : Nat) (e : pc + 3 = pc2) (hl : Cond.methodLink own idx y ∈ lw_all)
    {a : Nat} (rest : List Value) (hAs : As' = .ref a :: As) (hst : st = As.reverse ++ .ref a :: rest) (hn : As.length = np) (q0 ci : Nat) {fs : List Value} {T : u_T} {N : Nat} (hci : vwCl[ci]? = some (y.cls, T, N)) (hq0 : (W s)[q0]? = some (a, .inr (ci, fs)))
    (hR : fr' + 1 ≤ fr ∧ 8 + (nM + 11) + lo' ≤ lo) (hcat : (rest.map fun v => v.category).sum ≤ 8) (hkn : k ≤ mc ∧ n ≤ ms) (kk : ∀ (v : Int32) (s' : S), post v s' → G x g nL k n (W s') pc2 lv (.int v :: rest)) : G x g nL k n (W s) pc lv st := by
  refine g_callV hC hF hY hd pc2 e hl [] [] (by rw [List.nil_append, List.append_nil]) rest hAs hst hn q0 ci hci hq0 hR hcat hkn ?_
  rintro r w1 ⟨v, s', rfl, rfl, hp⟩
  rw [List.nil_append, List.append_nil]
  exact kk v s' hp
theorem g_ownV {S : Type} (hC : gC x l cc nL own g fr lo mc ms) {y : MethodName} {b : ByteArray} {nM fr' lo' np : Nat} {ret : Option FieldType} {W : S → va_W} {s : S} {As As' : List Value} {post : S → Prop} (hF : Fn l g y b nM ret fr' lo' 0 0 (W s) As' (pV W post)) (hY : gYv y b nM ret np) {idx : Nat} (hd : decode cc pc = .ok (.invokevirtual idx, 3)) (pc2 : Nat) (e : pc + 3 = pc2) (hl : Cond.methodLink own idx y ∈ lw_all)
    {a : Nat} (rest : List Value) (hAs : As' = .ref a :: As) (hst : st = As.reverse ++ .ref a :: rest) (hn : As.length = np) (q0 ci : Nat) {fs : List Value} {T : u_T} {N : Nat} (hci : vwCl[ci]? = some (y.cls, T, N)) (hq0 : (W s)[q0]? = some (a, .inr (ci, fs)))
    (hR : fr' + 1 ≤ fr ∧ 8 + (nM + 11) + lo' ≤ lo) (hcat : (rest.map fun v => v.category).sum ≤ 8) (hkn : k ≤ mc ∧ n ≤ ms) (kk : ∀ s' : S, post s' → G x g nL k n (W s') pc2 lv rest) : G x g nL k n (W s) pc lv st := by
  refine g_callV hC hF hY hd pc2 e hl [] [] (by rw [List.nil_append, List.append_nil]) rest hAs hst hn q0 ci hci hq0 hR hcat hkn ?_
  rintro r w1 ⟨s', rfl, rfl, hp⟩
  rw [List.nil_append, List.append_nil]
  exact kk s' hp
theorem g_statV {S : Type} (hC : gC x l cc nL own g fr lo mc ms) {y : MethodName} {b : ByteArray} {nM fr' lo' np : Nat} {ret : Option FieldType} {W : S → va_W} {s : S} {As : List Value} {post : S → Prop} (hF : Fn l g y b nM ret fr' lo' 0 0 (W s) As (pV W post)) (hY : gYs y b nM ret np) {idx : Nat} (hd : decode cc pc = .ok (.invokestatic idx, 3)) (pc2 : Nat) (e : pc + 3 = pc2) (hl : Cond.methodLink own idx y ∈ lw_all)
    (rest : List Value) (hst : st = As.reverse ++ rest) (hn : As.length = np)
    (hR : fr' + 1 ≤ fr ∧ 8 + (nM + 11) + lo' ≤ lo) (hcat : (rest.map fun v => v.category).sum ≤ 8) (hkn : k ≤ mc ∧ n ≤ ms) (kk : ∀ s' : S, post s' → G x g nL k n (W s') pc2 lv rest) : G x g nL k n (W s) pc lv st := by
  refine g_callS hC hF hY hd pc2 e hl [] [] (by rw [List.nil_append, List.append_nil]) rest hst hn hR hcat hkn ?_
  rintro r w1 ⟨s', rfl, rfl, hp⟩
  rw [List.nil_append, List.append_nil]
  exact kk s' hp
end GCALLS
theorem lw_inL (ws : List Cond) (ps : List Nat) (e : ws = ps.filterMap (fun i => tables_1[i]?)) (hg : ws.all goodWord = true) : ∀ w ∈ ws, w ∈ lw_all := by
  intro w hw
  have hgw := List.all_eq_true.mp hg w hw
  rw [e] at hw
  obtain ⟨i, -, hi⟩ := List.mem_filterMap.mp hw
  exact lw_inT i hi hgw
def offF (a : Nat → Nat) (o : Off) : List Value := [.int (o 0 0), .int (o 0 1), .int (o 0 2), .int (o 0 3), .int (o 0 4), .ref (a 1), .ref (a 2), .ref (a 3), .ref (a 4), .ref (a 5), .ref (a 6), .ref (a 7), .ref (a 8), .ref (a 9), .ref (a 10), .ref (a 11)]
def offW (g : gE) (a : Nat → Nat) (o : Off) : va_W := [(a 0, .inr (7, offF a o)), (a 1, .inl (g.2.1 0, 14, .inl (o 1))), (a 2, .inl (g.2.1 0, 14, .inl (o 2))), (a 3, .inl (g.2.1 0, 14, .inl (o 3))), (a 4, .inl (g.2.1 0, 14, .inl (o 4))), (a 5, .inl (g.2.1 0, 14, .inl (o 5))), (a 6, .inl (g.2.1 0, 14, .inl (o 6))), (a 7, .inl (g.2.1 0, 14, .inl (o 7))), (a 8, .inl (g.2.1 0, 14, .inl (o 8))), (a 9, .inl (g.2.1 0, 5, .inl (o 9))), (a 10, .inl (g.2.1 0, 5, .inl (o 10))), (a 11, .inl (g.2.1 0, 25, .inl (o 11)))]
theorem offW_p0 {g : gE} {a : Nat → Nat} {o o1 : Off} {v : Int32} (h : o1 = st o 0 0 v) : (offW g a o).set 0 (a 0, .inr (7, (offF a o).set 0 (.int v))) = offW g a o1 := by subst h; rfl
theorem offW_p1 {g : gE} {a : Nat → Nat} {o o1 : Off} {v : Int32} (h : o1 = st o 0 1 v) : (offW g a o).set 0 (a 0, .inr (7, (offF a o).set 1 (.int v))) = offW g a o1 := by subst h; rfl
theorem offW_p2 {g : gE} {a : Nat → Nat} {o o1 : Off} {v : Int32} (h : o1 = st o 0 2 v) : (offW g a o).set 0 (a 0, .inr (7, (offF a o).set 2 (.int v))) = offW g a o1 := by subst h; rfl
theorem offW_p3 {g : gE} {a : Nat → Nat} {o o1 : Off} {v : Int32} (h : o1 = st o 0 3 v) : (offW g a o).set 0 (a 0, .inr (7, (offF a o).set 3 (.int v))) = offW g a o1 := by subst h; rfl
theorem offW_p4 {g : gE} {a : Nat → Nat} {o o1 : Off} {v : Int32} (h : o1 = st o 0 4 v) : (offW g a o).set 0 (a 0, .inr (7, (offF a o).set 4 (.int v))) = offW g a o1 := by subst h; rfl
theorem offW_s1 {g : gE} {a : Nat → Nat} {o o1 : Off} {i : Nat} {v : Int32} (h : o1 = st o 1 i v) : (offW g a o).set 1 (a 1, .inl (g.2.1 0, 14, .inl (upd (o 1) i v))) = offW g a o1 := by subst h; rfl
theorem offW_s2 {g : gE} {a : Nat → Nat} {o o1 : Off} {i : Nat} {v : Int32} (h : o1 = st o 2 i v) : (offW g a o).set 2 (a 2, .inl (g.2.1 0, 14, .inl (upd (o 2) i v))) = offW g a o1 := by subst h; rfl
theorem offW_s3 {g : gE} {a : Nat → Nat} {o o1 : Off} {i : Nat} {v : Int32} (h : o1 = st o 3 i v) : (offW g a o).set 3 (a 3, .inl (g.2.1 0, 14, .inl (upd (o 3) i v))) = offW g a o1 := by subst h; rfl
theorem offW_s4 {g : gE} {a : Nat → Nat} {o o1 : Off} {i : Nat} {v : Int32} (h : o1 = st o 4 i v) : (offW g a o).set 4 (a 4, .inl (g.2.1 0, 14, .inl (upd (o 4) i v))) = offW g a o1 := by subst h; rfl
theorem offW_s5 {g : gE} {a : Nat → Nat} {o o1 : Off} {i : Nat} {v : Int32} (h : o1 = st o 5 i v) : (offW g a o).set 5 (a 5, .inl (g.2.1 0, 14, .inl (upd (o 5) i v))) = offW g a o1 := by subst h; rfl
theorem offW_s6 {g : gE} {a : Nat → Nat} {o o1 : Off} {i : Nat} {v : Int32} (h : o1 = st o 6 i v) : (offW g a o).set 6 (a 6, .inl (g.2.1 0, 14, .inl (upd (o 6) i v))) = offW g a o1 := by subst h; rfl
theorem offW_s7 {g : gE} {a : Nat → Nat} {o o1 : Off} {i : Nat} {v : Int32} (h : o1 = st o 7 i v) : (offW g a o).set 7 (a 7, .inl (g.2.1 0, 14, .inl (upd (o 7) i v))) = offW g a o1 := by subst h; rfl
theorem offW_s8 {g : gE} {a : Nat → Nat} {o o1 : Off} {i : Nat} {v : Int32} (h : o1 = st o 8 i v) : (offW g a o).set 8 (a 8, .inl (g.2.1 0, 14, .inl (upd (o 8) i v))) = offW g a o1 := by subst h; rfl
theorem offW_s9 {g : gE} {a : Nat → Nat} {o o1 : Off} {i : Nat} {v : Int32} (h : o1 = st o 9 i v) : (offW g a o).set 9 (a 9, .inl (g.2.1 0, 5, .inl (upd (o 9) i v))) = offW g a o1 := by subst h; rfl
theorem offW_s10 {g : gE} {a : Nat → Nat} {o o1 : Off} {i : Nat} {v : Int32} (h : o1 = st o 10 i v) : (offW g a o).set 10 (a 10, .inl (g.2.1 0, 5, .inl (upd (o 10) i v))) = offW g a o1 := by subst h; rfl
theorem offW_s11 {g : gE} {a : Nat → Nat} {o o1 : Off} {i : Nat} {v : Int32} (h : o1 = st o 11 i v) : (offW g a o).set 11 (a 11, .inl (g.2.1 0, 25, .inl (upd (o 11) i v))) = offW g a o1 := by subst h; rfl
theorem uw_X3 : ∀ w ∈ u_ws RX3 TX3 16, w ∈ lw_all := lw_inL _ [88, 90, 92, 94, 96, 98, 100, 102, 104, 106, 108, 110, 112, 114, 116, 118] (by decide +kernel) (by decide +kernel)
def modF (a : Nat → Nat) (o : Off) : List Value := [.ref (a 1), .ref (a 2), .ref (a 3), .ref (a 4), .ref (a 5), .int (o 0 5), .int (o 0 6), .int (o 0 7), .int (o 0 8), .int (o 0 9), .int (o 0 10), .int (o 0 11), .int (o 0 12), .int (o 0 13), .ref (a 6), .int (o 0 15), .ref (a 7), .ref (a 8), .ref (a 9), .int (o 0 19), .int (o 0 20), .int (o 0 21), .int (o 0 22), .int (o 0 23)]
def modW (g : gE) (a : Nat → Nat) (o : Off) : va_W := [(a 0, .inr (9, modF a o)), (a 1, .inl (g.2.1 0, 160, .inl (o 1))), (a 2, .inl (g.2.1 0, 160, .inl (o 2))), (a 3, .inl (g.2.1 0, 160, .inl (o 3))), (a 4, .inl (g.2.1 0, 160, .inl (o 4))), (a 5, .inl (g.2.1 0, 1280, .inl (o 5))), (a 6, .inl (g.2.1 0, 40, .inl (o 6))), (a 7, .inl (g.2.1 0, 60, .inl (o 7))), (a 8, .inl (g.2.1 0, 32, .inl (o 8))), (a 9, .inl (g.2.1 0, 96, .inl (o 9)))]
theorem modW_p5 {g : gE} {a : Nat → Nat} {o o1 : Off} {v : Int32} (h : o1 = st o 0 5 v) : (modW g a o).set 0 (a 0, .inr (9, (modF a o).set 5 (.int v))) = modW g a o1 := by subst h; rfl
theorem modW_p6 {g : gE} {a : Nat → Nat} {o o1 : Off} {v : Int32} (h : o1 = st o 0 6 v) : (modW g a o).set 0 (a 0, .inr (9, (modF a o).set 6 (.int v))) = modW g a o1 := by subst h; rfl
theorem modW_p7 {g : gE} {a : Nat → Nat} {o o1 : Off} {v : Int32} (h : o1 = st o 0 7 v) : (modW g a o).set 0 (a 0, .inr (9, (modF a o).set 7 (.int v))) = modW g a o1 := by subst h; rfl
theorem modW_p8 {g : gE} {a : Nat → Nat} {o o1 : Off} {v : Int32} (h : o1 = st o 0 8 v) : (modW g a o).set 0 (a 0, .inr (9, (modF a o).set 8 (.int v))) = modW g a o1 := by subst h; rfl
theorem modW_p9 {g : gE} {a : Nat → Nat} {o o1 : Off} {v : Int32} (h : o1 = st o 0 9 v) : (modW g a o).set 0 (a 0, .inr (9, (modF a o).set 9 (.int v))) = modW g a o1 := by subst h; rfl
theorem modW_p10 {g : gE} {a : Nat → Nat} {o o1 : Off} {v : Int32} (h : o1 = st o 0 10 v) : (modW g a o).set 0 (a 0, .inr (9, (modF a o).set 10 (.int v))) = modW g a o1 := by subst h; rfl
theorem modW_p11 {g : gE} {a : Nat → Nat} {o o1 : Off} {v : Int32} (h : o1 = st o 0 11 v) : (modW g a o).set 0 (a 0, .inr (9, (modF a o).set 11 (.int v))) = modW g a o1 := by subst h; rfl
theorem modW_p12 {g : gE} {a : Nat → Nat} {o o1 : Off} {v : Int32} (h : o1 = st o 0 12 v) : (modW g a o).set 0 (a 0, .inr (9, (modF a o).set 12 (.int v))) = modW g a o1 := by subst h; rfl
theorem modW_p13 {g : gE} {a : Nat → Nat} {o o1 : Off} {v : Int32} (h : o1 = st o 0 13 v) : (modW g a o).set 0 (a 0, .inr (9, (modF a o).set 13 (.int v))) = modW g a o1 := by subst h; rfl
theorem modW_p15 {g : gE} {a : Nat → Nat} {o o1 : Off} {v : Int32} (h : o1 = st o 0 15 v) : (modW g a o).set 0 (a 0, .inr (9, (modF a o).set 15 (.int v))) = modW g a o1 := by subst h; rfl
theorem modW_p19 {g : gE} {a : Nat → Nat} {o o1 : Off} {v : Int32} (h : o1 = st o 0 19 v) : (modW g a o).set 0 (a 0, .inr (9, (modF a o).set 19 (.int v))) = modW g a o1 := by subst h; rfl
theorem modW_p20 {g : gE} {a : Nat → Nat} {o o1 : Off} {v : Int32} (h : o1 = st o 0 20 v) : (modW g a o).set 0 (a 0, .inr (9, (modF a o).set 20 (.int v))) = modW g a o1 := by subst h; rfl
theorem modW_p21 {g : gE} {a : Nat → Nat} {o o1 : Off} {v : Int32} (h : o1 = st o 0 21 v) : (modW g a o).set 0 (a 0, .inr (9, (modF a o).set 21 (.int v))) = modW g a o1 := by subst h; rfl
theorem modW_p22 {g : gE} {a : Nat → Nat} {o o1 : Off} {v : Int32} (h : o1 = st o 0 22 v) : (modW g a o).set 0 (a 0, .inr (9, (modF a o).set 22 (.int v))) = modW g a o1 := by subst h; rfl
theorem modW_p23 {g : gE} {a : Nat → Nat} {o o1 : Off} {v : Int32} (h : o1 = st o 0 23 v) : (modW g a o).set 0 (a 0, .inr (9, (modF a o).set 23 (.int v))) = modW g a o1 := by subst h; rfl
theorem modW_s1 {g : gE} {a : Nat → Nat} {o o1 : Off} {i : Nat} {v : Int32} (h : o1 = st o 1 i v) : (modW g a o).set 1 (a 1, .inl (g.2.1 0, 160, .inl (upd (o 1) i v))) = modW g a o1 := by subst h; rfl
theorem modW_s2 {g : gE} {a : Nat → Nat} {o o1 : Off} {i : Nat} {v : Int32} (h : o1 = st o 2 i v) : (modW g a o).set 2 (a 2, .inl (g.2.1 0, 160, .inl (upd (o 2) i v))) = modW g a o1 := by subst h; rfl
theorem modW_s3 {g : gE} {a : Nat → Nat} {o o1 : Off} {i : Nat} {v : Int32} (h : o1 = st o 3 i v) : (modW g a o).set 3 (a 3, .inl (g.2.1 0, 160, .inl (upd (o 3) i v))) = modW g a o1 := by subst h; rfl
theorem modW_s4 {g : gE} {a : Nat → Nat} {o o1 : Off} {i : Nat} {v : Int32} (h : o1 = st o 4 i v) : (modW g a o).set 4 (a 4, .inl (g.2.1 0, 160, .inl (upd (o 4) i v))) = modW g a o1 := by subst h; rfl
theorem modW_s5 {g : gE} {a : Nat → Nat} {o o1 : Off} {i : Nat} {v : Int32} (h : o1 = st o 5 i v) : (modW g a o).set 5 (a 5, .inl (g.2.1 0, 1280, .inl (upd (o 5) i v))) = modW g a o1 := by subst h; rfl
theorem modW_s6 {g : gE} {a : Nat → Nat} {o o1 : Off} {i : Nat} {v : Int32} (h : o1 = st o 6 i v) : (modW g a o).set 6 (a 6, .inl (g.2.1 0, 40, .inl (upd (o 6) i v))) = modW g a o1 := by subst h; rfl
theorem modW_s7 {g : gE} {a : Nat → Nat} {o o1 : Off} {i : Nat} {v : Int32} (h : o1 = st o 7 i v) : (modW g a o).set 7 (a 7, .inl (g.2.1 0, 60, .inl (upd (o 7) i v))) = modW g a o1 := by subst h; rfl
theorem modW_s8 {g : gE} {a : Nat → Nat} {o o1 : Off} {i : Nat} {v : Int32} (h : o1 = st o 8 i v) : (modW g a o).set 8 (a 8, .inl (g.2.1 0, 32, .inl (upd (o 8) i v))) = modW g a o1 := by subst h; rfl
theorem modW_s9 {g : gE} {a : Nat → Nat} {o o1 : Off} {i : Nat} {v : Int32} (h : o1 = st o 9 i v) : (modW g a o).set 9 (a 9, .inl (g.2.1 0, 96, .inl (upd (o 9) i v))) = modW g a o1 := by subst h; rfl
theorem uw_X5 : ∀ w ∈ u_ws RX5 TX5 24, w ∈ lw_all := lw_inL _ [1694, 1696, 1698, 1700, 1702, 1704, 1706, 1708, 1710, 1712, 1714, 1716, 1718, 1720, 1722, 1724, 1726, 1728, 1730, 1732, 1734, 1736, 1738, 1740] (by decide +kernel) (by decide +kernel)
def cmdF (a : Nat → Nat) (o : Off) : List Value := [.ref (a 1), .ref (a 2), .ref (a 3), .int (o 0 3), .int (o 0 4), .int (o 0 5), .int (o 0 6)]
def cmdW (g : gE) (a : Nat → Nat) (o : Off) : va_W := [(a 0, .inr (5, cmdF a o)), (a 1, .inl (g.2.1 1, 60, .inl (o 1))), (a 2, .inl (g.2.1 0, 20, .inl (o 2))), (a 3, .inl (g.2.1 0, 60, .inl (o 3)))]
theorem cmdW_p3 {g : gE} {a : Nat → Nat} {o o1 : Off} {v : Int32} (h : o1 = st o 0 3 v) : (cmdW g a o).set 0 (a 0, .inr (5, (cmdF a o).set 3 (.int v))) = cmdW g a o1 := by subst h; rfl
theorem cmdW_p4 {g : gE} {a : Nat → Nat} {o o1 : Off} {v : Int32} (h : o1 = st o 0 4 v) : (cmdW g a o).set 0 (a 0, .inr (5, (cmdF a o).set 4 (.int v))) = cmdW g a o1 := by subst h; rfl
theorem cmdW_p5 {g : gE} {a : Nat → Nat} {o o1 : Off} {v : Int32} (h : o1 = st o 0 5 v) : (cmdW g a o).set 0 (a 0, .inr (5, (cmdF a o).set 5 (.int v))) = cmdW g a o1 := by subst h; rfl
theorem cmdW_p6 {g : gE} {a : Nat → Nat} {o o1 : Off} {v : Int32} (h : o1 = st o 0 6 v) : (cmdW g a o).set 0 (a 0, .inr (5, (cmdF a o).set 6 (.int v))) = cmdW g a o1 := by subst h; rfl
theorem cmdW_s1 {g : gE} {a : Nat → Nat} {o o1 : Off} {i : Nat} {v : Int32} (h : o1 = st o 1 i v) : (cmdW g a o).set 1 (a 1, .inl (g.2.1 1, 60, .inl (upd (o 1) i v))) = cmdW g a o1 := by subst h; rfl
theorem cmdW_s2 {g : gE} {a : Nat → Nat} {o o1 : Off} {i : Nat} {v : Int32} (h : o1 = st o 2 i v) : (cmdW g a o).set 2 (a 2, .inl (g.2.1 0, 20, .inl (upd (o 2) i v))) = cmdW g a o1 := by subst h; rfl
theorem cmdW_s3 {g : gE} {a : Nat → Nat} {o o1 : Off} {i : Nat} {v : Int32} (h : o1 = st o 3 i v) : (cmdW g a o).set 3 (a 3, .inl (g.2.1 0, 60, .inl (upd (o 3) i v))) = cmdW g a o1 := by subst h; rfl
theorem uw_X1 : ∀ w ∈ u_ws RX1 TX1 7, w ∈ lw_all := lw_inL _ [175, 177, 179, 181, 183, 185, 187] (by decide +kernel) (by decide +kernel)
/-- the checks: their object, and their office; row 12 is the detail -/
def chkW (g : gE) (b : Nat) (a : Nat → Nat) (o : Off) : va_W := (b, .inr (4, [.ref (a 0), .int (o 12 0)])) :: offW g a o
theorem chkW_p1 {g : gE} {b : Nat} {a : Nat → Nat} {o o1 : Off} {v : Int32} (h : o1 = st o 12 0 v) : (chkW g b a o).set 0 (b, .inr (4, ([.ref (a 0), .int (o 12 0)] : List Value).set 1 (.int v))) = chkW g b a o1 := by subst h; rfl
theorem uw_X0 : ∀ w ∈ u_ws RX0 TX0 2, w ∈ lw_all := lw_inL _ [126, 128] (by decide +kernel) (by decide +kernel)
-- fl_X4_10 later
theorem fl_X4_16 : gFl RX4 4 0 16 := ⟨RX0, TX0, 2, rfl, by decide, uw_X0, lw_inT 123 (by decide +kernel) rfl⟩
-- fl_X4_20 later
-- fl_X4_24 later
-- fl_X4_30 later
-- fl_X4_37 later
-- fl_X4_44 later
-- fl_X4_48 later
-- fl_X4_52 later
-- fl_X4_55 later
-- fl_X4_58 later
theorem fl_X4_76 : gFl RX4 7 0 76 := ⟨RX3, TX3, 16, rfl, by decide, uw_X3, lw_inT 52 (by decide +kernel) rfl⟩
theorem fl_X4_86 : gFl RX4 7 6 86 := ⟨RX3, TX3, 16, rfl, by decide, uw_X3, lw_inT 65 (by decide +kernel) rfl⟩
theorem fl_X4_90 : gFl RX4 7 7 90 := ⟨RX3, TX3, 16, rfl, by decide, uw_X3, lw_inT 69 (by decide +kernel) rfl⟩
theorem fl_X4_97 : gFl RX4 7 8 97 := ⟨RX3, TX3, 16, rfl, by decide, uw_X3, lw_inT 72 (by decide +kernel) rfl⟩
theorem fl_X4_104 : gFl RX4 7 9 104 := ⟨RX3, TX3, 16, rfl, by decide, uw_X3, lw_inT 75 (by decide +kernel) rfl⟩
theorem fl_X4_107 : gFl RX4 7 11 107 := ⟨RX3, TX3, 16, rfl, by decide, uw_X3, lw_inT 79 (by decide +kernel) rfl⟩
theorem fl_X4_110 : gFl RX4 7 12 110 := ⟨RX3, TX3, 16, rfl, by decide, uw_X3, lw_inT 82 (by decide +kernel) rfl⟩
theorem fl_X4_230 : gFl RX4 7 13 230 := ⟨RX3, TX3, 16, rfl, by decide, uw_X3, lw_inT 85 (by decide +kernel) rfl⟩
theorem fl_X4_245 : gFl RX4 7 1 245 := ⟨RX3, TX3, 16, rfl, by decide, uw_X3, lw_inT 56 (by decide +kernel) rfl⟩
theorem fl_X4_251 : gFl RX4 7 2 251 := ⟨RX3, TX3, 16, rfl, by decide, uw_X3, lw_inT 58 (by decide +kernel) rfl⟩
theorem fl_X4_254 : gFl RX4 7 3 254 := ⟨RX3, TX3, 16, rfl, by decide, uw_X3, lw_inT 60 (by decide +kernel) rfl⟩
theorem fl_X4_257 : gFl RX4 7 4 257 := ⟨RX3, TX3, 16, rfl, by decide, uw_X3, lw_inT 62 (by decide +kernel) rfl⟩
theorem fl_X4_308 : gFl RX4 5 3 308 := ⟨RX1, TX1, 7, rfl, by decide, uw_X1, lw_inT 170 (by decide +kernel) rfl⟩
theorem fl_X4_325 : gFl RX4 5 4 325 := ⟨RX1, TX1, 7, rfl, by decide, uw_X1, lw_inT 172 (by decide +kernel) rfl⟩
-- fl_X4_333 later
-- fl_X4_343 later
theorem fl_X4_383 : gFl RX4 4 1 383 := ⟨RX0, TX0, 2, rfl, by decide, uw_X0, lw_inT 125 (by decide +kernel) rfl⟩
theorem fl_X0_12 : gFl RX0 4 0 12 := ⟨RX0, TX0, 2, rfl, by decide, uw_X0, lw_inT 122 (by decide +kernel) rfl⟩
theorem fl_X0_18 : gFl RX0 4 1 18 := ⟨RX0, TX0, 2, rfl, by decide, uw_X0, lw_inT 124 (by decide +kernel) rfl⟩
theorem fp_X0_18 : gFp RX0 4 1 18 .int := ⟨RX0, TX0, 2, tyX0, rfl, by decide, uw_X0, lw_inT 124 (by decide +kernel) rfl, tyX0_ok, nmX0, rfl, by decide +kernel⟩
theorem fl_X0_30 : gFl RX0 7 0 30 := ⟨RX3, TX3, 16, rfl, by decide, uw_X3, lw_inT 53 (by decide +kernel) rfl⟩
theorem fl_X0_44 : gFl RX0 7 7 44 := ⟨RX3, TX3, 16, rfl, by decide, uw_X3, lw_inT 68 (by decide +kernel) rfl⟩
theorem fl_X0_48 : gFl RX0 7 8 48 := ⟨RX3, TX3, 16, rfl, by decide, uw_X3, lw_inT 71 (by decide +kernel) rfl⟩
theorem fl_X0_54 : gFl RX0 7 9 54 := ⟨RX3, TX3, 16, rfl, by decide, uw_X3, lw_inT 74 (by decide +kernel) rfl⟩
theorem fl_X0_57 : gFl RX0 7 11 57 := ⟨RX3, TX3, 16, rfl, by decide, uw_X3, lw_inT 78 (by decide +kernel) rfl⟩
theorem fl_X0_60 : gFl RX0 7 1 60 := ⟨RX3, TX3, 16, rfl, by decide, uw_X3, lw_inT 55 (by decide +kernel) rfl⟩
theorem fl_X0_63 : gFl RX0 7 12 63 := ⟨RX3, TX3, 16, rfl, by decide, uw_X3, lw_inT 81 (by decide +kernel) rfl⟩
theorem fl_X0_82 : gFl RX0 7 13 82 := ⟨RX3, TX3, 16, rfl, by decide, uw_X3, lw_inT 84 (by decide +kernel) rfl⟩
theorem fl_X0_100 : gFl RX0 7 6 100 := ⟨RX3, TX3, 16, rfl, by decide, uw_X3, lw_inT 66 (by decide +kernel) rfl⟩
theorem fl_X1_9 : gFl RX1 5 0 9 := ⟨RX1, TX1, 7, rfl, by decide, uw_X1, lw_inT 166 (by decide +kernel) rfl⟩
theorem fl_X1_15 : gFl RX1 5 1 15 := ⟨RX1, TX1, 7, rfl, by decide, uw_X1, lw_inT 167 (by decide +kernel) rfl⟩
theorem fl_X1_19 : gFl RX1 5 2 19 := ⟨RX1, TX1, 7, rfl, by decide, uw_X1, lw_inT 168 (by decide +kernel) rfl⟩
theorem fl_X1_22 : gFl RX1 5 3 22 := ⟨RX1, TX1, 7, rfl, by decide, uw_X1, lw_inT 169 (by decide +kernel) rfl⟩
theorem fp_X1_22 : gFp RX1 5 3 22 .int := ⟨RX1, TX1, 7, tyX1, rfl, by decide, uw_X1, lw_inT 169 (by decide +kernel) rfl, tyX1_ok, nmX1, rfl, by decide +kernel⟩
theorem fl_X1_26 : gFl RX1 5 4 26 := ⟨RX1, TX1, 7, rfl, by decide, uw_X1, lw_inT 171 (by decide +kernel) rfl⟩
theorem fp_X1_26 : gFp RX1 5 4 26 .int := ⟨RX1, TX1, 7, tyX1, rfl, by decide, uw_X1, lw_inT 171 (by decide +kernel) rfl, tyX1_ok, nmX1, rfl, by decide +kernel⟩
theorem fl_X1_33 : gFl RX1 5 5 33 := ⟨RX1, TX1, 7, rfl, by decide, uw_X1, lw_inT 173 (by decide +kernel) rfl⟩
theorem fp_X1_33 : gFp RX1 5 5 33 .int := ⟨RX1, TX1, 7, tyX1, rfl, by decide, uw_X1, lw_inT 173 (by decide +kernel) rfl, tyX1_ok, nmX1, rfl, by decide +kernel⟩
theorem fl_X1_53 : gFl RX1 5 6 53 := ⟨RX1, TX1, 7, rfl, by decide, uw_X1, lw_inT 174 (by decide +kernel) rfl⟩
theorem fp_X1_53 : gFp RX1 5 6 53 .int := ⟨RX1, TX1, 7, tyX1, rfl, by decide, uw_X1, lw_inT 174 (by decide +kernel) rfl, tyX1_ok, nmX1, rfl, by decide +kernel⟩
-- fl_X2_11 later
-- fl_X2_18 later
-- fl_X2_22 later
-- fl_X2_30 later
-- fl_X2_39 later
theorem fl_X3_9 : gFl RX3 7 5 9 := ⟨RX3, TX3, 16, rfl, by decide, uw_X3, lw_inT 63 (by decide +kernel) rfl⟩
theorem fl_X3_15 : gFl RX3 7 6 15 := ⟨RX3, TX3, 16, rfl, by decide, uw_X3, lw_inT 64 (by decide +kernel) rfl⟩
theorem fl_X3_18 : gFl RX3 7 7 18 := ⟨RX3, TX3, 16, rfl, by decide, uw_X3, lw_inT 67 (by decide +kernel) rfl⟩
theorem fl_X3_21 : gFl RX3 7 8 21 := ⟨RX3, TX3, 16, rfl, by decide, uw_X3, lw_inT 70 (by decide +kernel) rfl⟩
theorem fl_X3_24 : gFl RX3 7 9 24 := ⟨RX3, TX3, 16, rfl, by decide, uw_X3, lw_inT 73 (by decide +kernel) rfl⟩
theorem fl_X3_27 : gFl RX3 7 10 27 := ⟨RX3, TX3, 16, rfl, by decide, uw_X3, lw_inT 76 (by decide +kernel) rfl⟩
theorem fl_X3_30 : gFl RX3 7 11 30 := ⟨RX3, TX3, 16, rfl, by decide, uw_X3, lw_inT 77 (by decide +kernel) rfl⟩
theorem fl_X3_33 : gFl RX3 7 12 33 := ⟨RX3, TX3, 16, rfl, by decide, uw_X3, lw_inT 80 (by decide +kernel) rfl⟩
theorem fl_X3_36 : gFl RX3 7 13 36 := ⟨RX3, TX3, 16, rfl, by decide, uw_X3, lw_inT 83 (by decide +kernel) rfl⟩
theorem fl_X3_39 : gFl RX3 7 14 39 := ⟨RX3, TX3, 16, rfl, by decide, uw_X3, lw_inT 86 (by decide +kernel) rfl⟩
theorem fl_X3_42 : gFl RX3 7 15 42 := ⟨RX3, TX3, 16, rfl, by decide, uw_X3, lw_inT 87 (by decide +kernel) rfl⟩
theorem fl_X3_45 : gFl RX3 7 0 45 := ⟨RX3, TX3, 16, rfl, by decide, uw_X3, lw_inT 51 (by decide +kernel) rfl⟩
theorem fp_X3_45 : gFp RX3 7 0 45 .int := ⟨RX3, TX3, 16, tyX3, rfl, by decide, uw_X3, lw_inT 51 (by decide +kernel) rfl, tyX3_ok, nmX3, rfl, by decide +kernel⟩
theorem fl_X3_49 : gFl RX3 7 1 49 := ⟨RX3, TX3, 16, rfl, by decide, uw_X3, lw_inT 54 (by decide +kernel) rfl⟩
theorem fp_X3_49 : gFp RX3 7 1 49 .int := ⟨RX3, TX3, 16, tyX3, rfl, by decide, uw_X3, lw_inT 54 (by decide +kernel) rfl, tyX3_ok, nmX3, rfl, by decide +kernel⟩
theorem fl_X3_52 : gFl RX3 7 2 52 := ⟨RX3, TX3, 16, rfl, by decide, uw_X3, lw_inT 57 (by decide +kernel) rfl⟩
theorem fp_X3_52 : gFp RX3 7 2 52 .int := ⟨RX3, TX3, 16, tyX3, rfl, by decide, uw_X3, lw_inT 57 (by decide +kernel) rfl, tyX3_ok, nmX3, rfl, by decide +kernel⟩
theorem fl_X3_55 : gFl RX3 7 3 55 := ⟨RX3, TX3, 16, rfl, by decide, uw_X3, lw_inT 59 (by decide +kernel) rfl⟩
theorem fp_X3_55 : gFp RX3 7 3 55 .int := ⟨RX3, TX3, 16, tyX3, rfl, by decide, uw_X3, lw_inT 59 (by decide +kernel) rfl, tyX3_ok, nmX3, rfl, by decide +kernel⟩
theorem fl_X3_58 : gFl RX3 7 4 58 := ⟨RX3, TX3, 16, rfl, by decide, uw_X3, lw_inT 61 (by decide +kernel) rfl⟩
theorem fp_X3_58 : gFp RX3 7 4 58 .int := ⟨RX3, TX3, 16, tyX3, rfl, by decide, uw_X3, lw_inT 61 (by decide +kernel) rfl, tyX3_ok, nmX3, rfl, by decide +kernel⟩
theorem fl_X5_7 : gFl RX5 9 0 7 := ⟨RX5, TX5, 24, rfl, by decide, uw_X5, lw_inT 1670 (by decide +kernel) rfl⟩
theorem fl_X5_13 : gFl RX5 9 1 13 := ⟨RX5, TX5, 24, rfl, by decide, uw_X5, lw_inT 1671 (by decide +kernel) rfl⟩
theorem fl_X5_16 : gFl RX5 9 2 16 := ⟨RX5, TX5, 24, rfl, by decide, uw_X5, lw_inT 1672 (by decide +kernel) rfl⟩
theorem fl_X5_19 : gFl RX5 9 3 19 := ⟨RX5, TX5, 24, rfl, by decide, uw_X5, lw_inT 1673 (by decide +kernel) rfl⟩
theorem fl_X5_22 : gFl RX5 9 4 22 := ⟨RX5, TX5, 24, rfl, by decide, uw_X5, lw_inT 1674 (by decide +kernel) rfl⟩
theorem fl_X5_25 : gFl RX5 9 5 25 := ⟨RX5, TX5, 24, rfl, by decide, uw_X5, lw_inT 1675 (by decide +kernel) rfl⟩
theorem fp_X5_25 : gFp RX5 9 5 25 .int := ⟨RX5, TX5, 24, tyX5, rfl, by decide, uw_X5, lw_inT 1675 (by decide +kernel) rfl, tyX5_ok, nmX5, rfl, by decide +kernel⟩
theorem fl_X5_29 : gFl RX5 9 6 29 := ⟨RX5, TX5, 24, rfl, by decide, uw_X5, lw_inT 1676 (by decide +kernel) rfl⟩
theorem fp_X5_29 : gFp RX5 9 6 29 .int := ⟨RX5, TX5, 24, tyX5, rfl, by decide, uw_X5, lw_inT 1676 (by decide +kernel) rfl, tyX5_ok, nmX5, rfl, by decide +kernel⟩
theorem fl_X5_32 : gFl RX5 9 7 32 := ⟨RX5, TX5, 24, rfl, by decide, uw_X5, lw_inT 1677 (by decide +kernel) rfl⟩
theorem fp_X5_32 : gFp RX5 9 7 32 .int := ⟨RX5, TX5, 24, tyX5, rfl, by decide, uw_X5, lw_inT 1677 (by decide +kernel) rfl, tyX5_ok, nmX5, rfl, by decide +kernel⟩
theorem fl_X5_35 : gFl RX5 9 8 35 := ⟨RX5, TX5, 24, rfl, by decide, uw_X5, lw_inT 1678 (by decide +kernel) rfl⟩
theorem fp_X5_35 : gFp RX5 9 8 35 .int := ⟨RX5, TX5, 24, tyX5, rfl, by decide, uw_X5, lw_inT 1678 (by decide +kernel) rfl, tyX5_ok, nmX5, rfl, by decide +kernel⟩
theorem fl_X5_38 : gFl RX5 9 9 38 := ⟨RX5, TX5, 24, rfl, by decide, uw_X5, lw_inT 1679 (by decide +kernel) rfl⟩
theorem fp_X5_38 : gFp RX5 9 9 38 .int := ⟨RX5, TX5, 24, tyX5, rfl, by decide, uw_X5, lw_inT 1679 (by decide +kernel) rfl, tyX5_ok, nmX5, rfl, by decide +kernel⟩
theorem fl_X5_41 : gFl RX5 9 10 41 := ⟨RX5, TX5, 24, rfl, by decide, uw_X5, lw_inT 1680 (by decide +kernel) rfl⟩
theorem fp_X5_41 : gFp RX5 9 10 41 .int := ⟨RX5, TX5, 24, tyX5, rfl, by decide, uw_X5, lw_inT 1680 (by decide +kernel) rfl, tyX5_ok, nmX5, rfl, by decide +kernel⟩
theorem fl_X5_44 : gFl RX5 9 11 44 := ⟨RX5, TX5, 24, rfl, by decide, uw_X5, lw_inT 1681 (by decide +kernel) rfl⟩
theorem fp_X5_44 : gFp RX5 9 11 44 .int := ⟨RX5, TX5, 24, tyX5, rfl, by decide, uw_X5, lw_inT 1681 (by decide +kernel) rfl, tyX5_ok, nmX5, rfl, by decide +kernel⟩
theorem fl_X5_47 : gFl RX5 9 12 47 := ⟨RX5, TX5, 24, rfl, by decide, uw_X5, lw_inT 1682 (by decide +kernel) rfl⟩
theorem fp_X5_47 : gFp RX5 9 12 47 .int := ⟨RX5, TX5, 24, tyX5, rfl, by decide, uw_X5, lw_inT 1682 (by decide +kernel) rfl, tyX5_ok, nmX5, rfl, by decide +kernel⟩
theorem fl_X5_50 : gFl RX5 9 13 50 := ⟨RX5, TX5, 24, rfl, by decide, uw_X5, lw_inT 1683 (by decide +kernel) rfl⟩
theorem fp_X5_50 : gFp RX5 9 13 50 .boolean := ⟨RX5, TX5, 24, tyX5, rfl, by decide, uw_X5, lw_inT 1683 (by decide +kernel) rfl, tyX5_ok, nmX5, rfl, by decide +kernel⟩
theorem fl_X5_54 : gFl RX5 9 14 54 := ⟨RX5, TX5, 24, rfl, by decide, uw_X5, lw_inT 1684 (by decide +kernel) rfl⟩
theorem fl_X5_57 : gFl RX5 9 15 57 := ⟨RX5, TX5, 24, rfl, by decide, uw_X5, lw_inT 1685 (by decide +kernel) rfl⟩
theorem fp_X5_57 : gFp RX5 9 15 57 .int := ⟨RX5, TX5, 24, tyX5, rfl, by decide, uw_X5, lw_inT 1685 (by decide +kernel) rfl, tyX5_ok, nmX5, rfl, by decide +kernel⟩
theorem fl_X5_60 : gFl RX5 9 16 60 := ⟨RX5, TX5, 24, rfl, by decide, uw_X5, lw_inT 1686 (by decide +kernel) rfl⟩
theorem fl_X5_63 : gFl RX5 9 17 63 := ⟨RX5, TX5, 24, rfl, by decide, uw_X5, lw_inT 1687 (by decide +kernel) rfl⟩
theorem fl_X5_66 : gFl RX5 9 18 66 := ⟨RX5, TX5, 24, rfl, by decide, uw_X5, lw_inT 1688 (by decide +kernel) rfl⟩
theorem fl_X5_69 : gFl RX5 9 19 69 := ⟨RX5, TX5, 24, rfl, by decide, uw_X5, lw_inT 1689 (by decide +kernel) rfl⟩
theorem fp_X5_69 : gFp RX5 9 19 69 .int := ⟨RX5, TX5, 24, tyX5, rfl, by decide, uw_X5, lw_inT 1689 (by decide +kernel) rfl, tyX5_ok, nmX5, rfl, by decide +kernel⟩
theorem fl_X5_72 : gFl RX5 9 20 72 := ⟨RX5, TX5, 24, rfl, by decide, uw_X5, lw_inT 1690 (by decide +kernel) rfl⟩
theorem fp_X5_72 : gFp RX5 9 20 72 .int := ⟨RX5, TX5, 24, tyX5, rfl, by decide, uw_X5, lw_inT 1690 (by decide +kernel) rfl, tyX5_ok, nmX5, rfl, by decide +kernel⟩
theorem fl_X5_75 : gFl RX5 9 21 75 := ⟨RX5, TX5, 24, rfl, by decide, uw_X5, lw_inT 1691 (by decide +kernel) rfl⟩
theorem fp_X5_75 : gFp RX5 9 21 75 .int := ⟨RX5, TX5, 24, tyX5, rfl, by decide, uw_X5, lw_inT 1691 (by decide +kernel) rfl, tyX5_ok, nmX5, rfl, by decide +kernel⟩
theorem fl_X5_78 : gFl RX5 9 22 78 := ⟨RX5, TX5, 24, rfl, by decide, uw_X5, lw_inT 1692 (by decide +kernel) rfl⟩
theorem fp_X5_78 : gFp RX5 9 22 78 .int := ⟨RX5, TX5, 24, tyX5, rfl, by decide, uw_X5, lw_inT 1692 (by decide +kernel) rfl, tyX5_ok, nmX5, rfl, by decide +kernel⟩
theorem fl_X5_81 : gFl RX5 9 23 81 := ⟨RX5, TX5, 24, rfl, by decide, uw_X5, lw_inT 1693 (by decide +kernel) rfl⟩
theorem fp_X5_81 : gFp RX5 9 23 81 .boolean := ⟨RX5, TX5, 24, tyX5, rfl, by decide, uw_X5, lw_inT 1693 (by decide +kernel) rfl, tyX5_ok, nmX5, rfl, by decide +kernel⟩
theorem bipush_m100 : (Int8.ofInt (-100)).toInt32 = (-100 : Int32) := by decide
theorem bipush_m10 : (Int8.ofInt (-10)).toInt32 = (-10 : Int32) := by decide
theorem bipush_m9 : (Int8.ofInt (-9)).toInt32 = (-9 : Int32) := by decide
theorem bipush_m3 : (Int8.ofInt (-3)).toInt32 = (-3 : Int32) := by decide
theorem bipush_m2 : (Int8.ofInt (-2)).toInt32 = (-2 : Int32) := by decide
theorem bipush_6 : (Int8.ofInt (6)).toInt32 = (6 : Int32) := by decide
theorem bipush_7 : (Int8.ofInt (7)).toInt32 = (7 : Int32) := by decide
theorem bipush_8 : (Int8.ofInt (8)).toInt32 = (8 : Int32) := by decide
theorem bipush_9 : (Int8.ofInt (9)).toInt32 = (9 : Int32) := by decide
theorem bipush_10 : (Int8.ofInt (10)).toInt32 = (10 : Int32) := by decide
theorem bipush_11 : (Int8.ofInt (11)).toInt32 = (11 : Int32) := by decide
theorem bipush_12 : (Int8.ofInt (12)).toInt32 = (12 : Int32) := by decide
theorem bipush_13 : (Int8.ofInt (13)).toInt32 = (13 : Int32) := by decide
theorem bipush_14 : (Int8.ofInt (14)).toInt32 = (14 : Int32) := by decide
theorem bipush_15 : (Int8.ofInt (15)).toInt32 = (15 : Int32) := by decide
theorem bipush_16 : (Int8.ofInt (16)).toInt32 = (16 : Int32) := by decide
theorem bipush_17 : (Int8.ofInt (17)).toInt32 = (17 : Int32) := by decide
theorem bipush_20 : (Int8.ofInt (20)).toInt32 = (20 : Int32) := by decide
theorem bipush_25 : (Int8.ofInt (25)).toInt32 = (25 : Int32) := by decide
theorem bipush_31 : (Int8.ofInt (31)).toInt32 = (31 : Int32) := by decide
theorem bipush_32 : (Int8.ofInt (32)).toInt32 = (32 : Int32) := by decide
theorem bipush_38 : (Int8.ofInt (38)).toInt32 = (38 : Int32) := by decide
theorem bipush_40 : (Int8.ofInt (40)).toInt32 = (40 : Int32) := by decide
theorem bipush_43 : (Int8.ofInt (43)).toInt32 = (43 : Int32) := by decide
theorem bipush_45 : (Int8.ofInt (45)).toInt32 = (45 : Int32) := by decide
theorem bipush_47 : (Int8.ofInt (47)).toInt32 = (47 : Int32) := by decide
theorem bipush_48 : (Int8.ofInt (48)).toInt32 = (48 : Int32) := by decide
theorem bipush_57 : (Int8.ofInt (57)).toInt32 = (57 : Int32) := by decide
theorem bipush_58 : (Int8.ofInt (58)).toInt32 = (58 : Int32) := by decide
theorem bipush_59 : (Int8.ofInt (59)).toInt32 = (59 : Int32) := by decide
theorem bipush_60 : (Int8.ofInt (60)).toInt32 = (60 : Int32) := by decide
theorem bipush_61 : (Int8.ofInt (61)).toInt32 = (61 : Int32) := by decide
theorem bipush_62 : (Int8.ofInt (62)).toInt32 = (62 : Int32) := by decide
theorem bipush_63 : (Int8.ofInt (63)).toInt32 = (63 : Int32) := by decide
theorem bipush_64 : (Int8.ofInt (64)).toInt32 = (64 : Int32) := by decide
theorem bipush_96 : (Int8.ofInt (96)).toInt32 = (96 : Int32) := by decide
theorem bipush_97 : (Int8.ofInt (97)).toInt32 = (97 : Int32) := by decide
theorem bipush_98 : (Int8.ofInt (98)).toInt32 = (98 : Int32) := by decide
theorem bipush_100 : (Int8.ofInt (100)).toInt32 = (100 : Int32) := by decide
theorem bipush_101 : (Int8.ofInt (101)).toInt32 = (101 : Int32) := by decide
theorem bipush_103 : (Int8.ofInt (103)).toInt32 = (103 : Int32) := by decide
theorem bipush_106 : (Int8.ofInt (106)).toInt32 = (106 : Int32) := by decide
theorem bipush_107 : (Int8.ofInt (107)).toInt32 = (107 : Int32) := by decide
theorem bipush_108 : (Int8.ofInt (108)).toInt32 = (108 : Int32) := by decide
theorem bipush_109 : (Int8.ofInt (109)).toInt32 = (109 : Int32) := by decide
theorem bipush_110 : (Int8.ofInt (110)).toInt32 = (110 : Int32) := by decide
theorem bipush_111 : (Int8.ofInt (111)).toInt32 = (111 : Int32) := by decide
theorem bipush_112 : (Int8.ofInt (112)).toInt32 = (112 : Int32) := by decide
theorem bipush_113 : (Int8.ofInt (113)).toInt32 = (113 : Int32) := by decide
theorem bipush_114 : (Int8.ofInt (114)).toInt32 = (114 : Int32) := by decide
theorem bipush_115 : (Int8.ofInt (115)).toInt32 = (115 : Int32) := by decide
theorem bipush_116 : (Int8.ofInt (116)).toInt32 = (116 : Int32) := by decide
theorem bipush_117 : (Int8.ofInt (117)).toInt32 = (117 : Int32) := by decide
theorem bipush_119 : (Int8.ofInt (119)).toInt32 = (119 : Int32) := by decide
theorem bipush_120 : (Int8.ofInt (120)).toInt32 = (120 : Int32) := by decide
theorem bipush_121 : (Int8.ofInt (121)).toInt32 = (121 : Int32) := by decide
theorem bipush_125 : (Int8.ofInt (125)).toInt32 = (125 : Int32) := by decide
theorem bipush_126 : (Int8.ofInt (126)).toInt32 = (126 : Int32) := by decide
theorem iconst_m1 : Int32.ofInt (-1) = (-1 : Int32) := by decide
theorem iconst_0 : Int32.ofInt (0) = (0 : Int32) := by decide
theorem iconst_1 : Int32.ofInt (1) = (1 : Int32) := by decide
theorem iconst_2 : Int32.ofInt (2) = (2 : Int32) := by decide
theorem iconst_3 : Int32.ofInt (3) = (3 : Int32) := by decide
theorem iconst_4 : Int32.ofInt (4) = (4 : Int32) := by decide
theorem iconst_5 : Int32.ofInt (5) = (5 : Int32) := by decide
theorem sipush_130 : (Int16.ofInt (130)).toInt32 = (130 : Int32) := by decide
theorem sipush_160 : (Int16.ofInt (160)).toInt32 = (160 : Int32) := by decide
theorem sipush_255 : (Int16.ofInt (255)).toInt32 = (255 : Int32) := by decide
theorem sipush_1023 : (Int16.ofInt (1023)).toInt32 = (1023 : Int32) := by decide
theorem sipush_1280 : (Int16.ofInt (1280)).toInt32 = (1280 : Int32) := by decide
