/-! ===== the embassy: its object, the commands, the builder, the checks with the office, the history, the office before; all numbers in one table:
    rows 0..11 the office, 12 the detail, 13 the embassy's own, 20..31 the office before, 40..43 the commands, 50..51 the builder, 60 the history, 100 + 20 i the past offices, 260 the snapshot ===== -/
def embC (A : Nat → Nat → Nat) (E : Off) : Nat × va_E := (A 0 0, .inr (8, [.ref (A 1 0), .ref (A 2 0), .ref (A 3 0), .ref (A 4 0), .ref (A 5 0), .ref (A 6 0), .int (E 13 6), .int (E 13 7), .int (E 13 8), .int (E 13 9)]))
def chkC (A : Nat → Nat → Nat) (E : Off) : Nat × va_E := (A 1 0, .inr (4, [.ref (A 2 0), .int (E 12 0)]))
def embH (g : gE) (A : Nat → Nat → Nat) (E : Off) : va_W := hisW g (A 4) (fun i => A (20 + i)) E
def embB (g : gE) (A : Nat → Nat → Nat) (E : Off) : va_W := offW g (A 3) (sh E 20)
def embT (g : gE) (A : Nat → Nat → Nat) (E : Off) : va_W := embH g A E ++ embB g A E
def embW (g : gE) (A : Nat → Nat → Nat) (E : Off) : va_W := embC A E :: (cmdW g (A 5) (sh E 40) ++ (sbW g (A 6) (sh E 50) ++ (chkW g (A 1 0) (A 2) E ++ embT g A E)))
theorem emb_cmd (g : gE) (A : Nat → Nat → Nat) (E : Off) : embW g A E = [embC A E] ++ (cmdW g (A 5) (sh E 40) ++ (sbW g (A 6) (sh E 50) ++ (chkW g (A 1 0) (A 2) E ++ embT g A E))) := rfl
theorem emb_cmd1 (g : gE) (A : Nat → Nat → Nat) (E : Off) : ∀ o1 : Off, [embC A E] ++ (cmdW g (A 5) o1 ++ (sbW g (A 6) (sh E 50) ++ (chkW g (A 1 0) (A 2) E ++ embT g A E))) = embW g A (put E 40 4 o1) := fun _ => rfl
theorem emb_sb (g : gE) (A : Nat → Nat → Nat) (E : Off) : embW g A E = (embC A E :: cmdW g (A 5) (sh E 40)) ++ (sbW g (A 6) (sh E 50) ++ (chkW g (A 1 0) (A 2) E ++ embT g A E)) := rfl
theorem emb_sb1 (g : gE) (A : Nat → Nat → Nat) (E : Off) : ∀ o1 : Off, (embC A E :: cmdW g (A 5) (sh E 40)) ++ (sbW g (A 6) o1 ++ (chkW g (A 1 0) (A 2) E ++ embT g A E)) = embW g A (put E 50 2 o1) := fun _ => rfl
theorem emb_chk (g : gE) (A : Nat → Nat → Nat) (E : Off) : embW g A E = (embC A E :: (cmdW g (A 5) (sh E 40) ++ sbW g (A 6) (sh E 50))) ++ (chkW g (A 1 0) (A 2) E ++ embT g A E) := rfl
theorem emb_chk1 (g : gE) (A : Nat → Nat → Nat) (E : Off) : ∀ o1 : Off, (embC A E :: (cmdW g (A 5) (sh E 40) ++ sbW g (A 6) (sh E 50))) ++ (chkW g (A 1 0) (A 2) o1 ++ embT g A E) = embW g A (put E 0 13 o1) := fun _ => rfl
def embP (g : gE) (A : Nat → Nat → Nat) (E : Off) : va_W := embC A E :: (cmdW g (A 5) (sh E 40) ++ (sbW g (A 6) (sh E 50) ++ [chkC A E]))
theorem emb_off (g : gE) (A : Nat → Nat → Nat) (E : Off) : embW g A E = embP g A E ++ (offW g (A 2) E ++ embT g A E) := rfl
theorem emb_off1 (g : gE) (A : Nat → Nat → Nat) (E : Off) : ∀ o1 : Off, embP g A E ++ (offW g (A 2) o1 ++ embT g A E) = embW g A (put E 0 12 o1) := fun _ => rfl
theorem emb_oh (g : gE) (A : Nat → Nat → Nat) (E : Off) : embW g A E = embP g A E ++ ((offW g (A 2) E ++ embH g A E) ++ embB g A E) := by rw [List.append_assoc]; rfl
theorem emb_bh (g : gE) (A : Nat → Nat → Nat) (E : Off) : (embW g A E).Perm ((embP g A E ++ offW g (A 2) E) ++ ((embB g A E ++ embH g A E) ++ [])) := by
  rw [emb_off, List.append_nil, List.append_assoc]
  exact List.Perm.append_left _ (List.Perm.append_left _ List.perm_append_comm)
theorem emb_bo (g : gE) (A : Nat → Nat → Nat) (E : Off) : (embW g A E).Perm (embB g A E ++ (offW g (A 2) E ++ (embP g A E ++ embH g A E))) := by
  rw [emb_off]
  refine (mvF [embP g A E] (offW g (A 2) E) (embT g A E)).trans ?_
  exact mvF [offW g (A 2) E, embP g A E, embH g A E] (embB g A E) []  |>.symm.symm |> fun h => by
    have e1 : List.foldr (fun a b => a ++ b) (embB g A E ++ []) [offW g (A 2) E, embP g A E, embH g A E] = offW g (A 2) E ++ (embP g A E ++ embT g A E) := by
      show offW g (A 2) E ++ (embP g A E ++ (embH g A E ++ (embB g A E ++ []))) = _
      rw [List.append_nil]; rfl
    have e2 : List.foldr (fun a b => a ++ b) ([] : va_W) [offW g (A 2) E, embP g A E, embH g A E] = offW g (A 2) E ++ (embP g A E ++ embH g A E) := by
      show offW g (A 2) E ++ (embP g A E ++ (embH g A E ++ [])) = _
      rw [List.append_nil]
    rw [e1, e2] at h
    exact h
theorem emb_ob (g : gE) (A : Nat → Nat → Nat) (E : Off) : (embW g A E).Perm (offW g (A 2) E ++ (embB g A E ++ (embP g A E ++ embH g A E))) :=
  (emb_bo g A E).trans (List.perm_append_comm_assoc _ _ _)
theorem keep_off (g : gE) (a : Nat → Nat) (E o : Off) (i : Nat) (hi : i < 8) : offW g a (keepH E o i) = offW g a E := by
  rcases (show i = 0 ∨ i = 1 ∨ i = 2 ∨ i = 3 ∨ i = 4 ∨ i = 5 ∨ i = 6 ∨ i = 7 by omega) with rfl | rfl | rfl | rfl | rfl | rfl | rfl | rfl <;> rfl
theorem keep_row {E o : Off} {i k : Nat} (hk : k < 60 ∨ (60 < k ∧ k < 100) ∨ 260 ≤ k) (hi : i < 8) : keepH E o i k = E k := by
  unfold keepH
  have h1 : k ≠ 60 := by omega
  have h2 : ¬ (100 + 20 * i ≤ k ∧ k < 100 + 20 * i + 12) := by omega
  show (if k = 60 then _ else if k = 60 then _ else put E (100 + 20 * i) 12 o k) = E k
  rw [if_neg h1, if_neg h1]
  show (if 100 + 20 * i ≤ k ∧ k < 100 + 20 * i + 12 then _ else E k) = E k
  rw [if_neg h2]
theorem emb_keep (g : gE) (A : Nat → Nat → Nat) (E o : Off) (i : Nat) (hi : i < 8) : embP g A E ++ ((offW g (A 2) E ++ embH g A (keepH E o i)) ++ embB g A E) = embW g A (keepH E o i) := by
  rcases (show i = 0 ∨ i = 1 ∨ i = 2 ∨ i = 3 ∨ i = 4 ∨ i = 5 ∨ i = 6 ∨ i = 7 by omega) with rfl | rfl | rfl | rfl | rfl | rfl | rfl | rfl <;> (rw [List.append_assoc]; rfl)
theorem emb_keepB (g : gE) (A : Nat → Nat → Nat) (E o : Off) (i : Nat) (hi : i < 8) : ((embP g A E ++ offW g (A 2) E) ++ ((embB g A E ++ embH g A (keepH E o i)) ++ [])).Perm (embW g A (keepH E o i)) := by
  rw [← emb_keep g A E o i hi, List.append_nil, List.append_assoc, List.append_assoc]
  exact List.Perm.append_left _ (List.Perm.append_left _ List.perm_append_comm)
theorem emb_back (g : gE) (A : Nat → Nat → Nat) (E : Off) (i : Nat) (hi : i < 8) : embP g A E ++ ((offW g (A 2) (sh E (100 + 20 * i)) ++ embH g A (backH E i)) ++ embB g A E) = embW g A (put (backH E i) 0 12 (sh E (100 + 20 * i))) := by
  rcases (show i = 0 ∨ i = 1 ∨ i = 2 ∨ i = 3 ∨ i = 4 ∨ i = 5 ∨ i = 6 ∨ i = 7 by omega) with rfl | rfl | rfl | rfl | rfl | rfl | rfl | rfl <;> (rw [List.append_assoc]; rfl)
theorem emb_save (g : gE) (A : Nat → Nat → Nat) (E : Off) : embP g A E ++ ((offW g (A 2) E ++ embH g A (st (put E 260 12 E) 60 4 1)) ++ embB g A E) = embW g A (st (put E 260 12 E) 60 4 1) := by rw [List.append_assoc]; rfl
theorem emb_rest (g : gE) (A : Nat → Nat → Nat) (E : Off) : embP g A E ++ ((offW g (A 2) (sh E 260) ++ embH g A (st E 60 3 0)) ++ embB g A E) = embW g A (put (st E 60 3 0) 0 12 (sh E 260)) := by rw [List.append_assoc]; rfl
theorem emb_cpB (g : gE) (A : Nat → Nat → Nat) (E : Off) : (offW g (A 3) E ++ (offW g (A 2) E ++ (embP g A E ++ embH g A E))).Perm (embW g A (put E 20 12 E)) := (emb_bo g A (put E 20 12 E)).symm
theorem emb_cpO (g : gE) (A : Nat → Nat → Nat) (E : Off) : (offW g (A 2) (sh E 20) ++ (embB g A E ++ (embP g A E ++ embH g A E))).Perm (embW g A (put E 0 12 (sh E 20))) := (emb_ob g A (put E 0 12 (sh E 20))).symm
section GSUB
variable {x : gX} {l : Launch} {cc : ByteArray} {nL : Nat} {own : String} {g : gE} {fr lo mc ms k n pc : Nat} {ws : va_W} {lv : List (Nat × Value)} {st9 : List Value}
theorem g_subI (hC : gC x l cc nL own g fr lo mc ms) {y : MethodName} {b : ByteArray} {nM fr' lo' np : Nat} {ret : Option FieldType} {W : Off → va_W} {s : Off} {As As' : List Value} {post : Int32 → Off → Prop} (hF : Fn l g y b nM ret fr' lo' 0 0 (W s) As' (pI W post)) (hY : gYv y b nM ret np) {idx : Nat} (hd : decode cc pc = .ok (.invokevirtual idx, 3)) (pc2 : Nat) (e : pc + 3 = pc2) (hl : Cond.methodLink own idx y ∈ lw_all)
    {pre suf : va_W} (hw : ws = pre ++ (W s ++ suf)) {V : Off → va_W} (hw2 : ∀ o1, pre ++ (W o1 ++ suf) = V o1) {a : Nat} (rest : List Value) (hAs : As' = .ref a :: As) (hst : st9 = As.reverse ++ .ref a :: rest) (hn : As.length = np) (q0 ci : Nat) {fs : List Value} {T : u_T} {N : Nat} (hci : vwCl[ci]? = some (y.cls, T, N)) (hq0 : (W s)[q0]? = some (a, .inr (ci, fs)))
    (hR : fr' + 1 ≤ fr ∧ 8 + (nM + 11) + lo' ≤ lo) (hcat : (rest.map fun v => v.category).sum ≤ 8) (hkn : k ≤ mc ∧ n ≤ ms) (kk : ∀ (v : Int32) (o1 : Off), post v o1 → G x g nL k n (V o1) pc2 lv (.int v :: rest)) : G x g nL k n ws pc lv st9 := by
  refine g_callV hC hF hY hd pc2 e hl pre suf hw rest hAs hst hn q0 ci hci hq0 hR hcat hkn ?_
  rintro r w1 ⟨v, s', rfl, rfl, hp⟩
  rw [hw2]
  exact kk v s' hp
theorem g_subV (hC : gC x l cc nL own g fr lo mc ms) {y : MethodName} {b : ByteArray} {nM fr' lo' np : Nat} {ret : Option FieldType} {W : Off → va_W} {s : Off} {As As' : List Value} {post : Off → Prop} (hF : Fn l g y b nM ret fr' lo' 0 0 (W s) As' (pV W post)) (hY : gYv y b nM ret np) {idx : Nat} (hd : decode cc pc = .ok (.invokevirtual idx, 3)) (pc2 : Nat) (e : pc + 3 = pc2) (hl : Cond.methodLink own idx y ∈ lw_all)
    {pre suf : va_W} (hw : ws = pre ++ (W s ++ suf)) {V : Off → va_W} (hw2 : ∀ o1, pre ++ (W o1 ++ suf) = V o1) {a : Nat} (rest : List Value) (hAs : As' = .ref a :: As) (hst : st9 = As.reverse ++ .ref a :: rest) (hn : As.length = np) (q0 ci : Nat) {fs : List Value} {T : u_T} {N : Nat} (hci : vwCl[ci]? = some (y.cls, T, N)) (hq0 : (W s)[q0]? = some (a, .inr (ci, fs)))
    (hR : fr' + 1 ≤ fr ∧ 8 + (nM + 11) + lo' ≤ lo) (hcat : (rest.map fun v => v.category).sum ≤ 8) (hkn : k ≤ mc ∧ n ≤ ms) (kk : ∀ o1 : Off, post o1 → G x g nL k n (V o1) pc2 lv rest) : G x g nL k n ws pc lv st9 := by
  refine g_callV hC hF hY hd pc2 e hl pre suf hw rest hAs hst hn q0 ci hci hq0 hR hcat hkn ?_
  rintro r w1 ⟨s', rfl, rfl, hp⟩
  rw [hw2]
  exact kk s' hp
theorem g_subA (hC : gC x l cc nL own g fr lo mc ms) {y : MethodName} {b : ByteArray} {nM fr' lo' np : Nat} {ret : Option FieldType} {W : Off → va_W} {s : Off} {As As' : List Value} {a : Nat} {post : Off → Prop} (hF : Fn l g y b nM ret fr' lo' 0 0 (W s) As' (pA W a post)) (hY : gYv y b nM ret np) {idx : Nat} (hd : decode cc pc = .ok (.invokevirtual idx, 3)) (pc2 : Nat) (e : pc + 3 = pc2) (hl : Cond.methodLink own idx y ∈ lw_all)
    {pre suf : va_W} (hw : ws = pre ++ (W s ++ suf)) {V : Off → va_W} (hw2 : ∀ o1, pre ++ (W o1 ++ suf) = V o1) (rest : List Value) (hAs : As' = .ref a :: As) (hst : st9 = As.reverse ++ .ref a :: rest) (hn : As.length = np) (q0 ci : Nat) {fs : List Value} {T : u_T} {N : Nat} (hci : vwCl[ci]? = some (y.cls, T, N)) (hq0 : (W s)[q0]? = some (a, .inr (ci, fs)))
    (hR : fr' + 1 ≤ fr ∧ 8 + (nM + 11) + lo' ≤ lo) (hcat : (rest.map fun v => v.category).sum ≤ 8) (hkn : k ≤ mc ∧ n ≤ ms) (kk : ∀ o1 : Off, post o1 → G x g nL k n (V o1) pc2 lv (.ref a :: rest)) : G x g nL k n ws pc lv st9 := by
  refine g_callV hC hF hY hd pc2 e hl pre suf hw rest hAs hst hn q0 ci hci hq0 hR hcat hkn ?_
  rintro r w1 ⟨s', rfl, rfl, hp⟩
  rw [hw2]
  exact kk s' hp
theorem g_ownVX {retc : Option FieldType} {wcc : va_W} {postc : Option Value → va_W → Prop} {W : Off → va_W} {px : Nat → Off → Prop} {mcc msc : Nat} (hC : gC x l cc nL own g fr lo mc ms) (hZ : gZX x g retc wcc postc (pX W px) mcc msc)
    {y : MethodName} {b : ByteArray} {nM fr' lo' mc' ms' np : Nat} {ret : Option FieldType} {s : Off} {As As' : List Value} {post : Off → Prop} (hF : FnX l g y b nM ret fr' lo' mc' ms' (W s) As' (pV W post) (pX W px)) (hY : gYv y b nM ret np) {idx : Nat} (hd : decode cc pc = .ok (.invokevirtual idx, 3)) (pc2 : Nat) (e : pc + 3 = pc2) (hl : Cond.methodLink own idx y ∈ lw_all)
    {a : Nat} (rest : List Value) (hAs : As' = .ref a :: As) (hst : st9 = As.reverse ++ .ref a :: rest) (hn : As.length = np) (q0 ci : Nat) {fs : List Value} {T : u_T} {N : Nat} (hci : vwCl[ci]? = some (y.cls, T, N)) (hq0 : (W s)[q0]? = some (a, .inr (ci, fs)))
    (hR : fr' + 1 ≤ fr ∧ 8 + (nM + 11) + lo' ≤ lo) (hcat : (rest.map fun v => v.category).sum ≤ 8) (hkn : k + mc' ≤ mc ∧ n + ms' ≤ ms) (hkx : k + mc' ≤ mcc ∧ n + ms' ≤ msc) (kk : ∀ o1 : Off, post o1 → G x g nL (k + mc') (n + ms') (W o1) pc2 lv rest) : G x g nL k n (W s) pc lv st9 := by
  refine g_callVX hC hZ hF hY hd pc2 e hl [] [] (by rw [List.nil_append, List.append_nil]) rest hAs hst hn q0 ci hci hq0 hR hcat hkn hkx ?_ ?_
  · intro E w1 h
    rw [List.nil_append, List.append_nil]
    exact h
  · rintro r w1 ⟨s', rfl, rfl, hp⟩
    rw [List.nil_append, List.append_nil]
    exact kk s' hp
variable {A : Nat → Nat → Nat} {E : Off} {rest : List Value}
theorem g_keepO (hC : gC x l cc nL RX4 g fr lo mc ms) {i : Nat} (hi8 : i < 8) (hi : E 60 2 = nI i) (hd : decode cc pc = .ok (.invokevirtual 69, 3)) (pc2 : Nat) (e : pc + 3 = pc2) (hR : 4 ≤ fr ∧ 363 ≤ lo) (hcat : (rest.map fun v => v.category).sum ≤ 8) (hkn : k ≤ mc ∧ n ≤ ms) (kk : G x g nL k n (embW g A (keepH E E i)) pc2 lv rest) : G x g nL k n (embW g A E) pc lv (.ref (A 2 0) :: .ref (A 4 0) :: rest) := by
  refine g_callV hC (ct_X2_keep l g (A 2) (A 4) (fun i => A (20 + i)) E E i hi8 hi) gY_X2_keep hd pc2 e ml_X4_69 (embP g A E) (embB g A E) (emb_oh g A E) rest rfl rfl rfl 12 6 rfl rfl ⟨hR.1, hR.2⟩ hcat hkn ?_
  rintro r w1 ⟨rfl, rfl⟩
  exact g_ws (emb_keep g A E E i hi8) kk
theorem g_keepB (hC : gC x l cc nL RX4 g fr lo mc ms) {i : Nat} (hi8 : i < 8) (hi : E 60 2 = nI i) (hd : decode cc pc = .ok (.invokevirtual 69, 3)) (pc2 : Nat) (e : pc + 3 = pc2) (hR : 4 ≤ fr ∧ 363 ≤ lo) (hcat : (rest.map fun v => v.category).sum ≤ 8) (hkn : k ≤ mc ∧ n ≤ ms) (kk : G x g nL k n (embW g A (keepH E (sh E 20) i)) pc2 lv rest) : G x g nL k n (embW g A E) pc lv (.ref (A 3 0) :: .ref (A 4 0) :: rest) := by
  refine g_perm (emb_bh g A E) ?_
  refine g_callV hC (ct_X2_keep l g (A 3) (A 4) (fun i => A (20 + i)) (sh E 20) E i hi8 hi) gY_X2_keep hd pc2 e ml_X4_69 (embP g A E ++ offW g (A 2) E) [] rfl rest rfl rfl rfl 12 6 rfl rfl ⟨hR.1, hR.2⟩ hcat hkn ?_
  rintro r w1 ⟨rfl, rfl⟩
  exact g_perm (emb_keepB g A E (sh E 20) i hi8) kk
theorem g_back (hC : gC x l cc nL RX4 g fr lo mc ms) {i idx : Nat} (hi8 : i < 8) (hi : E 60 2 = nI ((i + 1) % 8)) (hd : decode cc pc = .ok (.invokevirtual idx, 3)) (hl : Cond.methodLink RX4 idx yX2_takeBack ∈ lw_all) (pc2 : Nat) (e : pc + 3 = pc2) (hR : 4 ≤ fr ∧ 363 ≤ lo) (hcat : (rest.map fun v => v.category).sum ≤ 8) (hkn : k ≤ mc ∧ n ≤ ms) (kk : G x g nL k n (embW g A (put (backH E i) 0 12 (sh E (100 + 20 * i)))) pc2 lv (.int (E 60 3 - 1) :: rest)) : G x g nL k n (embW g A E) pc lv (.ref (A 2 0) :: .ref (A 4 0) :: rest) := by
  refine g_callV hC (ct_X2_takeBack l g (A 2) (A 4) (fun i => A (20 + i)) E E i hi8 hi) gY_X2_takeBack hd pc2 e hl (embP g A E) (embB g A E) (emb_oh g A E) rest rfl rfl rfl 12 6 rfl rfl ⟨hR.1, hR.2⟩ hcat hkn ?_
  rintro r w1 ⟨rfl, rfl⟩
  exact g_ws (emb_back g A E i hi8) kk
theorem g_saveO (hC : gC x l cc nL RX4 g fr lo mc ms) {idx : Nat} (hd : decode cc pc = .ok (.invokevirtual idx, 3)) (hl : Cond.methodLink RX4 idx yX2_save ∈ lw_all) (pc2 : Nat) (e : pc + 3 = pc2) (hR : 4 ≤ fr ∧ 363 ≤ lo) (hcat : (rest.map fun v => v.category).sum ≤ 8) (hkn : k ≤ mc ∧ n ≤ ms) (kk : G x g nL k n (embW g A (st (put E 260 12 E) 60 4 1)) pc2 lv rest) : G x g nL k n (embW g A E) pc lv (.ref (A 2 0) :: .ref (A 4 0) :: rest) := by
  refine g_callV hC (ct_X2_save l g (A 2) (A 4) (fun i => A (20 + i)) E E) gY_X2_save hd pc2 e hl (embP g A E) (embB g A E) (emb_oh g A E) rest rfl rfl rfl 12 6 rfl rfl ⟨hR.1, hR.2⟩ hcat hkn ?_
  rintro r w1 ⟨rfl, rfl⟩
  exact g_ws (emb_save g A E) kk
theorem g_restO (hC : gC x l cc nL RX4 g fr lo mc ms) {idx : Nat} (hd : decode cc pc = .ok (.invokevirtual idx, 3)) (hl : Cond.methodLink RX4 idx yX2_restore ∈ lw_all) (pc2 : Nat) (e : pc + 3 = pc2) (hR : 4 ≤ fr ∧ 363 ≤ lo) (hcat : (rest.map fun v => v.category).sum ≤ 8) (hkn : k ≤ mc ∧ n ≤ ms) (kk : G x g nL k n (embW g A (put (st E 60 3 0) 0 12 (sh E 260))) pc2 lv rest) : G x g nL k n (embW g A E) pc lv (.ref (A 2 0) :: .ref (A 4 0) :: rest) := by
  refine g_callV hC (ct_X2_restore l g (A 2) (A 4) (fun i => A (20 + i)) E E) gY_X2_restore hd pc2 e hl (embP g A E) (embB g A E) (emb_oh g A E) rest rfl rfl rfl 12 6 rfl rfl ⟨hR.1, hR.2⟩ hcat hkn ?_
  rintro r w1 ⟨rfl, rfl⟩
  exact g_ws (emb_rest g A E) kk
theorem g_cpB (hC : gC x l cc nL RX4 g fr lo mc ms) {idx : Nat} (hd : decode cc pc = .ok (.invokevirtual idx, 3)) (hl : Cond.methodLink RX4 idx yX3_copyFrom ∈ lw_all) (pc2 : Nat) (e : pc + 3 = pc2) (hR : 3 ≤ fr ∧ 342 ≤ lo) (hcat : (rest.map fun v => v.category).sum ≤ 8) (hkn : k ≤ mc ∧ n ≤ ms) (kk : G x g nL k n (embW g A (put E 20 12 E)) pc2 lv rest) : G x g nL k n (embW g A E) pc lv (.ref (A 2 0) :: .ref (A 3 0) :: rest) :=
  g_copyF hC hd pc2 e hl (embP g A E ++ embH g A E) (emb_bo g A E) (emb_cpB g A E) hR hcat hkn kk
theorem g_cpO (hC : gC x l cc nL RX4 g fr lo mc ms) {idx : Nat} (hd : decode cc pc = .ok (.invokevirtual idx, 3)) (hl : Cond.methodLink RX4 idx yX3_copyFrom ∈ lw_all) (pc2 : Nat) (e : pc + 3 = pc2) (hR : 3 ≤ fr ∧ 342 ≤ lo) (hcat : (rest.map fun v => v.category).sum ≤ 8) (hkn : k ≤ mc ∧ n ≤ ms) (kk : G x g nL k n (embW g A (put E 0 12 (sh E 20))) pc2 lv rest) : G x g nL k n (embW g A E) pc lv (.ref (A 3 0) :: .ref (A 2 0) :: rest) :=
  g_copyF hC hd pc2 e hl (embP g A E ++ embH g A E) (emb_ob g A E) (emb_cpO g A E) hR hcat hkn kk
end GSUB

theorem uw_X4 : ∀ w ∈ u_ws RX4 TX4 10, w ∈ lw_all := lw_inL _ [234, 236, 238, 240, 242, 244, 246, 248, 250, 252] (by decide +kernel) (by decide +kernel)
theorem fl_X4_10 : gFl RX4 8 0 10 := ⟨RX4, TX4, 10, rfl, by decide, uw_X4, lw_inT 224 (by decide +kernel) rfl⟩
theorem ff_X4_10 : gFf RX4 8 0 10 (.object "SockEmbassy$Checks") := ⟨RX4, TX4, 10, tyX4, rfl, by decide, uw_X4, lw_inT 224 (by decide +kernel) rfl, tyX4_ok, nmX4, rfl, rfl, by decide +kernel⟩
theorem fl_X4_20 : gFl RX4 8 1 20 := ⟨RX4, TX4, 10, rfl, by decide, uw_X4, lw_inT 225 (by decide +kernel) rfl⟩
theorem ff_X4_20 : gFf RX4 8 1 20 (.object "SockEmbassy$Office") := ⟨RX4, TX4, 10, tyX4, rfl, by decide, uw_X4, lw_inT 225 (by decide +kernel) rfl, tyX4_ok, nmX4, rfl, rfl, by decide +kernel⟩
theorem fl_X4_24 : gFl RX4 8 2 24 := ⟨RX4, TX4, 10, rfl, by decide, uw_X4, lw_inT 226 (by decide +kernel) rfl⟩
theorem ff_X4_24 : gFf RX4 8 2 24 (.object "SockEmbassy$Office") := ⟨RX4, TX4, 10, tyX4, rfl, by decide, uw_X4, lw_inT 226 (by decide +kernel) rfl, tyX4_ok, nmX4, rfl, rfl, by decide +kernel⟩
theorem fl_X4_30 : gFl RX4 8 3 30 := ⟨RX4, TX4, 10, rfl, by decide, uw_X4, lw_inT 227 (by decide +kernel) rfl⟩
theorem ff_X4_30 : gFf RX4 8 3 30 (.object "SockEmbassy$History") := ⟨RX4, TX4, 10, tyX4, rfl, by decide, uw_X4, lw_inT 227 (by decide +kernel) rfl, tyX4_ok, nmX4, rfl, rfl, by decide +kernel⟩
theorem fl_X4_37 : gFl RX4 8 4 37 := ⟨RX4, TX4, 10, rfl, by decide, uw_X4, lw_inT 228 (by decide +kernel) rfl⟩
theorem ff_X4_37 : gFf RX4 8 4 37 (.object "SockEmbassy$Commands") := ⟨RX4, TX4, 10, tyX4, rfl, by decide, uw_X4, lw_inT 228 (by decide +kernel) rfl, tyX4_ok, nmX4, rfl, rfl, by decide +kernel⟩
theorem fl_X4_44 : gFl RX4 8 5 44 := ⟨RX4, TX4, 10, rfl, by decide, uw_X4, lw_inT 229 (by decide +kernel) rfl⟩
theorem ff_X4_44 : gFf RX4 8 5 44 (.object "java/lang/StringBuilder") := ⟨RX4, TX4, 10, tyX4, rfl, by decide, uw_X4, lw_inT 229 (by decide +kernel) rfl, tyX4_ok, nmX4, rfl, rfl, by decide +kernel⟩
theorem fl_X4_48 : gFl RX4 8 6 48 := ⟨RX4, TX4, 10, rfl, by decide, uw_X4, lw_inT 230 (by decide +kernel) rfl⟩
theorem fp_X4_48 : gFp RX4 8 6 48 .int := ⟨RX4, TX4, 10, tyX4, rfl, by decide, uw_X4, lw_inT 230 (by decide +kernel) rfl, tyX4_ok, nmX4, rfl, by decide +kernel⟩
theorem fl_X4_52 : gFl RX4 8 7 52 := ⟨RX4, TX4, 10, rfl, by decide, uw_X4, lw_inT 231 (by decide +kernel) rfl⟩
theorem fp_X4_52 : gFp RX4 8 7 52 .int := ⟨RX4, TX4, 10, tyX4, rfl, by decide, uw_X4, lw_inT 231 (by decide +kernel) rfl, tyX4_ok, nmX4, rfl, by decide +kernel⟩
theorem fl_X4_55 : gFl RX4 8 8 55 := ⟨RX4, TX4, 10, rfl, by decide, uw_X4, lw_inT 232 (by decide +kernel) rfl⟩
theorem fp_X4_55 : gFp RX4 8 8 55 .int := ⟨RX4, TX4, 10, tyX4, rfl, by decide, uw_X4, lw_inT 232 (by decide +kernel) rfl, tyX4_ok, nmX4, rfl, by decide +kernel⟩
theorem fl_X4_58 : gFl RX4 8 9 58 := ⟨RX4, TX4, 10, rfl, by decide, uw_X4, lw_inT 233 (by decide +kernel) rfl⟩
theorem fp_X4_58 : gFp RX4 8 9 58 .int := ⟨RX4, TX4, 10, tyX4, rfl, by decide, uw_X4, lw_inT 233 (by decide +kernel) rfl, tyX4_ok, nmX4, rfl, by decide +kernel⟩
theorem embW_p6 {g : gE} {A : Nat → Nat → Nat} {o o1 : Off} {v : Int32} (h : o1 = st o 13 6 v) : (embW g A o).set 0 (A 0 0, .inr (8, ([.ref (A 1 0), .ref (A 2 0), .ref (A 3 0), .ref (A 4 0), .ref (A 5 0), .ref (A 6 0), .int (o 13 6), .int (o 13 7), .int (o 13 8), .int (o 13 9)] : List Value).set 6 (.int v))) = embW g A o1 := by subst h; rfl
theorem embW_p7 {g : gE} {A : Nat → Nat → Nat} {o o1 : Off} {v : Int32} (h : o1 = st o 13 7 v) : (embW g A o).set 0 (A 0 0, .inr (8, ([.ref (A 1 0), .ref (A 2 0), .ref (A 3 0), .ref (A 4 0), .ref (A 5 0), .ref (A 6 0), .int (o 13 6), .int (o 13 7), .int (o 13 8), .int (o 13 9)] : List Value).set 7 (.int v))) = embW g A o1 := by subst h; rfl
theorem embW_p8 {g : gE} {A : Nat → Nat → Nat} {o o1 : Off} {v : Int32} (h : o1 = st o 13 8 v) : (embW g A o).set 0 (A 0 0, .inr (8, ([.ref (A 1 0), .ref (A 2 0), .ref (A 3 0), .ref (A 4 0), .ref (A 5 0), .ref (A 6 0), .int (o 13 6), .int (o 13 7), .int (o 13 8), .int (o 13 9)] : List Value).set 8 (.int v))) = embW g A o1 := by subst h; rfl
theorem embW_p9 {g : gE} {A : Nat → Nat → Nat} {o o1 : Off} {v : Int32} (h : o1 = st o 13 9 v) : (embW g A o).set 0 (A 0 0, .inr (8, ([.ref (A 1 0), .ref (A 2 0), .ref (A 3 0), .ref (A 4 0), .ref (A 5 0), .ref (A 6 0), .int (o 13 6), .int (o 13 7), .int (o 13 8), .int (o 13 9)] : List Value).set 9 (.int v))) = embW g A o1 := by subst h; rfl
