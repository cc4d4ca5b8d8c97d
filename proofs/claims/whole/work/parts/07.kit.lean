/-! ===== the words that every contract stands on: all good words of the tables ===== -/
def lw_all : List Cond := Cond.selects RJ4 yJ5_ensureCapacityInternal_d00df yJ5_ensureCapacityInternal_d00df :: lw_tbl.filter goodWord
theorem lw_x : Cond.selects RJ4 yJ5_ensureCapacityInternal_d00df yJ5_ensureCapacityInternal_d00df ∈ lw_all := List.mem_cons_self
theorem lw_in {w : Cond} (h : w ∈ lw_tbl) (hg : goodWord w = true) : w ∈ lw_all := List.mem_cons_of_mem _ (List.mem_filter.mpr ⟨h, hg⟩)
theorem lw_inT {w : Cond} (i : Nat) (h : tables_1[i]? = some w) (hg : goodWord w = true) : w ∈ lw_all := lw_in (List.mem_append_right _ (List.mem_of_getElem? h)) hg
theorem lw_inS {y : MethodName} {n : Nat} (i : Nat) (h : lw_privs[i]? = some (y, n)) : Cond.selects y.cls y y ∈ lw_all :=
  lw_in (List.mem_append_left _ (List.mem_map.mpr ⟨(y, n), List.mem_of_getElem? h, rfl⟩)) rfl
theorem lw_goodAll : GoodIn lw_all lw_all := fun w h => ⟨h, good_of_word ((List.mem_cons.mp h).elim (fun e => by rw [e]; rfl) (fun h => (List.mem_filter.mp h).2))⟩
theorem lw_goodM {y : MethodName} {b : ByteArray} {n : Nat} {ret : Option FieldType} (h : Cond.code y b n ret ∈ lw_all) : GoodIn lw_all (.code y b n ret :: lw_all) :=
  fun w hw => (List.mem_cons.mp hw).elim (fun e => by rw [e]; exact lw_goodAll _ h) (fun hw => lw_goodAll w hw)
/-! ===== worlds as members; a world's parts side by side ===== -/
theorem va_P_iff {D : va_G} {cl : List vw_C} {ws : va_W} {H : Heap} : va_P D cl ws H ↔ ∀ q ∈ ws, va_at D cl q H := by
  constructor
  · intro h q hq
    obtain ⟨k, hk⟩ := List.getElem?_of_mem hq
    exact h k q hk
  · intro h k q hk
    exact h q (List.mem_of_getElem? hk)
theorem va_D_iff {A : Nat → Prop} {ws : va_W} : va_D A ws ↔ (ws.map Prod.fst).Nodup ∧ ∀ q ∈ ws, A q.1 := by
  constructor
  · intro h
    refine ⟨?_, fun q hq => ?_⟩
    · refine List.pairwise_iff_getElem.mpr ?_
      intro i j hi hj hij he
      rw [List.length_map] at hi hj
      rw [List.getElem_map, List.getElem_map] at he
      have := h.1 i j _ _ (List.getElem?_eq_getElem hi) (List.getElem?_eq_getElem hj) he
      omega
    · obtain ⟨k, hk⟩ := List.getElem?_of_mem hq
      exact h.2 k q hk
  · intro h
    refine ⟨fun i j p q hp hq hpq => ?_, fun k q hk => h.2 q (List.mem_of_getElem? hk)⟩
    have hn := List.pairwise_iff_getElem.mp h.1
    obtain ⟨hi, ei⟩ := List.getElem?_eq_some_iff.mp hp
    obtain ⟨hj, ej⟩ := List.getElem?_eq_some_iff.mp hq
    have hi2 : i < (ws.map Prod.fst).length := by rw [List.length_map]; exact hi
    have hj2 : j < (ws.map Prod.fst).length := by rw [List.length_map]; exact hj
    have e : (ws.map Prod.fst)[i] = (ws.map Prod.fst)[j] := by
      rw [List.getElem_map, List.getElem_map, ei, ej]
      exact hpq
    rcases Nat.lt_trichotomy i j with z | z | z
    · exact absurd e (hn i j hi2 hj2 z)
    · exact z
    · exact absurd e.symm (hn j i hj2 hi2 z)
theorem va_P_perm {D : va_G} {cl : List vw_C} {ws ws2 : va_W} {H : Heap} (p : ws.Perm ws2) (h : va_P D cl ws H) : va_P D cl ws2 H :=
  va_P_iff.mpr fun q hq => va_P_iff.mp h q (p.mem_iff.mpr hq)
theorem va_D_perm {A : Nat → Prop} {ws ws2 : va_W} (p : ws.Perm ws2) (h : va_D A ws) : va_D A ws2 :=
  va_D_iff.mpr ⟨(p.map Prod.fst).nodup_iff.mp (va_D_iff.mp h).1, fun q hq => (va_D_iff.mp h).2 q (p.mem_iff.mpr hq)⟩
theorem va_A_iff {ws : va_W} {sz q : Nat} : va_A ws sz q ↔ (∃ e ∈ ws, e.1 = q) ∨ sz ≤ q := by
  constructor
  · intro h
    rcases h with ⟨k, e, h⟩ | h
    · exact Or.inl ⟨(q, e), List.mem_of_getElem? h, rfl⟩
    · exact Or.inr h
  · intro h
    rcases h with ⟨e, he, rfl⟩ | h
    · obtain ⟨k, hk⟩ := List.getElem?_of_mem he
      exact Or.inl ⟨k, e.2, hk⟩
    · exact Or.inr h
theorem gJoin {A0 : Nat → Prop} {D : va_G} {cl : List vw_C} {pre wc suf w1 : va_W} {H H1 : Heap} (hP : va_P D cl (pre ++ (wc ++ suf)) H) (hD : va_D A0 (pre ++ (wc ++ suf)))
    (hk : ∀ q : Nat, q < H.size → ¬ va_A wc H.size q → H1[q]? = H[q]?) (hF : ∀ q, va_A wc H.size q → A0 q) (hP1 : va_P D cl w1 H1) (hD1 : va_D (va_A wc H.size) w1) :
    va_P D cl (pre ++ (w1 ++ suf)) H1 ∧ va_D A0 (pre ++ (w1 ++ suf)) := by
  have hP0 := va_P_iff.mp hP
  have hP2 := va_P_iff.mp hP1
  obtain ⟨hN, hA⟩ := va_D_iff.mp hD
  obtain ⟨hN1, hA1⟩ := va_D_iff.mp hD1
  rw [List.map_append, List.map_append, List.nodup_append, List.nodup_append] at hN
  obtain ⟨n1, ⟨n2, n3, n4⟩, n5⟩ := hN
  have out : ∀ q : Nat × va_E, q ∈ pre ∨ q ∈ suf → q.1 < H.size ∧ ¬ va_A wc H.size q.1 := by
    intro q hq
    have hm : q ∈ pre ++ (wc ++ suf) := by
      rcases hq with hq | hq
      · exact List.mem_append_left _ hq
      · exact List.mem_append_right _ (List.mem_append_right _ hq)
    have hl := (hP0 q hm).lt
    refine ⟨hl, fun h => ?_⟩
    rcases va_A_iff.mp h with ⟨e, he, heq⟩ | h
    · rcases hq with hq | hq
      · exact n5 q.1 (List.mem_map_of_mem hq) e.1 (List.mem_append_left _ (List.mem_map_of_mem he)) heq.symm
      · exact n4 e.1 (List.mem_map_of_mem he) q.1 (List.mem_map_of_mem hq) heq
    · omega
  have keep : ∀ q : Nat × va_E, q ∈ pre ∨ q ∈ suf → va_at D cl q H1 := by
    intro q hq
    obtain ⟨o1, o2⟩ := out q hq
    refine va_at.kept (hP0 q ?_) (hk q.1 o1 o2)
    rcases hq with hq | hq
    · exact List.mem_append_left _ hq
    · exact List.mem_append_right _ (List.mem_append_right _ hq)
  have apart : ∀ q : Nat × va_E, q ∈ pre ∨ q ∈ suf → ∀ z ∈ w1, q.1 ≠ z.1 := fun q hq z hz e => (out q hq).2 (by rw [e]; exact hA1 z hz)
  refine ⟨va_P_iff.mpr fun q hq => ?_, va_D_iff.mpr ⟨?_, fun q hq => ?_⟩⟩
  · rcases List.mem_append.mp hq with h | h
    · exact keep q (Or.inl h)
    · rcases List.mem_append.mp h with h | h
      · exact hP2 q h
      · exact keep q (Or.inr h)
  · rw [List.map_append, List.map_append, List.nodup_append, List.nodup_append]
    refine ⟨n1, ⟨hN1, n3, ?_⟩, ?_⟩
    · intro a ha b hb
      obtain ⟨z, hz, rfl⟩ := List.mem_map.mp ha
      obtain ⟨q, hq, rfl⟩ := List.mem_map.mp hb
      exact (apart q (Or.inr hq) z hz).symm
    · intro a ha b hb
      obtain ⟨q, hq, rfl⟩ := List.mem_map.mp ha
      rcases List.mem_append.mp hb with hb | hb
      · obtain ⟨z, hz, rfl⟩ := List.mem_map.mp hb
        exact apart q (Or.inl hq) z hz
      · exact n5 q.1 (List.mem_map_of_mem hq) b (List.mem_append_right _ hb)
  · rcases List.mem_append.mp hq with h | h
    · exact hA q (List.mem_append_left _ h)
    · rcases List.mem_append.mp h with h | h
      · exact hF q.1 (hA1 q h)
      · exact hA q (List.mem_append_right _ (List.mem_append_right _ h))
theorem gSub {D : va_G} {cl : List vw_C} {pre wc suf : va_W} {H : Heap} (h : va_P D cl (pre ++ (wc ++ suf)) H) : va_P D cl wc H :=
  va_P_iff.mpr fun q hq => va_P_iff.mp h q (List.mem_append_right _ (List.mem_append_left _ hq))
theorem gSubD {A : Nat → Prop} {pre wc suf : va_W} (h : va_D A (pre ++ (wc ++ suf))) : va_D (fun _ => True) wc := by
  obtain ⟨hN, -⟩ := va_D_iff.mp h
  rw [List.map_append, List.map_append, List.nodup_append, List.nodup_append] at hN
  exact va_D_iff.mpr ⟨hN.2.1.1, fun _ _ => trivial⟩
theorem gFree {A0 : Nat → Prop} {pre wc suf : va_W} {H0 H : Heap} {locs : List Loc} (hD : va_D A0 (pre ++ (wc ++ suf))) (hS : va_S A0 H0 H locs) (hA : ∀ q, H0.size ≤ q → A0 q) : ∀ q, va_A wc H.size q → A0 q := by
  intro q h
  rcases va_A_iff.mp h with ⟨e, he, rfl⟩ | h
  · exact (va_D_iff.mp hD).2 e (List.mem_append_right _ (List.mem_append_left _ he))
  · exact hA q (Nat.le_trans hS.1 h)
/-! ===== what every method may lean on: array kinds, constants of the heap ===== -/
abbrev gE : Type := va_G × (Nat → ClassId) × (Nat → Nat) × (Nat → Nat) × (Nat → Nat)
def gT (g : gE) : List (ClassId × FieldType) := [(g.2.1 0, .int), (g.2.1 1, .char), (g.2.1 2, .byte), (g.2.1 3, .object "SockEmbassy$Office"), (g.2.1 4, .long), (g.2.1 5, .double)]
/-- the texts: owner, entry, text, bytes -/
def gTx : List (String × Nat × String × List Int32) := [("SockEmbassy$Office", 84, "rgbw", [114, 103, 98, 119]), ("SockEmbassy$Checks", 22, "rgbw", [114, 103, 98, 119]), ("SockEmbassy$Checks", 103, "osx", [111, 115, 120]), ("SockEmbassy$Commands", 94, "rgbw", [114, 103, 98, 119]), ("SockEmbassy$Commands", 100, "osx", [111, 115, 120]),
  ("SockEmbassy$Commands", 66, "CD", [67, 68]), ("SockEmbassy$Commands", 68, "N>D", [78, 62, 68]), ("SockEmbassy$Commands", 70, "N", [78]), ("SockEmbassy$Commands", 72, "D", [68]), ("SockEmbassy$Commands", 74, "N+D", [78, 43, 68]), ("SockEmbassy$Commands", 76, "N&N", [78, 38, 78]), ("SockEmbassy$Commands", 78, "D=D", [68, 61, 68]), ("SockEmbassy$Commands", 80, "DC", [68, 67]), ("SockEmbassy$Commands", 82, "DDT", [68, 68, 84]), ("SockEmbassy$Commands", 84, "DD", [68, 68]), ("SockEmbassy$Commands", 86, "", []),
  ("SockEmbassy", 352, "there is nothing with this index", []), ("SockEmbassy", 359, "an argument or the input is not valid", []), ("SockEmbassy", 364, "there is no such element", []), ("SockEmbassy", 369, "the call is not possible now", []), ("SockEmbassy", 374, "there are no socks", []), ("SockEmbassy", 388, "the call is rejected", [])]
def gKs (g : gE) (A : Nat → Prop) (U : State) (H : Heap) (i : Nat) (bs : List Int32) : Prop :=
  va_O "java/lang/String" (g.2.2.1 i) A U H ∧ va_OF "java/lang/String" "coder" "B" (.int 0) (g.2.2.1 i) A U H ∧ va_OF "java/lang/String" "value" "[B" (.ref (g.2.2.2.1 i)) (g.2.2.1 i) A U H ∧ va_T .byte (g.2.2.2.1 i) bs.length (fun j => .int (bs.getD j 0)) A U H
def gKh (g : gE) (A : Nat → Prop) (U : State) (H : Heap) : Prop :=
  (∀ (i : Nat) (q : String × Nat × String × List Int32), i < 16 → gTx[i]? = some q → gKs g A U H i q.2.2.2) ∧
  va_Z "java/lang/String" "COMPACT_STRINGS" "Z" (.int 1) A U H ∧
  (va_Z "java/lang/Integer" "DigitTens" "[B" (.ref (g.2.2.2.2 0)) A U H ∧ va_T .byte (g.2.2.2.2 0) 100 (fun j => .int (nI (48 + j / 10))) A U H) ∧
  (va_Z "java/lang/Integer" "DigitOnes" "[B" (.ref (g.2.2.2.2 1)) A U H ∧ va_T .byte (g.2.2.2.2 1) 100 (fun j => .int (nI (48 + j % 10))) A U H) ∧
  vx_Zq Bundle.tN "UNASSIGNED_STACK" Bundle.steD A U H ∧ vx_Zq Bundle.tN "SUPPRESSED_SENTINEL" Bundle.listD A U H ∧ va_Zq "jdk/internal/util/Preconditions" "SIOOBE_FORMATTER" "Ljava/util/function/BiFunction;" A U H
/-- what is thrown, and not of one another's kind -/
def gEx : List String := ["java/lang/ArithmeticException", "java/lang/IllegalArgumentException", "java/lang/IllegalStateException", "java/lang/IndexOutOfBoundsException", "java/lang/UnsupportedOperationException", "java/util/NoSuchElementException"]
def gKr (g : gE) (U : State) : Prop := (∀ (i : Nat) (q : String × Nat × String × List Int32), gTx[i]? = some q → vk_R q.1 q.2.1 q.2.2.1 (g.2.2.1 i) U) ∧ ∀ (i j : Nat) (C D : String), i ≠ j → gEx[i]? = some C → gEx[j]? = some D → va_Nc C D U
def gKc (g : gE) (A : Nat → Prop) (U : State) (H : Heap) : Prop := gKh g A U H ∧ gKr g U
theorem gKh.moved {g : gE} {A : Nat → Prop} {u U : State} {H : Heap} (hvm : u.vm.Alike U.vm) (h : gKh g A u H) : gKh g A U H :=
  ⟨fun i q hi hq => ⟨va_O.moved hvm (h.1 i q hi hq).1, va_OF.moved hvm (h.1 i q hi hq).2.1, va_OF.moved hvm (h.1 i q hi hq).2.2.1, va_T.moved hvm (h.1 i q hi hq).2.2.2⟩, va_Z.moved hvm h.2.1, ⟨va_Z.moved hvm h.2.2.1.1, va_T.moved hvm h.2.2.1.2⟩, ⟨va_Z.moved hvm h.2.2.2.1.1, va_T.moved hvm h.2.2.2.1.2⟩, vx_Zq.moved hvm h.2.2.2.2.1, vx_Zq.moved hvm h.2.2.2.2.2.1, va_Zq.moved hvm h.2.2.2.2.2.2⟩
theorem gKh.kept {g : gE} {A : Nat → Prop} {U : State} {H H1 : Heap} (h : gKh g A U H) (hq : ∀ a : Nat, a < H.size → ¬ A a → H1[a]? = H[a]?) : gKh g A U H1 :=
  ⟨fun i q hi hq2 => ⟨va_O.kept (h.1 i q hi hq2).1 hq, va_OF.kept (h.1 i q hi hq2).2.1 hq, va_OF.kept (h.1 i q hi hq2).2.2.1 hq, va_T.kept (h.1 i q hi hq2).2.2.2 hq⟩, va_Z.kept h.2.1 hq, ⟨va_Z.kept h.2.2.1.1 hq, va_T.kept h.2.2.1.2 hq⟩, ⟨va_Z.kept h.2.2.2.1.1 hq, va_T.kept h.2.2.2.1.2 hq⟩, vx_Zq.kept h.2.2.2.2.1 hq, vx_Zq.kept h.2.2.2.2.2.1 hq, va_Zq.kept h.2.2.2.2.2.2 hq⟩
theorem gKh.narrow {g : gE} {A B : Nat → Prop} {U : State} {H : Heap} (h : gKh g A U H) (hAB : ∀ q, B q → A q) : gKh g B U H :=
  ⟨fun i q hi hq => ⟨va_O.narrow (h.1 i q hi hq).1 hAB, va_OF.narrow (h.1 i q hi hq).2.1 hAB, va_OF.narrow (h.1 i q hi hq).2.2.1 hAB, va_T.narrow (h.1 i q hi hq).2.2.2 hAB⟩, va_Z.narrow h.2.1 hAB, ⟨va_Z.narrow h.2.2.1.1 hAB, va_T.narrow h.2.2.1.2 hAB⟩, ⟨va_Z.narrow h.2.2.2.1.1 hAB, va_T.narrow h.2.2.2.1.2 hAB⟩, vx_Zq.narrow h.2.2.2.2.1 hAB, vx_Zq.narrow h.2.2.2.2.2.1 hAB, va_Zq.narrow h.2.2.2.2.2.2 hAB⟩
theorem gKc.at {g : gE} {A B : Nat → Prop} {s U : State} {H : Heap} (h : gKc g A s s.heap) (hq : ∀ a : Nat, a < s.heap.size → ¬ A a → H[a]? = s.heap[a]?) (hAB : ∀ q, B q → A q) (hU : U.heap = H) (hW : s.WarmedH U.vm) : gKc g B U U.heap :=
  ⟨by rw [hU]; exact gKh.moved hW.alike ((h.1.kept hq).narrow hAB), fun i q hi => vk_R.warm hW (h.2.1 i q hi), fun i j C D n h1 h2 => va_Nc.moved hW.alike (h.2.2 i j C D n h1 h2)⟩
theorem gKc.same {g : gE} {A : Nat → Prop} {u U : State} {H : Heap} (hv : U.vm = u.vm) (h : gKc g A u H) : gKc g A U H :=
  ⟨gKh.moved (by rw [hv]; exact Vm.Alike.refl u.vm) h.1, fun i q hi => vk_R.same hv (h.2.1 i q hi), fun i j C D n h1 h2 => va_Nc.moved (by rw [hv]; exact Vm.Alike.refl u.vm) (h.2.2 i j C D n h1 h2)⟩
/-! ===== the walk's state, its heap hidden ===== -/
abbrev gX : Type := Program × Launch × Env × Room × State × MethodId × Array Value × List Frame × Method × Code × (Nat → Prop) × (State → Prop)
abbrev x_p (x : gX) : Program := x.1
abbrev x_l (x : gX) : Launch := x.2.1
abbrev x_e (x : gX) : Env := x.2.2.1
abbrev x_R (x : gX) : Room := x.2.2.2.1
abbrev x_s (x : gX) : State := x.2.2.2.2.1
abbrev x_m (x : gX) : MethodId := x.2.2.2.2.2.1
abbrev x_args (x : gX) : Array Value := x.2.2.2.2.2.2.1
abbrev x_below (x : gX) : List Frame := x.2.2.2.2.2.2.2.1
abbrev x_meth (x : gX) : Method := x.2.2.2.2.2.2.2.2.1
abbrev x_c (x : gX) : Code := x.2.2.2.2.2.2.2.2.2.1
abbrev x_A (x : gX) : Nat → Prop := x.2.2.2.2.2.2.2.2.2.2.1
abbrev x_Q (x : gX) : State → Prop := x.2.2.2.2.2.2.2.2.2.2.2
def gW (x : gX) (H : Heap) (locs : List Loc) (k n : Nat) (pc : Nat) (ls : Array Slot) (st : List Value) : Prop :=
  W (x_p x) (x_l x) (x_e x) (x_R x) (x_s x) (x_m x) (x_args x) (x_below x) (x_meth x) (x_c x) H locs k n (x_Q x) (F0 (x_m x) pc ls st)
def G (x : gX) (g : gE) (nL k n : Nat) (ws : va_W) (pc : Nat) (lv : List (Nat × Value)) (st : List Value) : Prop :=
  ∀ (H : Heap) (locs : List Loc) (ls : Array Slot), va_P g.1 vwCl ws H → va_D (x_A x) ws → va_S (x_A x) (x_s x).heap H locs → lv_has ls nL lv → gW x H locs k n pc ls st
/-- what holds all along a walk -/
def gC (x : gX) (l : Launch) (cc : ByteArray) (nL : Nat) (own : String) (g : gE) (fr lo mc ms : Nat) : Prop :=
  (x_p x).tables.exec = Jvm.exec ∧ (x_c x).code = cc ∧ (x_c x).maxLocals = nL ∧ (x_s x).vm.findClass own = some (x_m x).cls ∧ (∀ w ∈ lw_all, w.before (x_args x) (x_s x) = true) ∧ va_K g.1 vwCl (gT g) (x_s x) ∧ (∀ q, (x_s x).heap.size ≤ q → (x_A x) q) ∧ (x_meth x).locks = false ∧ x_l x = l ∧ x_R x = ({ frames := fr, cells := mc, slots := ms, locals := lo } : Room) ∧ gKc g (x_A x) (x_s x) (x_s x).heap
/-- a method's end: what it returned, the world behind it -/
def gEnd (g : gE) (wc : va_W) (sz : Nat) (post : Option Value → va_W → Prop) : Array Value → State → Outcome → State → Prop := fun _ st oc t =>
  ∃ (r : Option Value) (w1 : va_W), oc = .returned r ∧ post r w1 ∧ va_P g.1 vwCl w1 t.heap ∧ va_D (va_A wc sz) w1 ∧ va_F (va_A wc sz) st t
def gPre (g : gE) (wc : va_W) (sz : Nat) (U : State) : Prop := U.heap.size = sz ∧ va_P g.1 vwCl wc U.heap ∧ va_K g.1 vwCl (gT g) U ∧ va_D (fun _ => True) wc ∧ gKc g (va_A wc sz) U U.heap
/-- METHOD y on the arguments As in the world wc: it returns r and leaves the world w1, 'post r w1' -/
def Fn (l : Launch) (g : gE) (y : MethodName) (b : ByteArray) (n : Nat) (ret : Option FieldType) (fr lo mc ms : Nat) (wc : va_W) (As : List Value) (post : Option Value → va_W → Prop) : Prop :=
  ∀ sz : Nat, Met l y (.code y b n ret :: lw_all) ({ frames := fr, cells := mc, slots := ms, locals := lo } : Room) (va_Pc As (gPre g wc sz)) (gEnd g wc sz post) mc ms (va_A wc sz)
def gZ (x : gX) (g : gE) (ret : Option FieldType) (wc : va_W) (post : Option Value → va_W → Prop) (mc ms : Nat) : Prop :=
  (x_meth x).sig.returnType = ret ∧ x_A x = va_A wc (x_s x).heap.size ∧ x_Q x = MQ (x_below x) (gEnd g wc (x_s x).heap.size post) (x_args x) (x_s x) mc ms (va_A wc (x_s x).heap.size)
theorem Fn.of {l : Launch} {g : gE} {y : MethodName} {b : ByteArray} {n : Nat} {ret : Option FieldType} {fr lo mc ms : Nat} {wc : va_W} {As : List Value} {post : Option Value → va_W → Prop} (hy : plainName y.cls = true) (hlen : (lg_sl As).length ≤ n)
    (body : ∀ x : gX, gC x l b n y.cls g fr lo mc ms → gZ x g ret wc post mc ms → G x g n 0 0 wc 0 (lv_args 0 As) []) : Fn l g y b n ret fr lo mc ms wc As post := by
  intro sz
  refine Met.ofW (cc := b) (maxL := n) (ret := ret) hy rfl ?_
  intro p e s m args below meth c s₁ B hml hv
  obtain ⟨rfl, hsz, hP, hK, hD0, hKc⟩ := hv
  subst hsz
  have hD := hD0.self (sz := s.heap.size)
  have hts := atoms_spec (ws := .code y b n ret :: lw_all) B.pre
  have hl := lv_entry As (n := n) hlen
  rw [lg_entry_eq]
  exact body (p, l, e, (headSpec (.code y b n ret :: lw_all) ({ frames := fr, cells := mc, slots := ms, locals := lo } : Room)).room, s, m, As.toArray, below, meth, c, va_A wc s.heap.size, MQ below (gEnd g wc s.heap.size post) As.toArray s mc ms (va_A wc s.heap.size))
    ⟨B.exec, B.bytes, hml, findClass_of_methodNamed B.named, fun w hw => hts w (List.mem_cons_of_mem _ hw), hK, fun q hq => Or.inr hq, B.notSynchronized, rfl, rfl, hKc⟩ ⟨B.returns, rfl, rfl⟩ s.heap [] _ hP hD va_S.rf hl
theorem gBlind {g : gE} {wc : va_W} {sz : Nat} {As : List Value} : FrameBlind (va_Pc As (gPre g wc sz)) := by
  intro a U f mk q
  obtain ⟨q0, q1, qP, qK, qD, qC⟩ := q
  exact ⟨q0, q1, qP, va_K.moved (u := U) (U := U.calling f mk a) (Vm.Alike.refl U.vm) qK, qD, gKc.same rfl qC⟩
theorem gYes {x : gX} {l : Launch} {cc : ByteArray} {nL : Nat} {own : String} {g : gE} {fr lo mc ms : Nat} (hC : gC x l cc nL own g fr lo mc ms) {pre wc suf : va_W} {H : Heap} {locs : List Loc} (hP : va_P g.1 vwCl (pre ++ (wc ++ suf)) H) (hD : va_D (x_A x) (pre ++ (wc ++ suf))) (hS : va_S (x_A x) (x_s x).heap H locs) {U : State} (hU : U.heap = H) (hW : (x_s x).WarmedH U.vm) : gPre g wc H.size U :=
  ⟨by rw [hU], by rw [hU]; exact gSub hP, va_K.moved hW.alike hC.2.2.2.2.2.1, gSubD hD, gKc.at hC.2.2.2.2.2.2.2.2.2.2 hS.2.1 (gFree hD hS hC.2.2.2.2.2.2.1) hU hW⟩
theorem gBack {x : gX} {l : Launch} {cc : ByteArray} {nL : Nat} {own : String} {g : gE} {fr lo mc ms : Nat} (hC : gC x l cc nL own g fr lo mc ms) {pre wc suf : va_W} {H : Heap} {locs : List Loc} {k n mc' ms' pc pc2 : Nat} {ls : Array Slot} {st rest : List Value} {lv : List (Nat × Value)} {post : Option Value → va_W → Prop} {a : Array Value}
    (hP : va_P g.1 vwCl (pre ++ (wc ++ suf)) H) (hD : va_D (x_A x) (pre ++ (wc ++ suf))) (hS : va_S (x_A x) (x_s x).heap H locs) (hl : lv_has ls nL lv) (e : pc + 3 = pc2)
    (hr : va_Run (x_p x) (x_l x) (x_e x) (x_R x) (x_s x) (x_m x) (x_args x) (x_below x) (x_meth x) (x_c x) H locs k n mc' ms' (F0 (x_m x) pc ls st) rest (gEnd g wc H.size post a) (va_A wc H.size))
    (kk : ∀ (r : Option Value) (w1 : va_W), post r w1 → G x g nL (k + mc') (n + ms') (pre ++ (w1 ++ suf)) pc2 lv (r.toList ++ rest)) : gW x H locs k n pc ls st := by
  subst e
  intro T hT X
  obtain ⟨v, st₀, t, T', L, h0, X', hL, e1, e2, ⟨r, w1, hv, hp, hP1, hD1, hz, hk⟩, stp⟩ := hr T hT X
  cases hv
  rw [h0] at hz hk
  have hFr := gFree hD hS hC.2.2.2.2.2.2.1
  have hk' : ∀ q : Nat, q < H.size → ¬ va_A wc H.size q → t.heap[q]? = H[q]? := hk
  obtain ⟨hP2, hD2⟩ := gJoin hP hD hk' hFr hP1 hD1
  rw [← e1] at hP2
  have hS2 : va_S (x_A x) (x_s x).heap T'.heap (locs ++ L) := ⟨Nat.le_trans hS.1 (by rw [e1]; exact hz), fun q h1 h2 => by rw [e1, hk' q (Nat.lt_of_lt_of_le h1 hS.1) (fun z => h2 (hFr q z))]; exact hS.2.1 q h1 h2, fun q hq => by
      rcases List.mem_append.mp hq with h | h
      · exact hS.2.2 q h
      · exact hFr _ (hL q h)⟩
  obtain ⟨t2, a1, b1⟩ := kk v w1 hp T'.heap (locs ++ L) ls hP2 hD2 hS2 hl T' rfl X'
  exact ⟨t2, stp t2 a1, b1⟩
/-- the words of a callee: by a receiver, static, a constructor -/
def gY0 (y : MethodName) (b : ByteArray) (n : Nat) (ret : Option FieldType) (np : Nat) : Prop := Cond.initialized y.cls ∈ lw_all ∧ Cond.code y b n ret ∈ lw_all ∧ (y.cls ≠ "java/lang/invoke/MethodHandle" ∧ y.cls ≠ "java/lang/invoke/VarHandle" ∧ (parseMethodDescriptor y.desc).map (fun d => d.parameters.length) = some np)
def gYv (y : MethodName) (b : ByteArray) (n : Nat) (ret : Option FieldType) (np : Nat) : Prop := gY0 y b n ret np ∧ Cond.instanceMethod y ∈ lw_all ∧ Cond.selects y.cls y y ∈ lw_all
def gYs (y : MethodName) (b : ByteArray) (n : Nat) (ret : Option FieldType) (np : Nat) : Prop := gY0 y b n ret np ∧ Cond.static y ∈ lw_all
def gYi (y : MethodName) (b : ByteArray) (n : Nat) (np : Nat) : Prop := gY0 y b n none np ∧ Cond.instanceMethod y ∈ lw_all ∧ y.name = "<init>"
theorem gRoom {x : gX} {l : Launch} {cc : ByteArray} {nL : Nat} {own : String} {g : gE} {fr lo mc ms : Nat} (hC : gC x l cc nL own g fr lo mc ms) {k n mc' ms' : Nat} (h : k + mc' ≤ mc ∧ n + ms' ≤ ms) : k + mc' ≤ (x_R x).cells ∧ n + ms' ≤ (x_R x).slots := by
  rw [hC.2.2.2.2.2.2.2.2.2.1]
  exact h
theorem gRoom2 {x : gX} {l : Launch} {cc : ByteArray} {nL : Nat} {own : String} {g : gE} {fr lo mc ms : Nat} (hC : gC x l cc nL own g fr lo mc ms) {fr' lo' nM mc' ms' : Nat} (h : fr' + 1 ≤ fr ∧ 8 + (nM + 11) + lo' ≤ lo) : ({ frames := fr', cells := mc', slots := ms', locals := lo' } : Room).frames + 1 ≤ (x_R x).frames ∧ 8 + (nM + 11) + ({ frames := fr', cells := mc', slots := ms', locals := lo' } : Room).locals ≤ (x_R x).locals := by
  rw [hC.2.2.2.2.2.2.2.2.2.1]
  exact h
theorem g_callV {x : gX} {l : Launch} {cc : ByteArray} {nL : Nat} {own : String} {g : gE} {fr lo mc ms k n pc : Nat} {ws : va_W} {lv : List (Nat × Value)} {st : List Value} (hC : gC x l cc nL own g fr lo mc ms)
    {y : MethodName} {b : ByteArray} {nM fr' lo' mc' ms' np : Nat} {ret : Option FieldType} {wc : va_W} {As As' : List Value} {post : Option Value → va_W → Prop} (hF : Fn l g y b nM ret fr' lo' mc' ms' wc As' post) (hY : gYv y b nM ret np) {idx : Nat} (hd : decode cc pc = .ok (.invokevirtual idx, 3)) (pc2 : Nat) (e : pc + 3 = pc2) (hl : Cond.methodLink own idx y ∈ lw_all)
    (pre suf : va_W) (hw : ws = pre ++ (wc ++ suf)) {a : Nat} (rest : List Value) (hAs : As' = .ref a :: As) (hst : st = As.reverse ++ .ref a :: rest) (hn : As.length = np) (q0 ci : Nat) {fs : List Value} {T : u_T} {N : Nat} (hci : vwCl[ci]? = some (y.cls, T, N)) (hq0 : wc[q0]? = some (a, .inr (ci, fs)))
    (hR : fr' + 1 ≤ fr ∧ 8 + (nM + 11) + lo' ≤ lo) (hcat : (rest.map fun v => v.category).sum ≤ 8) (hkn : k + mc' ≤ mc ∧ n + ms' ≤ ms)
    (kk : ∀ (r : Option Value) (w1 : va_W), post r w1 → G x g nL (k + mc') (n + ms') (pre ++ (w1 ++ suf)) pc2 lv (r.toList ++ rest)) : G x g nL k n ws pc lv st := by
  subst hw; subst hAs; subst hst
  intro H locs ls hP hD hS h
  obtain ⟨⟨y1, y2, y3⟩, y4, y5⟩ := hY
  have hM := hF H.size
  rw [← hC.2.2.2.2.2.2.2.2.1] at hM
  have hT : GoodIn lw_all (wsV own idx y.cls y (.code y b nM ret :: lw_all)) := fun w hw => lw_goodAll w (by
    rcases List.mem_append.mp hw with h1 | h1
    · simp only [List.mem_cons, List.not_mem_nil, or_false] at h1
      rcases h1 with rfl | rfl | rfl | rfl
      · exact hl
      · exact y4
      · exact y5
      · exact y1
    · rcases List.mem_cons.mp h1 with rfl | h1
      · exact y2
      · exact h1)
  exact gBack hC hP hD hS h e (va_runV (As := As) (rest := rest) ⟨hC.1, hC.2.1, hC.2.2.1, hC.2.2.2.1, hC.2.2.2.2.1⟩ hM (cwV np hC.2.2.2.2.1 hT rfl rfl rfl ⟨rfl, y3⟩ (gRoom2 hC hR))
    ⟨gBlind, va_recv hC.2.2.2.2.2.1 (gSub hP) hci hq0, fun U hU hW => ⟨rfl, gYes hC hP hD hS hU hW⟩⟩ rfl hn h.1 rfl (lv_room hcat) hd (gRoom hC hkn)) kk
theorem g_callS {x : gX} {l : Launch} {cc : ByteArray} {nL : Nat} {own : String} {g : gE} {fr lo mc ms k n pc : Nat} {ws : va_W} {lv : List (Nat × Value)} {st : List Value} (hC : gC x l cc nL own g fr lo mc ms)
    {y : MethodName} {b : ByteArray} {nM fr' lo' mc' ms' np : Nat} {ret : Option FieldType} {wc : va_W} {As : List Value} {post : Option Value → va_W → Prop} (hF : Fn l g y b nM ret fr' lo' mc' ms' wc As post) (hY : gYs y b nM ret np) {idx : Nat} (hd : decode cc pc = .ok (.invokestatic idx, 3)) (pc2 : Nat) (e : pc + 3 = pc2) (hl : Cond.methodLink own idx y ∈ lw_all)
    (pre suf : va_W) (hw : ws = pre ++ (wc ++ suf)) (rest : List Value) (hst : st = As.reverse ++ rest) (hn : As.length = np)
    (hR : fr' + 1 ≤ fr ∧ 8 + (nM + 11) + lo' ≤ lo) (hcat : (rest.map fun v => v.category).sum ≤ 8) (hkn : k + mc' ≤ mc ∧ n + ms' ≤ ms)
    (kk : ∀ (r : Option Value) (w1 : va_W), post r w1 → G x g nL (k + mc') (n + ms') (pre ++ (w1 ++ suf)) pc2 lv (r.toList ++ rest)) : G x g nL k n ws pc lv st := by
  subst hw; subst hst
  intro H locs ls hP hD hS h
  obtain ⟨⟨y1, y2, y3⟩, y4⟩ := hY
  have hM := hF H.size
  rw [← hC.2.2.2.2.2.2.2.2.1] at hM
  have hT : GoodIn lw_all (va_wsS own idx y (.code y b nM ret :: lw_all)) := fun w hw => lw_goodAll w (by
    rcases List.mem_append.mp hw with h1 | h1
    · simp only [List.mem_cons, List.not_mem_nil, or_false] at h1
      rcases h1 with rfl | rfl | rfl
      · exact hl
      · exact y4
      · exact y1
    · rcases List.mem_cons.mp h1 with rfl | h1
      · exact y2
      · exact h1)
  exact gBack hC hP hD hS h e (va_runS (As := As) (rest := rest) ⟨hC.1, hC.2.1, hC.2.2.1, hC.2.2.2.1, hC.2.2.2.2.1⟩ hM (va_cwS np hC.2.2.2.2.1 hT rfl rfl rfl y3 (gRoom2 hC hR))
    ⟨gBlind, fun U hU hW => ⟨rfl, gYes hC hP hD hS hU hW⟩⟩ rfl hn h.1 rfl (lv_room hcat) hd (gRoom hC hkn)) kk
theorem g_callI {x : gX} {l : Launch} {cc : ByteArray} {nL : Nat} {own : String} {g : gE} {fr lo mc ms k n pc : Nat} {ws : va_W} {lv : List (Nat × Value)} {st : List Value} (hC : gC x l cc nL own g fr lo mc ms)
    {y : MethodName} {b : ByteArray} {nM fr' lo' mc' ms' np : Nat} {wc : va_W} {As As' : List Value} {post : Option Value → va_W → Prop} (hF : Fn l g y b nM none fr' lo' mc' ms' wc As' post) (hY : gYi y b nM np) {idx : Nat} (hd : decode cc pc = .ok (.invokespecial idx, 3)) (pc2 : Nat) (e : pc + 3 = pc2) (hl : Cond.methodLink own idx y ∈ lw_all)
    (pre suf : va_W) (hw : ws = pre ++ (wc ++ suf)) {a : Nat} (rest : List Value) (hAs : As' = .ref a :: As) (hst : st = As.reverse ++ .ref a :: rest) (hn : As.length = np)
    (hR : fr' + 1 ≤ fr ∧ 8 + (nM + 11) + lo' ≤ lo) (hcat : (rest.map fun v => v.category).sum ≤ 8) (hkn : k + mc' ≤ mc ∧ n + ms' ≤ ms)
    (kk : ∀ (r : Option Value) (w1 : va_W), post r w1 → G x g nL (k + mc') (n + ms') (pre ++ (w1 ++ suf)) pc2 lv (r.toList ++ rest)) : G x g nL k n ws pc lv st := by
  subst hw; subst hAs; subst hst
  intro H locs ls hP hD hS h
  obtain ⟨⟨y1, y2, y3⟩, y4, y5⟩ := hY
  have hM := hF H.size
  rw [← hC.2.2.2.2.2.2.2.2.1] at hM
  have hts := hC.2.2.2.2.1
  exact gBack hC hP hD hS h e (va_runI (As := As) (rest := rest) ⟨hC.1, hC.2.1, hC.2.2.1, hC.2.2.2.1, hC.2.2.2.2.1⟩ hM (cwI np hts (lw_goodM y2) rfl rfl rfl (hts _ y1) (hts _ hl) (hts _ y4) y5 y3 (gRoom2 hC hR))
    ⟨gBlind, fun U hU hW => ⟨rfl, gYes hC hP hD hS hU hW⟩⟩ rfl hn h.1 rfl (lv_room hcat) hd (gRoom hC hkn)) kk
theorem g_callIN {x : gX} {l : Launch} {cc : ByteArray} {nL : Nat} {own host : String} {g : gE} {fr lo mc ms k n pc : Nat} {ws : va_W} {lv : List (Nat × Value)} {st : List Value} (hC : gC x l cc nL own g fr lo mc ms)
    {y : MethodName} {b : ByteArray} {nM fr' lo' mc' ms' np : Nat} {wc : va_W} {As As' : List Value} {post : Option Value → va_W → Prop} (hF : Fn l g y b nM none fr' lo' mc' ms' wc As' post) (hY : gYi y b nM np) {idx : Nat} (hd : decode cc pc = .ok (.invokespecial idx, 3)) (pc2 : Nat) (e : pc + 3 = pc2) (hl : va_Nw (.methodLinkNest own idx y host) (x_s x))
    (pre suf : va_W) (hw : ws = pre ++ (wc ++ suf)) {a : Nat} (rest : List Value) (hAs : As' = .ref a :: As) (hst : st = As.reverse ++ .ref a :: rest) (hn : As.length = np)
    (hR : fr' + 1 ≤ fr ∧ 8 + (nM + 11) + lo' ≤ lo) (hcat : (rest.map fun v => v.category).sum ≤ 8) (hkn : k + mc' ≤ mc ∧ n + ms' ≤ ms)
    (kk : ∀ (r : Option Value) (w1 : va_W), post r w1 → G x g nL (k + mc') (n + ms') (pre ++ (w1 ++ suf)) pc2 lv (r.toList ++ rest)) : G x g nL k n ws pc lv st := by
  subst hw; subst hAs; subst hst
  intro H locs ls hP hD hS h
  obtain ⟨⟨y1, y2, y3⟩, y4, y5⟩ := hY
  have hM := hF H.size
  rw [← hC.2.2.2.2.2.2.2.2.1] at hM
  have hts := hC.2.2.2.2.1
  exact gBack hC hP hD hS h e (va_runIN (As := As) (rest := rest) ⟨hC.1, hC.2.1, hC.2.2.1, hC.2.2.2.1, hC.2.2.2.2.1⟩ hM ⟨va_cnB np hts (lw_goodM y2) rfl rfl rfl hl (hts _ y1) y3 (gRoom2 hC hR), y5, hts _ y4⟩
    ⟨gBlind, fun U hU hW => ⟨rfl, gYes hC hP hD hS hU hW⟩⟩ rfl hn h.1 rfl (lv_room hcat) hd (gRoom hC hkn)) kk
