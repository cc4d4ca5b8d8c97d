def lenM (i : Nat) : Nat := if i = 5 then 1280 else 160
/-- 160 numbers of row i from f on, laid into row j from t on -/
def cpO (o : Off) (i j f t : Nat) : Off := fun r => if r = j then (fun q => if t ≤ q ∧ q < t + 160 then o i (f + (q - t)) else o j q) else o r
/-- .. the first c of them -/
def cpP (o : Off) (i j f t c : Nat) : Off := fun r => if r = j then (fun q => if t ≤ q ∧ q < t + c then o i (f + (q - t)) else o j q) else o r
theorem modW_at {g : gE} {a : Nat → Nat} {o : Off} {i : Nat} (h1 : 1 ≤ i) (h5 : i ≤ 5) : (modW g a o)[i]? = some (a i, .inl (g.2.1 0, lenM i, .inl (o i))) := by
  rcases (show i = 1 ∨ i = 2 ∨ i = 3 ∨ i = 4 ∨ i = 5 by omega) with rfl | rfl | rfl | rfl | rfl <;> rfl
theorem modW_set {g : gE} {a : Nat → Nat} {o o1 : Off} {j q : Nat} {v : Int32} (h1 : 1 ≤ j) (h5 : j ≤ 5) (h : o1 = st o j q v) : (modW g a o).set j (a j, .inl (g.2.1 0, lenM j, .inl (upd (o j) q v))) = modW g a o1 := by
  subst h
  rcases (show j = 1 ∨ j = 2 ∨ j = 3 ∨ j = 4 ∨ j = 5 by omega) with rfl | rfl | rfl | rfl | rfl <;> rfl
theorem cpP_0 {o : Off} {i j f t : Nat} : cpP o i j f t 0 = o := by
  funext r q
  unfold cpP
  by_cases h : r = j
  · subst h
    rw [if_pos rfl, if_neg (by omega)]
  · rw [if_neg h]
theorem cpP_1 {o : Off} {i j f t c : Nat} (hij : i ≠ j ∨ t + 160 ≤ f) (hc : c < 160) : st (cpP o i j f t c) j (t + c) (cpP o i j f t c i (f + c)) = cpP o i j f t (c + 1) := by
  have e : cpP o i j f t c i (f + c) = o i (f + c) := by
    unfold cpP
    by_cases h : i = j
    · subst h
      have hn : ¬ (t ≤ f + c ∧ f + c < t + c) := by
        rcases hij with h | h
        · exact absurd rfl h
        · omega
      rw [if_pos rfl, if_neg hn]
    · rw [if_neg h]
  rw [e]
  funext r q
  unfold st
  by_cases h : r = j
  · subst h
    rw [if_pos rfl]
    unfold upd cpP
    simp only [if_true]
    by_cases hq : q = t + c
    · subst hq
      rw [if_pos rfl, if_pos ⟨by omega, by omega⟩, show f + (t + c - t) = f + c by omega]
    · rw [if_neg hq]
      by_cases h2 : t ≤ q ∧ q < t + c
      · rw [if_pos h2, if_pos ⟨h2.1, by omega⟩]
      · rw [if_neg h2, if_neg (by omega)]
  · rw [if_neg h]
    unfold cpP
    rw [if_neg h, if_neg h]
def wp_X5_copy (post : Off → Prop) (o : Off) (i j : Nat) (p1 p3 : Int32) : Prop := ∃ f t : Nat, p1 = nI f ∧ p3 = nI t ∧ 1 ≤ i ∧ i ≤ 5 ∧ 1 ≤ j ∧ j ≤ 5 ∧ f + 160 ≤ lenM i ∧ t + 160 ≤ lenM j ∧ (i ≠ j ∨ t + 160 ≤ f) ∧ post (cpO o i j f t)
set_option maxRecDepth 100000 in
set_option maxHeartbeats 4000000 in
theorem ct_X5_copy (l : Launch) (g : gE) (a : Nat → Nat) (o : Off) (i j : Nat) (p1 p3 : Int32) (post : Off → Prop) (h : wp_X5_copy post o i j p1 p3) : Fn l g yX5_copy cX5_copy 5 none 0 0 0 0 (modW g a o) [.ref (a i), .int p1, .ref (a j), .int p3] (pV (modW g a) post) := by
  refine Fn.of (by decide) (Nat.le_of_ble_eq_true rfl) (fun x hC hZ => ?_)
  obtain ⟨f, t, rfl, rfl, i1, i5, j1, j5, hf, ht, hij, hp⟩ := h
  have hl : ∀ r, lenM r ≤ 1280 := by intro r; unfold lenM; split <;> omega
  have hli := hl i
  have hlj := hl j
  show G x g 5 0 0 (modW g a o) 0 [(0, .ref (a i)), (1, .int (nI f)), (2, .ref (a j)), (3, .int (nI t))] []
  refine g_iconst hC (0 : Int32) dX5_copy_0 1 rfl iconst_0 ?_
  refine g_istore (lv2 := [(4, .int 0), (0, .ref (a i)), (1, .int (nI f)), (2, .ref (a j)), (3, .int (nI t))]) hC dX5_copy_1 3 rfl (by decide) rfl ?_
  have K : ∀ n c : Nat, 160 ≤ c + n → c ≤ 160 → G x g 5 0 0 (modW g a (cpP o i j f t c)) 3 [(4, .int (nI c)), (0, .ref (a i)), (1, .int (nI f)), (2, .ref (a j)), (3, .int (nI t))] [] := by
    intro n
    induction n with
    | zero =>
      intro c h1 h2
      have hc : c = 160 := by omega
      subst hc
      refine g_iload hC dX5_copy_3 5 rfl 0 rfl ?_
      refine g_sipush hC (160 : Int32) dX5_copy_5 8 rfl sipush_160 ?_
      refine g_icmp_ge hC dX5_copy_8 29 (by decide) 11 rfl (fun _ => ?_) (fun c => absurd (nI_le (Nat.le_refl 160) (by decide)) c)
      exact g_vret hC hZ dX5_copy_29 ⟨_, rfl, rfl, hp⟩
    | succ n ih =>
      intro c h1 h2
      refine g_iload hC dX5_copy_3 5 rfl 0 rfl ?_
      refine g_sipush hC (160 : Int32) dX5_copy_5 8 rfl sipush_160 ?_
      refine g_icmp_ge hC dX5_copy_8 29 (by decide) 11 rfl (fun q => ?_) (fun q => ?_)
      · have hc : c = 160 := by
          have := (nI_leI (a := 160) (b := c) (by decide) (by omega)).mp q
          omega
        subst hc
        exact g_vret hC hZ dX5_copy_29 ⟨_, rfl, rfl, hp⟩
      · have hc : c < 160 := by
          rcases Nat.lt_or_ge c 160 with z | z
          · exact z
          · exact absurd (nI_le (a := 160) z (by omega)) q
        refine g_aload_n hC dX5_copy_11 12 rfl rfl 3 rfl ?_
        refine g_iload_n hC dX5_copy_12 13 rfl rfl 4 rfl ?_
        refine g_iload hC dX5_copy_13 15 rfl 0 rfl ?_
        refine g_iadd hC dX5_copy_15 16 rfl ?_
        refine g_aload_n hC dX5_copy_16 17 rfl rfl 1 rfl ?_
        refine g_iload_n hC dX5_copy_17 18 rfl rfl 2 rfl ?_
        refine g_iload hC dX5_copy_18 20 rfl 0 rfl ?_
        refine g_iadd hC dX5_copy_20 21 rfl ?_
        rw [nI_add, nI_add]
        refine g_iald hC dX5_copy_21 22 rfl i (modW_at i1 i5) (vp_in_nI (by omega) (by omega)) ?_
        refine g_iast hC dX5_copy_22 23 rfl j (modW_at j1 j5) (vp_in_nI (by omega) (by omega)) (modW_set j1 j5 (o1 := cpP o i j f t (c + 1)) (by rw [nI_clamp (by omega), nI_clamp (by omega)]; exact (cpP_1 hij hc).symm)) ?_
        refine g_iinc (v2 := nI (c + 1)) (lv2 := [(4, .int (nI (c + 1))), (0, .ref (a i)), (1, .int (nI f)), (2, .ref (a j)), (3, .int (nI t))]) hC dX5_copy_23 26 rfl 0 rfl (by rw [iconst_1]; exact nI_1 c) (by decide) rfl ?_
        refine g_goto hC dX5_copy_26 3 (by decide) ?_
        exact ih (c + 1) (by omega) (by omega)
  have h0 := K 160 0 (by omega) (by omega)
  rw [cpP_0] at h0
  exact h0
def wp_X5_thrown (post : Int32 → Prop) (o : Off) : Prop := post (o 0 5)
set_option maxRecDepth 100000 in
set_option maxHeartbeats 4000000 in
theorem ct_X5_thrown (l : Launch) (g : gE) (a : Nat → Nat) (o : Off) (post : Int32 → Prop) (h : wp_X5_thrown post o ) : Fn l g yX5_thrown cX5_thrown 1 (some .int) 0 0 0 0 (modW g a o) [.ref (a 0)] (pR (modW g a o) post) := by
  refine Fn.of (by decide) (Nat.le_of_ble_eq_true rfl) (fun x hC hZ => ?_)
  rw [wp_X5_thrown] at h
  show G x g 1 0 0 (modW g a o) 0 [(0, .ref (a 0))] []
  refine g_aload_n hC dX5_thrown_0 1 rfl rfl 0 rfl ?_
  refine g_get hC fl_X5_25 dX5_thrown_1 4 rfl 0 rfl rfl ?_
  exact g_iret hC hZ dX5_thrown_4 ⟨_, rfl, rfl, h⟩
def wp_X5_in (post : Int32 → Prop) (p0 : Int32) (p1 : Int32) (p2 : Int32) : Prop := ((p0 < p1 → post (0 : Int32)) ∧ (¬ p0 < p1 → ((p2 < p0 → post (0 : Int32)) ∧ (¬ p2 < p0 → post (1 : Int32)))))
set_option maxRecDepth 100000 in
set_option maxHeartbeats 4000000 in
theorem ct_X5_in (l : Launch) (g : gE) (p0 : Int32) (p1 : Int32) (p2 : Int32) (post : Int32 → Prop) (h : wp_X5_in post p0 p1 p2) : Fn l g yX5_in cX5_in 3 (some .boolean) 0 0 0 0 [] [.int p0, .int p1, .int p2] (pR [] post) := by
  refine Fn.of (by decide) (Nat.le_of_ble_eq_true rfl) (fun x hC hZ => ?_)
  rw [wp_X5_in] at h
  show G x g 3 0 0 [] 0 [(0, .int p0), (1, .int p1), (2, .int p2)] []
  refine g_iload_n hC dX5_in_0 1 rfl rfl 0 rfl ?_
  refine g_iload_n hC dX5_in_1 2 rfl rfl 1 rfl ?_
  refine g_icmp_lt hC dX5_in_2 14 (by decide) 5 rfl (fun c => ?_) (fun c => ?_)
  · have h := h.1 c
    refine g_iconst hC (0 : Int32) dX5_in_14 15 rfl iconst_0 ?_
    exact g_zret hC hZ rfl dX5_in_15 ⟨_, rfl, rfl, h⟩
  · have h := h.2 c
    refine g_iload_n hC dX5_in_5 6 rfl rfl 0 rfl ?_
    refine g_iload_n hC dX5_in_6 7 rfl rfl 2 rfl ?_
    refine g_icmp_gt hC dX5_in_7 14 (by decide) 10 rfl (fun c => ?_) (fun c => ?_)
    · have h := h.1 c
      refine g_iconst hC (0 : Int32) dX5_in_14 15 rfl iconst_0 ?_
      exact g_zret hC hZ rfl dX5_in_15 ⟨_, rfl, rfl, h⟩
    · have h := h.2 c
      refine g_iconst hC (1 : Int32) dX5_in_10 11 rfl iconst_1 ?_
      refine g_goto hC dX5_in_11 15 (by decide) ?_
      exact g_zret hC hZ rfl dX5_in_15 ⟨_, rfl, rfl, h⟩
def wp_X5_fail (post : Int32 → Off → Prop) (o : Off) (p0 : Int32) : Prop := (∀ o1 : Off, o1 = st o 0 5 p0 → post (0 : Int32) o1)
set_option maxRecDepth 100000 in
set_option maxHeartbeats 4000000 in
theorem ct_X5_fail (l : Launch) (g : gE) (a : Nat → Nat) (o : Off) (p0 : Int32) (post : Int32 → Off → Prop) (h : wp_X5_fail post o p0) : Fn l g yX5_fail cX5_fail 2 (some .int) 0 0 0 0 (modW g a o) [.ref (a 0), .int p0] (pI (modW g a) post) := by
  refine Fn.of (by decide) (Nat.le_of_ble_eq_true rfl) (fun x hC hZ => ?_)
  rw [wp_X5_fail] at h
  show G x g 2 0 0 (modW g a o) 0 [(0, .ref (a 0)), (1, .int p0)] []
  refine g_aload_n hC dX5_fail_0 1 rfl rfl 0 rfl ?_
  refine g_iload_n hC dX5_fail_1 2 rfl rfl 1 rfl ?_
  obtain ⟨o1, eo1⟩ : ∃ y : Off, y = st o 0 5 p0 := ⟨_, rfl⟩
  have h := h o1 eo1
  refine g_put hC fp_X5_25 dX5_fail_2 5 rfl 0 rfl rfl rfl (Nat.le_of_ble_eq_true rfl) (modW_p5 eo1) ?_
  refine g_iconst hC (0 : Int32) dX5_fail_5 6 rfl iconst_0 ?_
  exact g_iret hC hZ dX5_fail_6 ⟨_, _, rfl, rfl, h⟩
def wp_X5_begin (post : Off → Prop) (o : Off) : Prop := (∀ o1 : Off, o1 = st o 0 5 (0 : Int32) → wp_X5_copy (fun o2 => post o2) o1 1 2 (0 : Int32) (0 : Int32))
set_option maxRecDepth 100000 in
set_option maxHeartbeats 4000000 in
theorem ct_X5_begin (l : Launch) (g : gE) (a : Nat → Nat) (o : Off) (post : Off → Prop) (h : wp_X5_begin post o ) : Fn l g yX5_begin cX5_begin 1 none 1 24 0 0 (modW g a o) [.ref (a 0)] (pV (modW g a) post) := by
  refine Fn.of (by decide) (Nat.le_of_ble_eq_true rfl) (fun x hC hZ => ?_)
  rw [wp_X5_begin] at h
  show G x g 1 0 0 (modW g a o) 0 [(0, .ref (a 0))] []
  refine g_aload_n hC dX5_begin_0 1 rfl rfl 0 rfl ?_
  refine g_iconst hC (0 : Int32) dX5_begin_1 2 rfl iconst_0 ?_
  obtain ⟨o1, eo1⟩ : ∃ y : Off, y = st o 0 5 (0 : Int32) := ⟨_, rfl⟩
  have h := h o1 eo1
  refine g_put hC fp_X5_25 dX5_begin_2 5 rfl 0 rfl rfl rfl (Nat.le_of_ble_eq_true rfl) (modW_p5 eo1) ?_
  refine g_aload_n hC dX5_begin_5 6 rfl rfl 0 rfl ?_
  refine g_get hC fl_X5_7 dX5_begin_6 9 rfl 0 rfl rfl ?_
  refine g_iconst hC (0 : Int32) dX5_begin_9 10 rfl iconst_0 ?_
  refine g_aload_n hC dX5_begin_10 11 rfl rfl 0 rfl ?_
  refine g_get hC fl_X5_13 dX5_begin_11 14 rfl 0 rfl rfl ?_
  refine g_iconst hC (0 : Int32) dX5_begin_14 15 rfl iconst_0 ?_
  refine g_statV hC (ct_X5_copy l g a o1 1 2 (0 : Int32) (0 : Int32) _ h) gY_X5_copy dX5_begin_15 18 rfl ml_X5_84 [] rfl rfl ⟨Nat.le_of_ble_eq_true rfl, Nat.le_of_ble_eq_true rfl⟩ (Nat.le_of_ble_eq_true rfl) ⟨Nat.le_refl _, Nat.le_refl _⟩ (fun o2 h => ?_)
  exact g_vret hC hZ dX5_begin_18 ⟨_, rfl, rfl, h⟩
def wj_X5_commit_56 (post : Int32 → Off → Prop) (o : Off) (x1 : Int32) : Prop := wp_X5_copy (fun o1 => (∀ o2 : Off, o2 = st o1 0 6 ((o1 0 6) + (1 : Int32)) → post x1 o2)) o 2 5 (0 : Int32) ((160 : Int32) * (o 0 6))
def wl_X5_commit_11 (post : Int32 → Off → Prop) : Nat → Off → Int32 → Int32 → Prop
  | 0, _, _, _ => False
  | n + 1, o, x1, x2 => (((8 : Int32) ≤ x2 → (∀ o3 : Off, o3 = st o 0 6 ((o 0 6) - (1 : Int32)) → wj_X5_commit_56 post o3 x1)) ∧ (¬ (8 : Int32) ≤ x2 → wp_X5_copy (fun o4 => (∀ v5 : Int32, v5 = x2 + (1 : Int32) → wl_X5_commit_11 post n o4 x1 v5)) o 5 5 ((160 : Int32) * x2) ((160 : Int32) * (x2 - (1 : Int32)))))
def wp_X5_commit (post : Int32 → Off → Prop) (o : Off) (p0 : Int32) : Prop := ((¬ (o 0 6) = (8 : Int32) → wj_X5_commit_56 post o p0) ∧ ((o 0 6) = (8 : Int32) → (∃ m : Nat, wl_X5_commit_11 post m o p0 (1 : Int32))))
set_option maxRecDepth 100000 in
set_option maxHeartbeats 4000000 in
theorem jn_X5_commit_56 {x : gX} {l : Launch} {g : gE} {a : Nat → Nat} {o0 : Off} {post : Int32 → Off → Prop} (hC : gC x l cX5_commit 3 RX5 g 1 24 0 0) (hZ : gZ x g (some .int) (modW g a o0) (pI (modW g a) post) 0 0) : ∀ (o : Off) (x1 : Int32) , wj_X5_commit_56 post o x1 → G x g 3 0 0 (modW g a o) 56 [(0, .ref (a 0)), (1, .int x1)] [] := by
  intro o x1 h
  rw [wj_X5_commit_56] at h
  refine g_aload_n hC dX5_commit_56 57 rfl rfl 0 rfl ?_
  refine g_get hC fl_X5_13 dX5_commit_57 60 rfl 0 rfl rfl ?_
  refine g_iconst hC (0 : Int32) dX5_commit_60 61 rfl iconst_0 ?_
  refine g_aload_n hC dX5_commit_61 62 rfl rfl 0 rfl ?_
  refine g_get hC fl_X5_22 dX5_commit_62 65 rfl 0 rfl rfl ?_
  refine g_sipush hC (160 : Int32) dX5_commit_65 68 rfl sipush_160 ?_
  refine g_aload_n hC dX5_commit_68 69 rfl rfl 0 rfl ?_
  refine g_get hC fl_X5_29 dX5_commit_69 72 rfl 0 rfl rfl ?_
  refine g_imul hC dX5_commit_72 73 rfl ?_
  refine g_statV hC (ct_X5_copy l g a o 2 5 (0 : Int32) ((160 : Int32) * (o 0 6)) _ h) gY_X5_copy dX5_commit_73 76 rfl ml_X5_84 [] rfl rfl ⟨Nat.le_of_ble_eq_true rfl, Nat.le_of_ble_eq_true rfl⟩ (Nat.le_of_ble_eq_true rfl) ⟨Nat.le_refl _, Nat.le_refl _⟩ (fun o1 h => ?_)
  refine g_aload_n hC dX5_commit_76 77 rfl rfl 0 rfl ?_
  refine g_dup hC dX5_commit_77 78 rfl rfl ?_
  refine g_get hC fl_X5_29 dX5_commit_78 81 rfl 0 rfl rfl ?_
  refine g_iconst hC (1 : Int32) dX5_commit_81 82 rfl iconst_1 ?_
  refine g_iadd hC dX5_commit_82 83 rfl ?_
  obtain ⟨o2, eo2⟩ : ∃ y : Off, y = st o1 0 6 ((o1 0 6) + (1 : Int32)) := ⟨_, rfl⟩
  have h := h o2 eo2
  refine g_put hC fp_X5_29 dX5_commit_83 86 rfl 0 rfl rfl rfl (Nat.le_of_ble_eq_true rfl) (modW_p6 eo2) ?_
  refine g_iload_n hC dX5_commit_86 87 rfl rfl 1 rfl ?_
  exact g_iret hC hZ dX5_commit_87 ⟨_, _, rfl, rfl, h⟩
set_option maxRecDepth 100000 in
set_option maxHeartbeats 4000000 in
theorem lp_X5_commit_11 {x : gX} {l : Launch} {g : gE} {a : Nat → Nat} {o0 : Off} {post : Int32 → Off → Prop} (hC : gC x l cX5_commit 3 RX5 g 1 24 0 0) (hZ : gZ x g (some .int) (modW g a o0) (pI (modW g a) post) 0 0) : ∀ (n : Nat) (o : Off) (x1 : Int32) (x2 : Int32) , wl_X5_commit_11 post n o x1 x2 → G x g 3 0 0 (modW g a o) 11 [(0, .ref (a 0)), (1, .int x1), (2, .int x2)] [] := by
  intro n
  induction n with
  | zero =>
    intro o x1 x2 h
    exact h.elim
  | succ n ih =>
    intro o x1 x2 h
    rw [wl_X5_commit_11] at h
    refine g_iload_n hC dX5_commit_11 12 rfl rfl 2 rfl ?_
    refine g_bipush hC (8 : Int32) dX5_commit_12 14 rfl bipush_8 ?_
    refine g_icmp_ge hC dX5_commit_14 46 (by decide) 17 rfl (fun c => ?_) (fun c => ?_)
    · have h := h.1 c
      refine g_aload_n hC dX5_commit_46 47 rfl rfl 0 rfl ?_
      refine g_dup hC dX5_commit_47 48 rfl rfl ?_
      refine g_get hC fl_X5_29 dX5_commit_48 51 rfl 0 rfl rfl ?_
      refine g_iconst hC (1 : Int32) dX5_commit_51 52 rfl iconst_1 ?_
      refine g_isub hC dX5_commit_52 53 rfl ?_
      obtain ⟨o3, eo3⟩ : ∃ y : Off, y = st o 0 6 ((o 0 6) - (1 : Int32)) := ⟨_, rfl⟩
      have h := h o3 eo3
      refine g_put hC fp_X5_29 dX5_commit_53 56 rfl 0 rfl rfl rfl (Nat.le_of_ble_eq_true rfl) (modW_p6 eo3) ?_
      refine g_lv (lv2 := [(0, .ref (a 0)), (1, .int x1)]) [0, 1] rfl ?_
      exact jn_X5_commit_56 hC hZ o3 x1 h
    · have h := h.2 c
      refine g_aload_n hC dX5_commit_17 18 rfl rfl 0 rfl ?_
      refine g_get hC fl_X5_22 dX5_commit_18 21 rfl 0 rfl rfl ?_
      refine g_sipush hC (160 : Int32) dX5_commit_21 24 rfl sipush_160 ?_
      refine g_iload_n hC dX5_commit_24 25 rfl rfl 2 rfl ?_
      refine g_imul hC dX5_commit_25 26 rfl ?_
      refine g_aload_n hC dX5_commit_26 27 rfl rfl 0 rfl ?_
      refine g_get hC fl_X5_22 dX5_commit_27 30 rfl 0 rfl rfl ?_
      refine g_sipush hC (160 : Int32) dX5_commit_30 33 rfl sipush_160 ?_
      refine g_iload_n hC dX5_commit_33 34 rfl rfl 2 rfl ?_
      refine g_iconst hC (1 : Int32) dX5_commit_34 35 rfl iconst_1 ?_
      refine g_isub hC dX5_commit_35 36 rfl ?_
      refine g_imul hC dX5_commit_36 37 rfl ?_
      refine g_statV hC (ct_X5_copy l g a o 5 5 ((160 : Int32) * x2) ((160 : Int32) * (x2 - (1 : Int32))) _ h) gY_X5_copy dX5_commit_37 40 rfl ml_X5_84 [] rfl rfl ⟨Nat.le_of_ble_eq_true rfl, Nat.le_of_ble_eq_true rfl⟩ (Nat.le_of_ble_eq_true rfl) ⟨Nat.le_refl _, Nat.le_refl _⟩ (fun o4 h => ?_)
      obtain ⟨v5, ev5⟩ : ∃ y : Int32, y = x2 + (1 : Int32) := ⟨_, rfl⟩
      have h := h v5 ev5
      refine g_iinc (v2 := v5) (lv2 := [(2, .int v5), (0, .ref (a 0)), (1, .int x1)]) hC dX5_commit_40 43 rfl 2 rfl (by rw [iconst_1, ev5]) (by decide) rfl ?_
      refine g_goto hC dX5_commit_43 11 (by decide) ?_
      refine g_lv (lv2 := [(0, .ref (a 0)), (1, .int x1), (2, .int v5)]) [1, 2, 0] rfl ?_
      exact ih o4 x1 v5 h
set_option maxRecDepth 100000 in
set_option maxHeartbeats 4000000 in
theorem ct_X5_commit (l : Launch) (g : gE) (a : Nat → Nat) (o : Off) (p0 : Int32) (post : Int32 → Off → Prop) (h : wp_X5_commit post o p0) : Fn l g yX5_commit cX5_commit 3 (some .int) 1 24 0 0 (modW g a o) [.ref (a 0), .int p0] (pI (modW g a) post) := by
  refine Fn.of (by decide) (Nat.le_of_ble_eq_true rfl) (fun x hC hZ => ?_)
  rw [wp_X5_commit] at h
  show G x g 3 0 0 (modW g a o) 0 [(0, .ref (a 0)), (1, .int p0)] []
  refine g_aload_n hC dX5_commit_0 1 rfl rfl 0 rfl ?_
  refine g_get hC fl_X5_29 dX5_commit_1 4 rfl 0 rfl rfl ?_
  refine g_bipush hC (8 : Int32) dX5_commit_4 6 rfl bipush_8 ?_
  refine g_icmp_ne hC dX5_commit_6 56 (by decide) 9 rfl (fun c => ?_) (fun c => ?_)
  · have h := h.1 c
    exact jn_X5_commit_56 hC hZ o p0 h
  · have h := h.2 c
    refine g_iconst hC (1 : Int32) dX5_commit_9 10 rfl iconst_1 ?_
    refine g_istore_n (lv2 := [(2, .int (1 : Int32)), (0, .ref (a 0)), (1, .int p0)]) hC dX5_commit_10 11 rfl rfl (by decide) rfl ?_
    refine g_lv (lv2 := [(0, .ref (a 0)), (1, .int p0), (2, .int (1 : Int32))]) [1, 2, 0] rfl ?_
    obtain ⟨m, h⟩ := h
    exact lp_X5_commit_11 hC hZ m o p0 (1 : Int32) h
def wp_X5_notes (post : Int32 → Off → Prop) (o : Off) (p0 : Int32) (p1 : Int32) (p2 : Int32) : Prop := ((¬ p0 = 0 → (∀ o1 : Off, o1 = st o 0 11 p1 → (∀ o2 : Off, o2 = st o1 0 12 p2 → post (1 : Int32) o2))) ∧ (p0 = 0 → post (0 : Int32) o))
set_option maxRecDepth 100000 in
set_option maxHeartbeats 4000000 in
theorem ct_X5_notes (l : Launch) (g : gE) (a : Nat → Nat) (o : Off) (p0 : Int32) (p1 : Int32) (p2 : Int32) (post : Int32 → Off → Prop) (h : wp_X5_notes post o p0 p1 p2) : Fn l g yX5_notes cX5_notes 4 (some .boolean) 0 0 0 0 (modW g a o) [.ref (a 0), .int p0, .int p1, .int p2] (pI (modW g a) post) := by
  refine Fn.of (by decide) (Nat.le_of_ble_eq_true rfl) (fun x hC hZ => ?_)
  rw [wp_X5_notes] at h
  show G x g 4 0 0 (modW g a o) 0 [(0, .ref (a 0)), (1, .int p0), (2, .int p1), (3, .int p2)] []
  refine g_iload_n hC dX5_notes_0 1 rfl rfl 1 rfl ?_
  refine g_if_ne hC dX5_notes_1 6 (by decide) 4 rfl (fun c => ?_) (fun c => ?_)
  · have h := h.1 c
    refine g_aload_n hC dX5_notes_6 7 rfl rfl 0 rfl ?_
    refine g_iload_n hC dX5_notes_7 8 rfl rfl 2 rfl ?_
    obtain ⟨o1, eo1⟩ : ∃ y : Off, y = st o 0 11 p1 := ⟨_, rfl⟩
    have h := h o1 eo1
    refine g_put hC fp_X5_44 dX5_notes_8 11 rfl 0 rfl rfl rfl (Nat.le_of_ble_eq_true rfl) (modW_p11 eo1) ?_
    refine g_aload_n hC dX5_notes_11 12 rfl rfl 0 rfl ?_
    refine g_iload_n hC dX5_notes_12 13 rfl rfl 3 rfl ?_
    obtain ⟨o2, eo2⟩ : ∃ y : Off, y = st o1 0 12 p2 := ⟨_, rfl⟩
    have h := h o2 eo2
    refine g_put hC fp_X5_47 dX5_notes_13 16 rfl 0 rfl rfl rfl (Nat.le_of_ble_eq_true rfl) (modW_p12 eo2) ?_
    refine g_iconst hC (1 : Int32) dX5_notes_16 17 rfl iconst_1 ?_
    exact g_zret hC hZ rfl dX5_notes_17 ⟨_, _, rfl, rfl, h⟩
  · have h := h.2 c
    refine g_iconst hC (0 : Int32) dX5_notes_4 5 rfl iconst_0 ?_
    exact g_zret hC hZ rfl dX5_notes_5 ⟨_, _, rfl, rfl, h⟩
def wp_X5_reject (post : Int32 → Off → Prop) (o : Off) (p0 : Int32) : Prop := (∀ o1 : Off, o1 = st o 0 8 (o 0 11) → (∀ o2 : Off, o2 = st o1 0 9 (o1 0 12) → (∀ o3 : Off, o3 = st o2 0 10 (0 : Int32) → wp_X5_fail (fun v5 o4 => post v5 o4) o3 p0)))
set_option maxRecDepth 100000 in
set_option maxHeartbeats 4000000 in
theorem ct_X5_reject (l : Launch) (g : gE) (a : Nat → Nat) (o : Off) (p0 : Int32) (post : Int32 → Off → Prop) (h : wp_X5_reject post o p0) : Fn l g yX5_reject cX5_reject 2 (some .int) 1 21 0 0 (modW g a o) [.ref (a 0), .int p0] (pI (modW g a) post) := by
  refine Fn.of (by decide) (Nat.le_of_ble_eq_true rfl) (fun x hC hZ => ?_)
  rw [wp_X5_reject] at h
  show G x g 2 0 0 (modW g a o) 0 [(0, .ref (a 0)), (1, .int p0)] []
  refine g_aload_n hC dX5_reject_0 1 rfl rfl 0 rfl ?_
  refine g_aload_n hC dX5_reject_1 2 rfl rfl 0 rfl ?_
  refine g_get hC fl_X5_44 dX5_reject_2 5 rfl 0 rfl rfl ?_
  obtain ⟨o1, eo1⟩ : ∃ y : Off, y = st o 0 8 (o 0 11) := ⟨_, rfl⟩
  have h := h o1 eo1
  refine g_put hC fp_X5_35 dX5_reject_5 8 rfl 0 rfl rfl rfl (Nat.le_of_ble_eq_true rfl) (modW_p8 eo1) ?_
  refine g_aload_n hC dX5_reject_8 9 rfl rfl 0 rfl ?_
  refine g_aload_n hC dX5_reject_9 10 rfl rfl 0 rfl ?_
  refine g_get hC fl_X5_47 dX5_reject_10 13 rfl 0 rfl rfl ?_
  obtain ⟨o2, eo2⟩ : ∃ y : Off, y = st o1 0 9 (o1 0 12) := ⟨_, rfl⟩
  have h := h o2 eo2
  refine g_put hC fp_X5_38 dX5_reject_13 16 rfl 0 rfl rfl rfl (Nat.le_of_ble_eq_true rfl) (modW_p9 eo2) ?_
  refine g_aload_n hC dX5_reject_16 17 rfl rfl 0 rfl ?_
  refine g_iconst hC (0 : Int32) dX5_reject_17 18 rfl iconst_0 ?_
  obtain ⟨o3, eo3⟩ : ∃ y : Off, y = st o2 0 10 (0 : Int32) := ⟨_, rfl⟩
  have h := h o3 eo3
  refine g_put hC fp_X5_41 dX5_reject_18 21 rfl 0 rfl rfl rfl (Nat.le_of_ble_eq_true rfl) (modW_p10 eo3) ?_
  refine g_aload_n hC dX5_reject_21 22 rfl rfl 0 rfl ?_
  refine g_iload_n hC dX5_reject_22 23 rfl rfl 1 rfl ?_
  refine g_ownI hC (ct_X5_fail l g a o3 p0 _ h) gY_X5_fail dX5_reject_23 26 rfl ml_X5_88 [] rfl rfl rfl 0 9 rfl rfl ⟨Nat.le_of_ble_eq_true rfl, Nat.le_of_ble_eq_true rfl⟩ (Nat.le_of_ble_eq_true rfl) ⟨Nat.le_refl _, Nat.le_refl _⟩ (fun v5 o4 h => ?_)
  exact g_iret hC hZ dX5_reject_26 ⟨_, _, rfl, rfl, h⟩
def wp_X5_s (post : Int32 → Prop) (o : Off) (p0 : Int32) (p1 : Int32) : Prop := (vp_in (((8 : Int32) + ((8 : Int32) * p0)) + p1) 160 ∧ post (o 1 (((8 : Int32) + ((8 : Int32) * p0)) + p1).toNatClampNeg))
set_option maxRecDepth 100000 in
set_option maxHeartbeats 4000000 in
theorem ct_X5_s (l : Launch) (g : gE) (a : Nat → Nat) (o : Off) (p0 : Int32) (p1 : Int32) (post : Int32 → Prop) (h : wp_X5_s post o p0 p1) : Fn l g yX5_s cX5_s 3 (some .int) 0 0 0 0 (modW g a o) [.ref (a 0), .int p0, .int p1] (pR (modW g a o) post) := by
  refine Fn.of (by decide) (Nat.le_of_ble_eq_true rfl) (fun x hC hZ => ?_)
  rw [wp_X5_s] at h
  show G x g 3 0 0 (modW g a o) 0 [(0, .ref (a 0)), (1, .int p0), (2, .int p1)] []
  refine g_aload_n hC dX5_s_0 1 rfl rfl 0 rfl ?_
  refine g_get hC fl_X5_7 dX5_s_1 4 rfl 0 rfl rfl ?_
  refine g_bipush hC (8 : Int32) dX5_s_4 6 rfl bipush_8 ?_
  refine g_bipush hC (8 : Int32) dX5_s_6 8 rfl bipush_8 ?_
  refine g_iload_n hC dX5_s_8 9 rfl rfl 1 rfl ?_
  refine g_imul hC dX5_s_9 10 rfl ?_
  refine g_iadd hC dX5_s_10 11 rfl ?_
  refine g_iload_n hC dX5_s_11 12 rfl rfl 2 rfl ?_
  refine g_iadd hC dX5_s_12 13 rfl ?_
  obtain ⟨hi, h⟩ := h
  refine g_iald hC dX5_s_13 14 rfl 1 rfl hi ?_
  exact g_iret hC hZ dX5_s_14 ⟨_, rfl, rfl, h⟩
def wp_X5_set (post : Off → Prop) (o : Off) (p0 : Int32) (p1 : Int32) (p2 : Int32) : Prop := (vp_in (((8 : Int32) + ((8 : Int32) * p0)) + p1) 160 ∧ (∀ o1 : Off, o1 = st o 1 (((8 : Int32) + ((8 : Int32) * p0)) + p1).toNatClampNeg p2 → post o1))
set_option maxRecDepth 100000 in
set_option maxHeartbeats 4000000 in
theorem ct_X5_set (l : Launch) (g : gE) (a : Nat → Nat) (o : Off) (p0 : Int32) (p1 : Int32) (p2 : Int32) (post : Off → Prop) (h : wp_X5_set post o p0 p1 p2) : Fn l g yX5_set cX5_set 4 none 0 0 0 0 (modW g a o) [.ref (a 0), .int p0, .int p1, .int p2] (pV (modW g a) post) := by
  refine Fn.of (by decide) (Nat.le_of_ble_eq_true rfl) (fun x hC hZ => ?_)
  rw [wp_X5_set] at h
  show G x g 4 0 0 (modW g a o) 0 [(0, .ref (a 0)), (1, .int p0), (2, .int p1), (3, .int p2)] []
  refine g_aload_n hC dX5_set_0 1 rfl rfl 0 rfl ?_
  refine g_get hC fl_X5_7 dX5_set_1 4 rfl 0 rfl rfl ?_
  refine g_bipush hC (8 : Int32) dX5_set_4 6 rfl bipush_8 ?_
  refine g_bipush hC (8 : Int32) dX5_set_6 8 rfl bipush_8 ?_
  refine g_iload_n hC dX5_set_8 9 rfl rfl 1 rfl ?_
  refine g_imul hC dX5_set_9 10 rfl ?_
  refine g_iadd hC dX5_set_10 11 rfl ?_
  refine g_iload_n hC dX5_set_11 12 rfl rfl 2 rfl ?_
  refine g_iadd hC dX5_set_12 13 rfl ?_
  refine g_iload_n hC dX5_set_13 14 rfl rfl 3 rfl ?_
  obtain ⟨hi, h⟩ := h
  obtain ⟨o1, eo1⟩ : ∃ y : Off, y = st o 1 (((8 : Int32) + ((8 : Int32) * p0)) + p1).toNatClampNeg p2 := ⟨_, rfl⟩
  have h := h o1 eo1
  refine g_iast hC dX5_set_14 15 rfl 1 rfl hi (modW_s1 eo1) ?_
  exact g_vret hC hZ dX5_set_15 ⟨_, rfl, rfl, h⟩
def wp_X5_isSock (post : Int32 → Prop) (o : Off) (p0 : Int32) : Prop := (vp_in (0 : Int32) 160 ∧ wp_X5_in (fun v1 => (isB v1 ∧ post v1)) p0 (0 : Int32) ((o 1 (0 : Int32).toNatClampNeg) - (1 : Int32)))
set_option maxRecDepth 100000 in
set_option maxHeartbeats 4000000 in
theorem ct_X5_isSock (l : Launch) (g : gE) (a : Nat → Nat) (o : Off) (p0 : Int32) (post : Int32 → Prop) (h : wp_X5_isSock post o p0) : Fn l g yX5_isSock cX5_isSock 2 (some .boolean) 1 22 0 0 (modW g a o) [.ref (a 0), .int p0] (pR (modW g a o) post) := by
  refine Fn.of (by decide) (Nat.le_of_ble_eq_true rfl) (fun x hC hZ => ?_)
  rw [wp_X5_isSock] at h
  show G x g 2 0 0 (modW g a o) 0 [(0, .ref (a 0)), (1, .int p0)] []
  refine g_iload_n hC dX5_isSock_0 1 rfl rfl 1 rfl ?_
  refine g_iconst hC (0 : Int32) dX5_isSock_1 2 rfl iconst_0 ?_
  refine g_aload_n hC dX5_isSock_2 3 rfl rfl 0 rfl ?_
  refine g_get hC fl_X5_7 dX5_isSock_3 6 rfl 0 rfl rfl ?_
  refine g_iconst hC (0 : Int32) dX5_isSock_6 7 rfl iconst_0 ?_
  obtain ⟨hi, h⟩ := h
  refine g_iald hC dX5_isSock_7 8 rfl 1 rfl hi ?_
  refine g_iconst hC (1 : Int32) dX5_isSock_8 9 rfl iconst_1 ?_
  refine g_isub hC dX5_isSock_9 10 rfl ?_
  refine g_readS hC (ct_X5_in l g p0 (0 : Int32) ((o 1 (0 : Int32).toNatClampNeg) - (1 : Int32)) _ h) gY_X5_in dX5_isSock_10 13 rfl ml_X5_92 [] _ rfl [] rfl rfl ⟨Nat.le_of_ble_eq_true rfl, Nat.le_of_ble_eq_true rfl⟩ (Nat.le_of_ble_eq_true rfl) ⟨Nat.le_refl _, Nat.le_refl _⟩ (fun v1 h => ?_)
  obtain ⟨hb, h⟩ := h
  exact g_zret hC hZ (isB_n hb) dX5_isSock_13 ⟨_, rfl, rfl, h⟩
def wp_X5_isDrawer (post : Int32 → Prop) (p0 : Int32) : Prop := wp_X5_in (fun v1 => (isB v1 ∧ post v1)) p0 (0 : Int32) (4 : Int32)
set_option maxRecDepth 100000 in
set_option maxHeartbeats 4000000 in
theorem ct_X5_isDrawer (l : Launch) (g : gE) (p0 : Int32) (post : Int32 → Prop) (h : wp_X5_isDrawer post p0) : Fn l g yX5_isDrawer cX5_isDrawer 1 (some .boolean) 1 22 0 0 [] [.int p0] (pR [] post) := by
  refine Fn.of (by decide) (Nat.le_of_ble_eq_true rfl) (fun x hC hZ => ?_)
  rw [wp_X5_isDrawer] at h
  show G x g 1 0 0 [] 0 [(0, .int p0)] []
  refine g_iload_n hC dX5_isDrawer_0 1 rfl rfl 0 rfl ?_
  refine g_iconst hC (0 : Int32) dX5_isDrawer_1 2 rfl iconst_0 ?_
  refine g_iconst hC (4 : Int32) dX5_isDrawer_2 3 rfl iconst_4 ?_
  refine g_readS hC (ct_X5_in l g p0 (0 : Int32) (4 : Int32) _ h) gY_X5_in dX5_isDrawer_3 6 rfl ml_X5_92 [] _ rfl [] rfl rfl ⟨Nat.le_of_ble_eq_true rfl, Nat.le_of_ble_eq_true rfl⟩ (Nat.le_of_ble_eq_true rfl) ⟨Nat.le_refl _, Nat.le_refl _⟩ (fun v1 h => ?_)
  obtain ⟨hb, h⟩ := h
  exact g_zret hC hZ (isB_n hb) dX5_isDrawer_6 ⟨_, rfl, rfl, h⟩
def wp_X5_bitOf (post : Int32 → Prop) (p0 : Int32) : Prop := ((¬ p0 = (114 : Int32) → ((¬ p0 = (103 : Int32) → ((¬ p0 = (98 : Int32) → ((¬ p0 = (119 : Int32) → post (0 : Int32)) ∧ (p0 = (119 : Int32) → post (8 : Int32)))) ∧ (p0 = (98 : Int32) → post (4 : Int32)))) ∧ (p0 = (103 : Int32) → post (2 : Int32)))) ∧ (p0 = (114 : Int32) → post (1 : Int32)))
set_option maxRecDepth 100000 in
set_option maxHeartbeats 4000000 in
theorem ct_X5_bitOf (l : Launch) (g : gE) (p0 : Int32) (post : Int32 → Prop) (h : wp_X5_bitOf post p0) : Fn l g yX5_bitOf cX5_bitOf 1 (some .int) 0 0 0 0 [] [.int p0] (pR [] post) := by
  refine Fn.of (by decide) (Nat.le_of_ble_eq_true rfl) (fun x hC hZ => ?_)
  rw [wp_X5_bitOf] at h
  show G x g 1 0 0 [] 0 [(0, .int p0)] []
  refine g_iload_n hC dX5_bitOf_0 1 rfl rfl 0 rfl ?_
  refine g_bipush hC (114 : Int32) dX5_bitOf_1 3 rfl bipush_114 ?_
  refine g_icmp_ne hC dX5_bitOf_3 10 (by decide) 6 rfl (fun c => ?_) (fun c => ?_)
  · have h := h.1 c
    refine g_iload_n hC dX5_bitOf_10 11 rfl rfl 0 rfl ?_
    refine g_bipush hC (103 : Int32) dX5_bitOf_11 13 rfl bipush_103 ?_
    refine g_icmp_ne hC dX5_bitOf_13 20 (by decide) 16 rfl (fun c => ?_) (fun c => ?_)
    · have h := h.1 c
      refine g_iload_n hC dX5_bitOf_20 21 rfl rfl 0 rfl ?_
      refine g_bipush hC (98 : Int32) dX5_bitOf_21 23 rfl bipush_98 ?_
      refine g_icmp_ne hC dX5_bitOf_23 30 (by decide) 26 rfl (fun c => ?_) (fun c => ?_)
      · have h := h.1 c
        refine g_iload_n hC dX5_bitOf_30 31 rfl rfl 0 rfl ?_
        refine g_bipush hC (119 : Int32) dX5_bitOf_31 33 rfl bipush_119 ?_
        refine g_icmp_ne hC dX5_bitOf_33 41 (by decide) 36 rfl (fun c => ?_) (fun c => ?_)
        · have h := h.1 c
          refine g_iconst hC (0 : Int32) dX5_bitOf_41 42 rfl iconst_0 ?_
          exact g_iret hC hZ dX5_bitOf_42 ⟨_, rfl, rfl, h⟩
        · have h := h.2 c
          refine g_bipush hC (8 : Int32) dX5_bitOf_36 38 rfl bipush_8 ?_
          refine g_goto hC dX5_bitOf_38 42 (by decide) ?_
          exact g_iret hC hZ dX5_bitOf_42 ⟨_, rfl, rfl, h⟩
      · have h := h.2 c
        refine g_iconst hC (4 : Int32) dX5_bitOf_26 27 rfl iconst_4 ?_
        refine g_goto hC dX5_bitOf_27 42 (by decide) ?_
        exact g_iret hC hZ dX5_bitOf_42 ⟨_, rfl, rfl, h⟩
    · have h := h.2 c
      refine g_iconst hC (2 : Int32) dX5_bitOf_16 17 rfl iconst_2 ?_
      refine g_goto hC dX5_bitOf_17 42 (by decide) ?_
      exact g_iret hC hZ dX5_bitOf_42 ⟨_, rfl, rfl, h⟩
  · have h := h.2 c
    refine g_iconst hC (1 : Int32) dX5_bitOf_6 7 rfl iconst_1 ?_
    refine g_goto hC dX5_bitOf_7 42 (by decide) ?_
    exact g_iret hC hZ dX5_bitOf_42 ⟨_, rfl, rfl, h⟩
def wp_X5_is (post : Int32 → Prop) (o : Off) (p0 : Int32) (p1 : Int32) : Prop := wp_X5_s (fun v1 => ((¬ v1 = p1 → post (0 : Int32)) ∧ (v1 = p1 → post (1 : Int32)))) o p0 (2 : Int32)
set_option maxRecDepth 100000 in
set_option maxHeartbeats 4000000 in
theorem ct_X5_is (l : Launch) (g : gE) (a : Nat → Nat) (o : Off) (p0 : Int32) (p1 : Int32) (post : Int32 → Prop) (h : wp_X5_is post o p0 p1) : Fn l g yX5_is cX5_is 3 (some .boolean) 1 22 0 0 (modW g a o) [.ref (a 0), .int p0, .int p1] (pR (modW g a o) post) := by
  refine Fn.of (by decide) (Nat.le_of_ble_eq_true rfl) (fun x hC hZ => ?_)
  rw [wp_X5_is] at h
  show G x g 3 0 0 (modW g a o) 0 [(0, .ref (a 0)), (1, .int p0), (2, .int p1)] []
  refine g_aload_n hC dX5_is_0 1 rfl rfl 0 rfl ?_
  refine g_iload_n hC dX5_is_1 2 rfl rfl 1 rfl ?_
  refine g_iconst hC (2 : Int32) dX5_is_2 3 rfl iconst_2 ?_
  refine g_readV hC (ct_X5_s l g a o p0 (2 : Int32) _ h) gY_X5_s dX5_is_3 6 rfl ml_X5_96 [] [] (by simp only [List.nil_append, List.append_nil]) [] rfl rfl rfl 0 9 rfl rfl ⟨Nat.le_of_ble_eq_true rfl, Nat.le_of_ble_eq_true rfl⟩ (Nat.le_of_ble_eq_true rfl) ⟨Nat.le_refl _, Nat.le_refl _⟩ (fun v1 h => ?_)
  refine g_iload_n hC dX5_is_6 7 rfl rfl 2 rfl ?_
  refine g_icmp_ne hC dX5_is_7 14 (by decide) 10 rfl (fun c => ?_) (fun c => ?_)
  · have h := h.1 c
    refine g_iconst hC (0 : Int32) dX5_is_14 15 rfl iconst_0 ?_
    exact g_zret hC hZ rfl dX5_is_15 ⟨_, rfl, rfl, h⟩
  · have h := h.2 c
    refine g_iconst hC (1 : Int32) dX5_is_10 11 rfl iconst_1 ?_
    refine g_goto hC dX5_is_11 15 (by decide) ?_
    exact g_zret hC hZ rfl dX5_is_15 ⟨_, rfl, rfl, h⟩
def wp_X5_livesIn (post : Int32 → Prop) (o : Off) (p0 : Int32) (p1 : Int32) : Prop := wp_X5_is (fun v1 => ((v1 = 0 → post (0 : Int32)) ∧ (¬ v1 = 0 → wp_X5_s (fun v2 => ((¬ v2 = p1 → post (0 : Int32)) ∧ (v2 = p1 → post (1 : Int32)))) o p0 (3 : Int32)))) o p0 (3 : Int32)
set_option maxRecDepth 100000 in
set_option maxHeartbeats 4000000 in
theorem ct_X5_livesIn (l : Launch) (g : gE) (a : Nat → Nat) (o : Off) (p0 : Int32) (p1 : Int32) (post : Int32 → Prop) (h : wp_X5_livesIn post o p0 p1) : Fn l g yX5_livesIn cX5_livesIn 3 (some .boolean) 2 44 0 0 (modW g a o) [.ref (a 0), .int p0, .int p1] (pR (modW g a o) post) := by
  refine Fn.of (by decide) (Nat.le_of_ble_eq_true rfl) (fun x hC hZ => ?_)
  rw [wp_X5_livesIn] at h
  show G x g 3 0 0 (modW g a o) 0 [(0, .ref (a 0)), (1, .int p0), (2, .int p1)] []
  refine g_aload_n hC dX5_livesIn_0 1 rfl rfl 0 rfl ?_
  refine g_iload_n hC dX5_livesIn_1 2 rfl rfl 1 rfl ?_
  refine g_iconst hC (3 : Int32) dX5_livesIn_2 3 rfl iconst_3 ?_
  refine g_readV hC (ct_X5_is l g a o p0 (3 : Int32) _ h) gY_X5_is dX5_livesIn_3 6 rfl ml_X5_100 [] [] (by simp only [List.nil_append, List.append_nil]) [] rfl rfl rfl 0 9 rfl rfl ⟨Nat.le_of_ble_eq_true rfl, Nat.le_of_ble_eq_true rfl⟩ (Nat.le_of_ble_eq_true rfl) ⟨Nat.le_refl _, Nat.le_refl _⟩ (fun v1 h => ?_)
  refine g_if_eq hC dX5_livesIn_6 23 (by decide) 9 rfl (fun c => ?_) (fun c => ?_)
  · have h := h.1 c
    refine g_iconst hC (0 : Int32) dX5_livesIn_23 24 rfl iconst_0 ?_
    exact g_zret hC hZ rfl dX5_livesIn_24 ⟨_, rfl, rfl, h⟩
  · have h := h.2 c
    refine g_aload_n hC dX5_livesIn_9 10 rfl rfl 0 rfl ?_
    refine g_iload_n hC dX5_livesIn_10 11 rfl rfl 1 rfl ?_
    refine g_iconst hC (3 : Int32) dX5_livesIn_11 12 rfl iconst_3 ?_
    refine g_readV hC (ct_X5_s l g a o p0 (3 : Int32) _ h) gY_X5_s dX5_livesIn_12 15 rfl ml_X5_96 [] [] (by simp only [List.nil_append, List.append_nil]) [] rfl rfl rfl 0 9 rfl rfl ⟨Nat.le_of_ble_eq_true rfl, Nat.le_of_ble_eq_true rfl⟩ (Nat.le_of_ble_eq_true rfl) ⟨Nat.le_refl _, Nat.le_refl _⟩ (fun v2 h => ?_)
    refine g_iload_n hC dX5_livesIn_15 16 rfl rfl 2 rfl ?_
    refine g_icmp_ne hC dX5_livesIn_16 23 (by decide) 19 rfl (fun c => ?_) (fun c => ?_)
    · have h := h.1 c
      refine g_iconst hC (0 : Int32) dX5_livesIn_23 24 rfl iconst_0 ?_
      exact g_zret hC hZ rfl dX5_livesIn_24 ⟨_, rfl, rfl, h⟩
    · have h := h.2 c
      refine g_iconst hC (1 : Int32) dX5_livesIn_19 20 rfl iconst_1 ?_
      refine g_goto hC dX5_livesIn_20 24 (by decide) ?_
      exact g_zret hC hZ rfl dX5_livesIn_24 ⟨_, rfl, rfl, h⟩
def wp_X5_asksFor (post : Int32 → Prop) (o : Off) (p0 : Int32) (p1 : Int32) : Prop := wp_X5_is (fun v1 => ((v1 = 0 → post (0 : Int32)) ∧ (¬ v1 = 0 → wp_X5_s (fun v2 => ((¬ v2 = p1 → post (0 : Int32)) ∧ (v2 = p1 → post (1 : Int32)))) o p0 (3 : Int32)))) o p0 (1 : Int32)
set_option maxRecDepth 100000 in
set_option maxHeartbeats 4000000 in
theorem ct_X5_asksFor (l : Launch) (g : gE) (a : Nat → Nat) (o : Off) (p0 : Int32) (p1 : Int32) (post : Int32 → Prop) (h : wp_X5_asksFor post o p0 p1) : Fn l g yX5_asksFor cX5_asksFor 3 (some .boolean) 2 44 0 0 (modW g a o) [.ref (a 0), .int p0, .int p1] (pR (modW g a o) post) := by
  refine Fn.of (by decide) (Nat.le_of_ble_eq_true rfl) (fun x hC hZ => ?_)
  rw [wp_X5_asksFor] at h
  show G x g 3 0 0 (modW g a o) 0 [(0, .ref (a 0)), (1, .int p0), (2, .int p1)] []
  refine g_aload_n hC dX5_asksFor_0 1 rfl rfl 0 rfl ?_
  refine g_iload_n hC dX5_asksFor_1 2 rfl rfl 1 rfl ?_
  refine g_iconst hC (1 : Int32) dX5_asksFor_2 3 rfl iconst_1 ?_
  refine g_readV hC (ct_X5_is l g a o p0 (1 : Int32) _ h) gY_X5_is dX5_asksFor_3 6 rfl ml_X5_100 [] [] (by simp only [List.nil_append, List.append_nil]) [] rfl rfl rfl 0 9 rfl rfl ⟨Nat.le_of_ble_eq_true rfl, Nat.le_of_ble_eq_true rfl⟩ (Nat.le_of_ble_eq_true rfl) ⟨Nat.le_refl _, Nat.le_refl _⟩ (fun v1 h => ?_)
  refine g_if_eq hC dX5_asksFor_6 23 (by decide) 9 rfl (fun c => ?_) (fun c => ?_)
  · have h := h.1 c
    refine g_iconst hC (0 : Int32) dX5_asksFor_23 24 rfl iconst_0 ?_
    exact g_zret hC hZ rfl dX5_asksFor_24 ⟨_, rfl, rfl, h⟩
  · have h := h.2 c
    refine g_aload_n hC dX5_asksFor_9 10 rfl rfl 0 rfl ?_
    refine g_iload_n hC dX5_asksFor_10 11 rfl rfl 1 rfl ?_
    refine g_iconst hC (3 : Int32) dX5_asksFor_11 12 rfl iconst_3 ?_
    refine g_readV hC (ct_X5_s l g a o p0 (3 : Int32) _ h) gY_X5_s dX5_asksFor_12 15 rfl ml_X5_96 [] [] (by simp only [List.nil_append, List.append_nil]) [] rfl rfl rfl 0 9 rfl rfl ⟨Nat.le_of_ble_eq_true rfl, Nat.le_of_ble_eq_true rfl⟩ (Nat.le_of_ble_eq_true rfl) ⟨Nat.le_refl _, Nat.le_refl _⟩ (fun v2 h => ?_)
    refine g_iload_n hC dX5_asksFor_15 16 rfl rfl 2 rfl ?_
    refine g_icmp_ne hC dX5_asksFor_16 23 (by decide) 19 rfl (fun c => ?_) (fun c => ?_)
    · have h := h.1 c
      refine g_iconst hC (0 : Int32) dX5_asksFor_23 24 rfl iconst_0 ?_
      exact g_zret hC hZ rfl dX5_asksFor_24 ⟨_, rfl, rfl, h⟩
    · have h := h.2 c
      refine g_iconst hC (1 : Int32) dX5_asksFor_19 20 rfl iconst_1 ?_
      refine g_goto hC dX5_asksFor_20 24 (by decide) ?_
      exact g_zret hC hZ rfl dX5_asksFor_24 ⟨_, rfl, rfl, h⟩
def wp_X5_isPaired (post : Int32 → Prop) (o : Off) (p0 : Int32) : Prop := wp_X5_s (fun v1 => ((v1 < 0 → post (0 : Int32)) ∧ (¬ v1 < 0 → post (1 : Int32)))) o p0 (7 : Int32)
set_option maxRecDepth 100000 in
set_option maxHeartbeats 4000000 in
theorem ct_X5_isPaired (l : Launch) (g : gE) (a : Nat → Nat) (o : Off) (p0 : Int32) (post : Int32 → Prop) (h : wp_X5_isPaired post o p0) : Fn l g yX5_isPaired cX5_isPaired 2 (some .boolean) 1 22 0 0 (modW g a o) [.ref (a 0), .int p0] (pR (modW g a o) post) := by
  refine Fn.of (by decide) (Nat.le_of_ble_eq_true rfl) (fun x hC hZ => ?_)
  rw [wp_X5_isPaired] at h
  show G x g 2 0 0 (modW g a o) 0 [(0, .ref (a 0)), (1, .int p0)] []
  refine g_aload_n hC dX5_isPaired_0 1 rfl rfl 0 rfl ?_
  refine g_iload_n hC dX5_isPaired_1 2 rfl rfl 1 rfl ?_
  refine g_bipush hC (7 : Int32) dX5_isPaired_2 4 rfl bipush_7 ?_
  refine g_readV hC (ct_X5_s l g a o p0 (7 : Int32) _ h) gY_X5_s dX5_isPaired_4 7 rfl ml_X5_96 [] [] (by simp only [List.nil_append, List.append_nil]) [] rfl rfl rfl 0 9 rfl rfl ⟨Nat.le_of_ble_eq_true rfl, Nat.le_of_ble_eq_true rfl⟩ (Nat.le_of_ble_eq_true rfl) ⟨Nat.le_refl _, Nat.le_refl _⟩ (fun v1 h => ?_)
  refine g_if_lt hC dX5_isPaired_7 14 (by decide) 10 rfl (fun c => ?_) (fun c => ?_)
  · have h := h.1 c
    refine g_iconst hC (0 : Int32) dX5_isPaired_14 15 rfl iconst_0 ?_
    exact g_zret hC hZ rfl dX5_isPaired_15 ⟨_, rfl, rfl, h⟩
  · have h := h.2 c
    refine g_iconst hC (1 : Int32) dX5_isPaired_10 11 rfl iconst_1 ?_
    refine g_goto hC dX5_isPaired_11 15 (by decide) ?_
    exact g_zret hC hZ rfl dX5_isPaired_15 ⟨_, rfl, rfl, h⟩
def wp_X5_fits (post : Int32 → Prop) (o : Off) (p0 : Int32) (p1 : Int32) : Prop := ((p0 = p1 → post (0 : Int32)) ∧ (¬ p0 = p1 → wp_X5_s (fun v1 => wp_X5_s (fun v2 => ((¬ v1 = v2 → post (0 : Int32)) ∧ (v1 = v2 → wp_X5_s (fun v3 => wp_X5_s (fun v4 => ((v3 = v4 → post (1 : Int32)) ∧ (¬ v3 = v4 → wp_X5_s (fun v5 => ((v5 = (119 : Int32) → post (1 : Int32)) ∧ (¬ v5 = (119 : Int32) → wp_X5_s (fun v6 => ((¬ v6 = (119 : Int32) → post (0 : Int32)) ∧ (v6 = (119 : Int32) → post (1 : Int32)))) o p1 (0 : Int32)))) o p0 (0 : Int32)))) o p1 (0 : Int32)) o p0 (0 : Int32)))) o p1 (1 : Int32)) o p0 (1 : Int32)))
set_option maxRecDepth 100000 in
set_option maxHeartbeats 4000000 in
theorem ct_X5_fits (l : Launch) (g : gE) (a : Nat → Nat) (o : Off) (p0 : Int32) (p1 : Int32) (post : Int32 → Prop) (h : wp_X5_fits post o p0 p1) : Fn l g yX5_fits cX5_fits 3 (some .boolean) 1 22 0 0 (modW g a o) [.ref (a 0), .int p0, .int p1] (pR (modW g a o) post) := by
  refine Fn.of (by decide) (Nat.le_of_ble_eq_true rfl) (fun x hC hZ => ?_)
  rw [wp_X5_fits] at h
  show G x g 3 0 0 (modW g a o) 0 [(0, .ref (a 0)), (1, .int p0), (2, .int p1)] []
  refine g_iload_n hC dX5_fits_0 1 rfl rfl 1 rfl ?_
  refine g_iload_n hC dX5_fits_1 2 rfl rfl 2 rfl ?_
  refine g_icmp_eq hC dX5_fits_2 61 (by decide) 5 rfl (fun c => ?_) (fun c => ?_)
  · have h := h.1 c
    refine g_iconst hC (0 : Int32) dX5_fits_61 62 rfl iconst_0 ?_
    exact g_zret hC hZ rfl dX5_fits_62 ⟨_, rfl, rfl, h⟩
  · have h := h.2 c
    refine g_aload_n hC dX5_fits_5 6 rfl rfl 0 rfl ?_
    refine g_iload_n hC dX5_fits_6 7 rfl rfl 1 rfl ?_
    refine g_iconst hC (1 : Int32) dX5_fits_7 8 rfl iconst_1 ?_
    refine g_readV hC (ct_X5_s l g a o p0 (1 : Int32) _ h) gY_X5_s dX5_fits_8 11 rfl ml_X5_96 [] [] (by simp only [List.nil_append, List.append_nil]) [] rfl rfl rfl 0 9 rfl rfl ⟨Nat.le_of_ble_eq_true rfl, Nat.le_of_ble_eq_true rfl⟩ (Nat.le_of_ble_eq_true rfl) ⟨Nat.le_refl _, Nat.le_refl _⟩ (fun v1 h => ?_)
    refine g_aload_n hC dX5_fits_11 12 rfl rfl 0 rfl ?_
    refine g_iload_n hC dX5_fits_12 13 rfl rfl 2 rfl ?_
    refine g_iconst hC (1 : Int32) dX5_fits_13 14 rfl iconst_1 ?_
    refine g_readV hC (ct_X5_s l g a o p1 (1 : Int32) _ h) gY_X5_s dX5_fits_14 17 rfl ml_X5_96 [] [] (by simp only [List.nil_append, List.append_nil]) [.int v1] rfl rfl rfl 0 9 rfl rfl ⟨Nat.le_of_ble_eq_true rfl, Nat.le_of_ble_eq_true rfl⟩ (Nat.le_of_ble_eq_true rfl) ⟨Nat.le_refl _, Nat.le_refl _⟩ (fun v2 h => ?_)
    refine g_icmp_ne hC dX5_fits_17 61 (by decide) 20 rfl (fun c => ?_) (fun c => ?_)
    · have h := h.1 c
      refine g_iconst hC (0 : Int32) dX5_fits_61 62 rfl iconst_0 ?_
      exact g_zret hC hZ rfl dX5_fits_62 ⟨_, rfl, rfl, h⟩
    · have h := h.2 c
      refine g_aload_n hC dX5_fits_20 21 rfl rfl 0 rfl ?_
      refine g_iload_n hC dX5_fits_21 22 rfl rfl 1 rfl ?_
      refine g_iconst hC (0 : Int32) dX5_fits_22 23 rfl iconst_0 ?_
      refine g_readV hC (ct_X5_s l g a o p0 (0 : Int32) _ h) gY_X5_s dX5_fits_23 26 rfl ml_X5_96 [] [] (by simp only [List.nil_append, List.append_nil]) [] rfl rfl rfl 0 9 rfl rfl ⟨Nat.le_of_ble_eq_true rfl, Nat.le_of_ble_eq_true rfl⟩ (Nat.le_of_ble_eq_true rfl) ⟨Nat.le_refl _, Nat.le_refl _⟩ (fun v3 h => ?_)
      refine g_aload_n hC dX5_fits_26 27 rfl rfl 0 rfl ?_
      refine g_iload_n hC dX5_fits_27 28 rfl rfl 2 rfl ?_
      refine g_iconst hC (0 : Int32) dX5_fits_28 29 rfl iconst_0 ?_
      refine g_readV hC (ct_X5_s l g a o p1 (0 : Int32) _ h) gY_X5_s dX5_fits_29 32 rfl ml_X5_96 [] [] (by simp only [List.nil_append, List.append_nil]) [.int v3] rfl rfl rfl 0 9 rfl rfl ⟨Nat.le_of_ble_eq_true rfl, Nat.le_of_ble_eq_true rfl⟩ (Nat.le_of_ble_eq_true rfl) ⟨Nat.le_refl _, Nat.le_refl _⟩ (fun v4 h => ?_)
      refine g_icmp_eq hC dX5_fits_32 57 (by decide) 35 rfl (fun c => ?_) (fun c => ?_)
      · have h := h.1 c
        refine g_iconst hC (1 : Int32) dX5_fits_57 58 rfl iconst_1 ?_
        refine g_goto hC dX5_fits_58 62 (by decide) ?_
        exact g_zret hC hZ rfl dX5_fits_62 ⟨_, rfl, rfl, h⟩
      · have h := h.2 c
        refine g_aload_n hC dX5_fits_35 36 rfl rfl 0 rfl ?_
        refine g_iload_n hC dX5_fits_36 37 rfl rfl 1 rfl ?_
        refine g_iconst hC (0 : Int32) dX5_fits_37 38 rfl iconst_0 ?_
        refine g_readV hC (ct_X5_s l g a o p0 (0 : Int32) _ h) gY_X5_s dX5_fits_38 41 rfl ml_X5_96 [] [] (by simp only [List.nil_append, List.append_nil]) [] rfl rfl rfl 0 9 rfl rfl ⟨Nat.le_of_ble_eq_true rfl, Nat.le_of_ble_eq_true rfl⟩ (Nat.le_of_ble_eq_true rfl) ⟨Nat.le_refl _, Nat.le_refl _⟩ (fun v5 h => ?_)
        refine g_bipush hC (119 : Int32) dX5_fits_41 43 rfl bipush_119 ?_
        refine g_icmp_eq hC dX5_fits_43 57 (by decide) 46 rfl (fun c => ?_) (fun c => ?_)
        · have h := h.1 c
          refine g_iconst hC (1 : Int32) dX5_fits_57 58 rfl iconst_1 ?_
          refine g_goto hC dX5_fits_58 62 (by decide) ?_
          exact g_zret hC hZ rfl dX5_fits_62 ⟨_, rfl, rfl, h⟩
        · have h := h.2 c
          refine g_aload_n hC dX5_fits_46 47 rfl rfl 0 rfl ?_
          refine g_iload_n hC dX5_fits_47 48 rfl rfl 2 rfl ?_
          refine g_iconst hC (0 : Int32) dX5_fits_48 49 rfl iconst_0 ?_
          refine g_readV hC (ct_X5_s l g a o p1 (0 : Int32) _ h) gY_X5_s dX5_fits_49 52 rfl ml_X5_96 [] [] (by simp only [List.nil_append, List.append_nil]) [] rfl rfl rfl 0 9 rfl rfl ⟨Nat.le_of_ble_eq_true rfl, Nat.le_of_ble_eq_true rfl⟩ (Nat.le_of_ble_eq_true rfl) ⟨Nat.le_refl _, Nat.le_refl _⟩ (fun v6 h => ?_)
          refine g_bipush hC (119 : Int32) dX5_fits_52 54 rfl bipush_119 ?_
          refine g_icmp_ne hC dX5_fits_54 61 (by decide) 57 rfl (fun c => ?_) (fun c => ?_)
          · have h := h.1 c
            refine g_iconst hC (0 : Int32) dX5_fits_61 62 rfl iconst_0 ?_
            exact g_zret hC hZ rfl dX5_fits_62 ⟨_, rfl, rfl, h⟩
          · have h := h.2 c
            refine g_iconst hC (1 : Int32) dX5_fits_57 58 rfl iconst_1 ?_
            refine g_goto hC dX5_fits_58 62 (by decide) ?_
            exact g_zret hC hZ rfl dX5_fits_62 ⟨_, rfl, rfl, h⟩
def wl_X5_livingIn_4 (post : Int32 → Prop) (o : Off) : Nat → Int32 → Int32 → Int32 → Prop
  | 0, _, _, _ => False
  | n + 1, x1, x2, x3 => (vp_in (0 : Int32) 160 ∧ (((o 1 (0 : Int32).toNatClampNeg) ≤ x3 → post x2) ∧ (¬ (o 1 (0 : Int32).toNatClampNeg) ≤ x3 → wp_X5_livesIn (fun v1 => ((v1 = 0 → (∀ v2 : Int32, v2 = (x2 + (0 : Int32)) → (∀ v3 : Int32, v3 = x3 + (1 : Int32) → wl_X5_livingIn_4 post o n x1 v2 v3))) ∧ (¬ v1 = 0 → (∀ v4 : Int32, v4 = (x2 + (1 : Int32)) → (∀ v5 : Int32, v5 = x3 + (1 : Int32) → wl_X5_livingIn_4 post o n x1 v4 v5))))) o x3 x1)))
def wp_X5_livingIn (post : Int32 → Prop) (o : Off) (p0 : Int32) : Prop := (∃ m : Nat, wl_X5_livingIn_4 post o m p0 (0 : Int32) (0 : Int32))
set_option maxRecDepth 100000 in
set_option maxHeartbeats 4000000 in
theorem lp_X5_livingIn_4 {x : gX} {l : Launch} {g : gE} {a : Nat → Nat} {o : Off} {post : Int32 → Prop} (hC : gC x l cX5_livingIn 4 RX5 g 3 66 0 0) (hZ : gZ x g (some .int) (modW g a o) (pR (modW g a o) post) 0 0) : ∀ (n : Nat) (x1 : Int32) (x2 : Int32) (x3 : Int32) , wl_X5_livingIn_4 post o n x1 x2 x3 → G x g 4 0 0 (modW g a o) 4 [(0, .ref (a 0)), (1, .int x1), (2, .int x2), (3, .int x3)] [] := by
  intro n
  induction n with
  | zero =>
    intro x1 x2 x3 h
    exact h.elim
  | succ n ih =>
    intro x1 x2 x3 h
    rw [wl_X5_livingIn_4] at h
    refine g_iload_n hC dX5_livingIn_4 5 rfl rfl 3 rfl ?_
    refine g_aload_n hC dX5_livingIn_5 6 rfl rfl 0 rfl ?_
    refine g_get hC fl_X5_7 dX5_livingIn_6 9 rfl 0 rfl rfl ?_
    refine g_iconst hC (0 : Int32) dX5_livingIn_9 10 rfl iconst_0 ?_
    obtain ⟨hi, h⟩ := h
    refine g_iald hC dX5_livingIn_10 11 rfl 1 rfl hi ?_
    refine g_icmp_ge hC dX5_livingIn_11 37 (by decide) 14 rfl (fun c => ?_) (fun c => ?_)
    · have h := h.1 c
      refine g_iload_n hC dX5_livingIn_37 38 rfl rfl 2 rfl ?_
      exact g_iret hC hZ dX5_livingIn_38 ⟨_, rfl, rfl, h⟩
    · have h := h.2 c
      refine g_iload_n hC dX5_livingIn_14 15 rfl rfl 2 rfl ?_
      refine g_aload_n hC dX5_livingIn_15 16 rfl rfl 0 rfl ?_
      refine g_iload_n hC dX5_livingIn_16 17 rfl rfl 3 rfl ?_
      refine g_iload_n hC dX5_livingIn_17 18 rfl rfl 1 rfl ?_
      refine g_readV hC (ct_X5_livesIn l g a o x3 x1 _ h) gY_X5_livesIn dX5_livingIn_18 21 rfl ml_X5_104 [] [] (by simp only [List.nil_append, List.append_nil]) [.int x2] rfl rfl rfl 0 9 rfl rfl ⟨Nat.le_of_ble_eq_true rfl, Nat.le_of_ble_eq_true rfl⟩ (Nat.le_of_ble_eq_true rfl) ⟨Nat.le_refl _, Nat.le_refl _⟩ (fun v1 h => ?_)
      refine g_if_eq hC dX5_livingIn_21 28 (by decide) 24 rfl (fun c => ?_) (fun c => ?_)
      · have h := h.1 c
        refine g_iconst hC (0 : Int32) dX5_livingIn_28 29 rfl iconst_0 ?_
        refine g_iadd hC dX5_livingIn_29 30 rfl ?_
        refine g_topi (fun v2 ev2 => ?_)
        have h := h v2 ev2
        refine g_istore_n (lv2 := [(2, .int v2), (0, .ref (a 0)), (1, .int x1), (3, .int x3)]) hC dX5_livingIn_30 31 rfl rfl (by decide) rfl ?_
        obtain ⟨v3, ev3⟩ : ∃ y : Int32, y = x3 + (1 : Int32) := ⟨_, rfl⟩
        have h := h v3 ev3
        refine g_iinc (v2 := v3) (lv2 := [(3, .int v3), (2, .int v2), (0, .ref (a 0)), (1, .int x1)]) hC dX5_livingIn_31 34 rfl 3 rfl (by rw [iconst_1, ev3]) (by decide) rfl ?_
        refine g_goto hC dX5_livingIn_34 4 (by decide) ?_
        refine g_lv (lv2 := [(0, .ref (a 0)), (1, .int x1), (2, .int v2), (3, .int v3)]) [2, 3, 1, 0] rfl ?_
        exact ih x1 v2 v3 h
      · have h := h.2 c
        refine g_iconst hC (1 : Int32) dX5_livingIn_24 25 rfl iconst_1 ?_
        refine g_goto hC dX5_livingIn_25 29 (by decide) ?_
        refine g_iadd hC dX5_livingIn_29 30 rfl ?_
        refine g_topi (fun v4 ev4 => ?_)
        have h := h v4 ev4
        refine g_istore_n (lv2 := [(2, .int v4), (0, .ref (a 0)), (1, .int x1), (3, .int x3)]) hC dX5_livingIn_30 31 rfl rfl (by decide) rfl ?_
        obtain ⟨v5, ev5⟩ : ∃ y : Int32, y = x3 + (1 : Int32) := ⟨_, rfl⟩
        have h := h v5 ev5
        refine g_iinc (v2 := v5) (lv2 := [(3, .int v5), (2, .int v4), (0, .ref (a 0)), (1, .int x1)]) hC dX5_livingIn_31 34 rfl 3 rfl (by rw [iconst_1, ev5]) (by decide) rfl ?_
        refine g_goto hC dX5_livingIn_34 4 (by decide) ?_
        refine g_lv (lv2 := [(0, .ref (a 0)), (1, .int x1), (2, .int v4), (3, .int v5)]) [2, 3, 1, 0] rfl ?_
        exact ih x1 v4 v5 h
set_option maxRecDepth 100000 in
set_option maxHeartbeats 4000000 in
theorem ct_X5_livingIn (l : Launch) (g : gE) (a : Nat → Nat) (o : Off) (p0 : Int32) (post : Int32 → Prop) (h : wp_X5_livingIn post o p0) : Fn l g yX5_livingIn cX5_livingIn 4 (some .int) 3 66 0 0 (modW g a o) [.ref (a 0), .int p0] (pR (modW g a o) post) := by
  refine Fn.of (by decide) (Nat.le_of_ble_eq_true rfl) (fun x hC hZ => ?_)
  rw [wp_X5_livingIn] at h
  show G x g 4 0 0 (modW g a o) 0 [(0, .ref (a 0)), (1, .int p0)] []
  refine g_iconst hC (0 : Int32) dX5_livingIn_0 1 rfl iconst_0 ?_
  refine g_istore_n (lv2 := [(2, .int (0 : Int32)), (0, .ref (a 0)), (1, .int p0)]) hC dX5_livingIn_1 2 rfl rfl (by decide) rfl ?_
  refine g_iconst hC (0 : Int32) dX5_livingIn_2 3 rfl iconst_0 ?_
  refine g_istore_n (lv2 := [(3, .int (0 : Int32)), (2, .int (0 : Int32)), (0, .ref (a 0)), (1, .int p0)]) hC dX5_livingIn_3 4 rfl rfl (by decide) rfl ?_
  refine g_lv (lv2 := [(0, .ref (a 0)), (1, .int p0), (2, .int (0 : Int32)), (3, .int (0 : Int32))]) [2, 3, 1, 0] rfl ?_
  obtain ⟨m, h⟩ := h
  exact lp_X5_livingIn_4 hC hZ m p0 (0 : Int32) (0 : Int32) h
def wl_X5_askingFor_4 (post : Int32 → Prop) (o : Off) : Nat → Int32 → Int32 → Int32 → Prop
  | 0, _, _, _ => False
  | n + 1, x1, x2, x3 => (vp_in (0 : Int32) 160 ∧ (((o 1 (0 : Int32).toNatClampNeg) ≤ x3 → post x2) ∧ (¬ (o 1 (0 : Int32).toNatClampNeg) ≤ x3 → wp_X5_asksFor (fun v1 => ((v1 = 0 → (∀ v2 : Int32, v2 = (x2 + (0 : Int32)) → (∀ v3 : Int32, v3 = x3 + (1 : Int32) → wl_X5_askingFor_4 post o n x1 v2 v3))) ∧ (¬ v1 = 0 → (∀ v4 : Int32, v4 = (x2 + (1 : Int32)) → (∀ v5 : Int32, v5 = x3 + (1 : Int32) → wl_X5_askingFor_4 post o n x1 v4 v5))))) o x3 x1)))
def wp_X5_askingFor (post : Int32 → Prop) (o : Off) (p0 : Int32) : Prop := (∃ m : Nat, wl_X5_askingFor_4 post o m p0 (0 : Int32) (0 : Int32))
set_option maxRecDepth 100000 in
set_option maxHeartbeats 4000000 in
theorem lp_X5_askingFor_4 {x : gX} {l : Launch} {g : gE} {a : Nat → Nat} {o : Off} {post : Int32 → Prop} (hC : gC x l cX5_askingFor 4 RX5 g 3 66 0 0) (hZ : gZ x g (some .int) (modW g a o) (pR (modW g a o) post) 0 0) : ∀ (n : Nat) (x1 : Int32) (x2 : Int32) (x3 : Int32) , wl_X5_askingFor_4 post o n x1 x2 x3 → G x g 4 0 0 (modW g a o) 4 [(0, .ref (a 0)), (1, .int x1), (2, .int x2), (3, .int x3)] [] := by
  intro n
  induction n with
  | zero =>
    intro x1 x2 x3 h
    exact h.elim
  | succ n ih =>
    intro x1 x2 x3 h
    rw [wl_X5_askingFor_4] at h
    refine g_iload_n hC dX5_askingFor_4 5 rfl rfl 3 rfl ?_
    refine g_aload_n hC dX5_askingFor_5 6 rfl rfl 0 rfl ?_
    refine g_get hC fl_X5_7 dX5_askingFor_6 9 rfl 0 rfl rfl ?_
    refine g_iconst hC (0 : Int32) dX5_askingFor_9 10 rfl iconst_0 ?_
    obtain ⟨hi, h⟩ := h
    refine g_iald hC dX5_askingFor_10 11 rfl 1 rfl hi ?_
    refine g_icmp_ge hC dX5_askingFor_11 37 (by decide) 14 rfl (fun c => ?_) (fun c => ?_)
    · have h := h.1 c
      refine g_iload_n hC dX5_askingFor_37 38 rfl rfl 2 rfl ?_
      exact g_iret hC hZ dX5_askingFor_38 ⟨_, rfl, rfl, h⟩
    · have h := h.2 c
      refine g_iload_n hC dX5_askingFor_14 15 rfl rfl 2 rfl ?_
      refine g_aload_n hC dX5_askingFor_15 16 rfl rfl 0 rfl ?_
      refine g_iload_n hC dX5_askingFor_16 17 rfl rfl 3 rfl ?_
      refine g_iload_n hC dX5_askingFor_17 18 rfl rfl 1 rfl ?_
      refine g_readV hC (ct_X5_asksFor l g a o x3 x1 _ h) gY_X5_asksFor dX5_askingFor_18 21 rfl ml_X5_107 [] [] (by simp only [List.nil_append, List.append_nil]) [.int x2] rfl rfl rfl 0 9 rfl rfl ⟨Nat.le_of_ble_eq_true rfl, Nat.le_of_ble_eq_true rfl⟩ (Nat.le_of_ble_eq_true rfl) ⟨Nat.le_refl _, Nat.le_refl _⟩ (fun v1 h => ?_)
      refine g_if_eq hC dX5_askingFor_21 28 (by decide) 24 rfl (fun c => ?_) (fun c => ?_)
      · have h := h.1 c
        refine g_iconst hC (0 : Int32) dX5_askingFor_28 29 rfl iconst_0 ?_
        refine g_iadd hC dX5_askingFor_29 30 rfl ?_
        refine g_topi (fun v2 ev2 => ?_)
        have h := h v2 ev2
        refine g_istore_n (lv2 := [(2, .int v2), (0, .ref (a 0)), (1, .int x1), (3, .int x3)]) hC dX5_askingFor_30 31 rfl rfl (by decide) rfl ?_
        obtain ⟨v3, ev3⟩ : ∃ y : Int32, y = x3 + (1 : Int32) := ⟨_, rfl⟩
        have h := h v3 ev3
        refine g_iinc (v2 := v3) (lv2 := [(3, .int v3), (2, .int v2), (0, .ref (a 0)), (1, .int x1)]) hC dX5_askingFor_31 34 rfl 3 rfl (by rw [iconst_1, ev3]) (by decide) rfl ?_
        refine g_goto hC dX5_askingFor_34 4 (by decide) ?_
        refine g_lv (lv2 := [(0, .ref (a 0)), (1, .int x1), (2, .int v2), (3, .int v3)]) [2, 3, 1, 0] rfl ?_
        exact ih x1 v2 v3 h
      · have h := h.2 c
        refine g_iconst hC (1 : Int32) dX5_askingFor_24 25 rfl iconst_1 ?_
        refine g_goto hC dX5_askingFor_25 29 (by decide) ?_
        refine g_iadd hC dX5_askingFor_29 30 rfl ?_
        refine g_topi (fun v4 ev4 => ?_)
        have h := h v4 ev4
        refine g_istore_n (lv2 := [(2, .int v4), (0, .ref (a 0)), (1, .int x1), (3, .int x3)]) hC dX5_askingFor_30 31 rfl rfl (by decide) rfl ?_
        obtain ⟨v5, ev5⟩ : ∃ y : Int32, y = x3 + (1 : Int32) := ⟨_, rfl⟩
        have h := h v5 ev5
        refine g_iinc (v2 := v5) (lv2 := [(3, .int v5), (2, .int v4), (0, .ref (a 0)), (1, .int x1)]) hC dX5_askingFor_31 34 rfl 3 rfl (by rw [iconst_1, ev5]) (by decide) rfl ?_
        refine g_goto hC dX5_askingFor_34 4 (by decide) ?_
        refine g_lv (lv2 := [(0, .ref (a 0)), (1, .int x1), (2, .int v4), (3, .int v5)]) [2, 3, 1, 0] rfl ?_
        exact ih x1 v4 v5 h
set_option maxRecDepth 100000 in
set_option maxHeartbeats 4000000 in
theorem ct_X5_askingFor (l : Launch) (g : gE) (a : Nat → Nat) (o : Off) (p0 : Int32) (post : Int32 → Prop) (h : wp_X5_askingFor post o p0) : Fn l g yX5_askingFor cX5_askingFor 4 (some .int) 3 66 0 0 (modW g a o) [.ref (a 0), .int p0] (pR (modW g a o) post) := by
  refine Fn.of (by decide) (Nat.le_of_ble_eq_true rfl) (fun x hC hZ => ?_)
  rw [wp_X5_askingFor] at h
  show G x g 4 0 0 (modW g a o) 0 [(0, .ref (a 0)), (1, .int p0)] []
  refine g_iconst hC (0 : Int32) dX5_askingFor_0 1 rfl iconst_0 ?_
  refine g_istore_n (lv2 := [(2, .int (0 : Int32)), (0, .ref (a 0)), (1, .int p0)]) hC dX5_askingFor_1 2 rfl rfl (by decide) rfl ?_
  refine g_iconst hC (0 : Int32) dX5_askingFor_2 3 rfl iconst_0 ?_
  refine g_istore_n (lv2 := [(3, .int (0 : Int32)), (2, .int (0 : Int32)), (0, .ref (a 0)), (1, .int p0)]) hC dX5_askingFor_3 4 rfl rfl (by decide) rfl ?_
  refine g_lv (lv2 := [(0, .ref (a 0)), (1, .int p0), (2, .int (0 : Int32)), (3, .int (0 : Int32))]) [2, 3, 1, 0] rfl ?_
  obtain ⟨m, h⟩ := h
  exact lp_X5_askingFor_4 hC hZ m p0 (0 : Int32) (0 : Int32) h
def wl_X5_pairsIn_4 (post : Int32 → Prop) (o : Off) : Nat → Int32 → Int32 → Int32 → Prop
  | 0, _, _, _ => False
  | n + 1, x1, x2, x3 => (vp_in (0 : Int32) 160 ∧ (((o 1 (0 : Int32).toNatClampNeg) ≤ x3 → post (x2 / (2 : Int32))) ∧ (¬ (o 1 (0 : Int32).toNatClampNeg) ≤ x3 → wp_X5_livesIn (fun v1 => ((v1 = 0 → (∀ v2 : Int32, v2 = (x2 + (0 : Int32)) → (∀ v3 : Int32, v3 = x3 + (1 : Int32) → wl_X5_pairsIn_4 post o n x1 v2 v3))) ∧ (¬ v1 = 0 → wp_X5_isPaired (fun v4 => ((v4 = 0 → (∀ v5 : Int32, v5 = (x2 + (0 : Int32)) → (∀ v6 : Int32, v6 = x3 + (1 : Int32) → wl_X5_pairsIn_4 post o n x1 v5 v6))) ∧ (¬ v4 = 0 → (∀ v7 : Int32, v7 = (x2 + (1 : Int32)) → (∀ v8 : Int32, v8 = x3 + (1 : Int32) → wl_X5_pairsIn_4 post o n x1 v7 v8))))) o x3))) o x3 x1)))
def wp_X5_pairsIn (post : Int32 → Prop) (o : Off) (p0 : Int32) : Prop := (∃ m : Nat, wl_X5_pairsIn_4 post o m p0 (0 : Int32) (0 : Int32))
set_option maxRecDepth 100000 in
set_option maxHeartbeats 4000000 in
theorem lp_X5_pairsIn_4 {x : gX} {l : Launch} {g : gE} {a : Nat → Nat} {o : Off} {post : Int32 → Prop} (hC : gC x l cX5_pairsIn 4 RX5 g 3 66 0 0) (hZ : gZ x g (some .int) (modW g a o) (pR (modW g a o) post) 0 0) : ∀ (n : Nat) (x1 : Int32) (x2 : Int32) (x3 : Int32) , wl_X5_pairsIn_4 post o n x1 x2 x3 → G x g 4 0 0 (modW g a o) 4 [(0, .ref (a 0)), (1, .int x1), (2, .int x2), (3, .int x3)] [] := by
  intro n
  induction n with
  | zero =>
    intro x1 x2 x3 h
    exact h.elim
  | succ n ih =>
    intro x1 x2 x3 h
    rw [wl_X5_pairsIn_4] at h
    refine g_iload_n hC dX5_pairsIn_4 5 rfl rfl 3 rfl ?_
    refine g_aload_n hC dX5_pairsIn_5 6 rfl rfl 0 rfl ?_
    refine g_get hC fl_X5_7 dX5_pairsIn_6 9 rfl 0 rfl rfl ?_
    refine g_iconst hC (0 : Int32) dX5_pairsIn_9 10 rfl iconst_0 ?_
    obtain ⟨hi, h⟩ := h
    refine g_iald hC dX5_pairsIn_10 11 rfl 1 rfl hi ?_
    refine g_icmp_ge hC dX5_pairsIn_11 45 (by decide) 14 rfl (fun c => ?_) (fun c => ?_)
    · have h := h.1 c
      refine g_iload_n hC dX5_pairsIn_45 46 rfl rfl 2 rfl ?_
      refine g_iconst hC (2 : Int32) dX5_pairsIn_46 47 rfl iconst_2 ?_
      refine g_idiv hC dX5_pairsIn_47 48 rfl (by decide) ?_
      exact g_iret hC hZ dX5_pairsIn_48 ⟨_, rfl, rfl, h⟩
    · have h := h.2 c
      refine g_iload_n hC dX5_pairsIn_14 15 rfl rfl 2 rfl ?_
      refine g_aload_n hC dX5_pairsIn_15 16 rfl rfl 0 rfl ?_
      refine g_iload_n hC dX5_pairsIn_16 17 rfl rfl 3 rfl ?_
      refine g_iload_n hC dX5_pairsIn_17 18 rfl rfl 1 rfl ?_
      refine g_readV hC (ct_X5_livesIn l g a o x3 x1 _ h) gY_X5_livesIn dX5_pairsIn_18 21 rfl ml_X5_104 [] [] (by simp only [List.nil_append, List.append_nil]) [.int x2] rfl rfl rfl 0 9 rfl rfl ⟨Nat.le_of_ble_eq_true rfl, Nat.le_of_ble_eq_true rfl⟩ (Nat.le_of_ble_eq_true rfl) ⟨Nat.le_refl _, Nat.le_refl _⟩ (fun v1 h => ?_)
      refine g_if_eq hC dX5_pairsIn_21 36 (by decide) 24 rfl (fun c => ?_) (fun c => ?_)
      · have h := h.1 c
        refine g_iconst hC (0 : Int32) dX5_pairsIn_36 37 rfl iconst_0 ?_
        refine g_iadd hC dX5_pairsIn_37 38 rfl ?_
        refine g_topi (fun v2 ev2 => ?_)
        have h := h v2 ev2
        refine g_istore_n (lv2 := [(2, .int v2), (0, .ref (a 0)), (1, .int x1), (3, .int x3)]) hC dX5_pairsIn_38 39 rfl rfl (by decide) rfl ?_
        obtain ⟨v3, ev3⟩ : ∃ y : Int32, y = x3 + (1 : Int32) := ⟨_, rfl⟩
        have h := h v3 ev3
        refine g_iinc (v2 := v3) (lv2 := [(3, .int v3), (2, .int v2), (0, .ref (a 0)), (1, .int x1)]) hC dX5_pairsIn_39 42 rfl 3 rfl (by rw [iconst_1, ev3]) (by decide) rfl ?_
        refine g_goto hC dX5_pairsIn_42 4 (by decide) ?_
        refine g_lv (lv2 := [(0, .ref (a 0)), (1, .int x1), (2, .int v2), (3, .int v3)]) [2, 3, 1, 0] rfl ?_
        exact ih x1 v2 v3 h
      · have h := h.2 c
        refine g_aload_n hC dX5_pairsIn_24 25 rfl rfl 0 rfl ?_
        refine g_iload_n hC dX5_pairsIn_25 26 rfl rfl 3 rfl ?_
        refine g_readV hC (ct_X5_isPaired l g a o x3 _ h) gY_X5_isPaired dX5_pairsIn_26 29 rfl ml_X5_110 [] [] (by simp only [List.nil_append, List.append_nil]) [.int x2] rfl rfl rfl 0 9 rfl rfl ⟨Nat.le_of_ble_eq_true rfl, Nat.le_of_ble_eq_true rfl⟩ (Nat.le_of_ble_eq_true rfl) ⟨Nat.le_refl _, Nat.le_refl _⟩ (fun v4 h => ?_)
        refine g_if_eq hC dX5_pairsIn_29 36 (by decide) 32 rfl (fun c => ?_) (fun c => ?_)
        · have h := h.1 c
          refine g_iconst hC (0 : Int32) dX5_pairsIn_36 37 rfl iconst_0 ?_
          refine g_iadd hC dX5_pairsIn_37 38 rfl ?_
          refine g_topi (fun v5 ev5 => ?_)
          have h := h v5 ev5
          refine g_istore_n (lv2 := [(2, .int v5), (0, .ref (a 0)), (1, .int x1), (3, .int x3)]) hC dX5_pairsIn_38 39 rfl rfl (by decide) rfl ?_
          obtain ⟨v6, ev6⟩ : ∃ y : Int32, y = x3 + (1 : Int32) := ⟨_, rfl⟩
          have h := h v6 ev6
          refine g_iinc (v2 := v6) (lv2 := [(3, .int v6), (2, .int v5), (0, .ref (a 0)), (1, .int x1)]) hC dX5_pairsIn_39 42 rfl 3 rfl (by rw [iconst_1, ev6]) (by decide) rfl ?_
          refine g_goto hC dX5_pairsIn_42 4 (by decide) ?_
          refine g_lv (lv2 := [(0, .ref (a 0)), (1, .int x1), (2, .int v5), (3, .int v6)]) [2, 3, 1, 0] rfl ?_
          exact ih x1 v5 v6 h
        · have h := h.2 c
          refine g_iconst hC (1 : Int32) dX5_pairsIn_32 33 rfl iconst_1 ?_
          refine g_goto hC dX5_pairsIn_33 37 (by decide) ?_
          refine g_iadd hC dX5_pairsIn_37 38 rfl ?_
          refine g_topi (fun v7 ev7 => ?_)
          have h := h v7 ev7
          refine g_istore_n (lv2 := [(2, .int v7), (0, .ref (a 0)), (1, .int x1), (3, .int x3)]) hC dX5_pairsIn_38 39 rfl rfl (by decide) rfl ?_
          obtain ⟨v8, ev8⟩ : ∃ y : Int32, y = x3 + (1 : Int32) := ⟨_, rfl⟩
          have h := h v8 ev8
          refine g_iinc (v2 := v8) (lv2 := [(3, .int v8), (2, .int v7), (0, .ref (a 0)), (1, .int x1)]) hC dX5_pairsIn_39 42 rfl 3 rfl (by rw [iconst_1, ev8]) (by decide) rfl ?_
          refine g_goto hC dX5_pairsIn_42 4 (by decide) ?_
          refine g_lv (lv2 := [(0, .ref (a 0)), (1, .int x1), (2, .int v7), (3, .int v8)]) [2, 3, 1, 0] rfl ?_
          exact ih x1 v7 v8 h
set_option maxRecDepth 100000 in
set_option maxHeartbeats 4000000 in
theorem ct_X5_pairsIn (l : Launch) (g : gE) (a : Nat → Nat) (o : Off) (p0 : Int32) (post : Int32 → Prop) (h : wp_X5_pairsIn post o p0) : Fn l g yX5_pairsIn cX5_pairsIn 4 (some .int) 3 66 0 0 (modW g a o) [.ref (a 0), .int p0] (pR (modW g a o) post) := by
  refine Fn.of (by decide) (Nat.le_of_ble_eq_true rfl) (fun x hC hZ => ?_)
  rw [wp_X5_pairsIn] at h
  show G x g 4 0 0 (modW g a o) 0 [(0, .ref (a 0)), (1, .int p0)] []
  refine g_iconst hC (0 : Int32) dX5_pairsIn_0 1 rfl iconst_0 ?_
  refine g_istore_n (lv2 := [(2, .int (0 : Int32)), (0, .ref (a 0)), (1, .int p0)]) hC dX5_pairsIn_1 2 rfl rfl (by decide) rfl ?_
  refine g_iconst hC (0 : Int32) dX5_pairsIn_2 3 rfl iconst_0 ?_
  refine g_istore_n (lv2 := [(3, .int (0 : Int32)), (2, .int (0 : Int32)), (0, .ref (a 0)), (1, .int p0)]) hC dX5_pairsIn_3 4 rfl rfl (by decide) rfl ?_
  refine g_lv (lv2 := [(0, .ref (a 0)), (1, .int p0), (2, .int (0 : Int32)), (3, .int (0 : Int32))]) [2, 3, 1, 0] rfl ?_
  obtain ⟨m, h⟩ := h
  exact lp_X5_pairsIn_4 hC hZ m p0 (0 : Int32) (0 : Int32) h
def wp_X5_isShut (post : Int32 → Prop) (o : Off) (p0 : Int32) (p1 : Int32) : Prop := (vp_in ((125 : Int32) + p0) 160 ∧ wp_X5_bitOf (fun v1 => ((((o 1 ((125 : Int32) + p0).toNatClampNeg) &&& v1) ≤ 0 → post (0 : Int32)) ∧ (¬ ((o 1 ((125 : Int32) + p0).toNatClampNeg) &&& v1) ≤ 0 → post (1 : Int32)))) p1)
set_option maxRecDepth 100000 in
set_option maxHeartbeats 4000000 in
theorem ct_X5_isShut (l : Launch) (g : gE) (a : Nat → Nat) (o : Off) (p0 : Int32) (p1 : Int32) (post : Int32 → Prop) (h : wp_X5_isShut post o p0 p1) : Fn l g yX5_isShut cX5_isShut 3 (some .boolean) 1 20 0 0 (modW g a o) [.ref (a 0), .int p0, .int p1] (pR (modW g a o) post) := by
  refine Fn.of (by decide) (Nat.le_of_ble_eq_true rfl) (fun x hC hZ => ?_)
  rw [wp_X5_isShut] at h
  show G x g 3 0 0 (modW g a o) 0 [(0, .ref (a 0)), (1, .int p0), (2, .int p1)] []
  refine g_aload_n hC dX5_isShut_0 1 rfl rfl 0 rfl ?_
  refine g_get hC fl_X5_7 dX5_isShut_1 4 rfl 0 rfl rfl ?_
  refine g_bipush hC (125 : Int32) dX5_isShut_4 6 rfl bipush_125 ?_
  refine g_iload_n hC dX5_isShut_6 7 rfl rfl 1 rfl ?_
  refine g_iadd hC dX5_isShut_7 8 rfl ?_
  obtain ⟨hi, h⟩ := h
  refine g_iald hC dX5_isShut_8 9 rfl 1 rfl hi ?_
  refine g_iload_n hC dX5_isShut_9 10 rfl rfl 2 rfl ?_
  refine g_readS hC (ct_X5_bitOf l g p1 _ h) gY_X5_bitOf dX5_isShut_10 13 rfl ml_X5_114 [] _ rfl [.int (o 1 ((125 : Int32) + p0).toNatClampNeg)] rfl rfl ⟨Nat.le_of_ble_eq_true rfl, Nat.le_of_ble_eq_true rfl⟩ (Nat.le_of_ble_eq_true rfl) ⟨Nat.le_refl _, Nat.le_refl _⟩ (fun v1 h => ?_)
  refine g_iand hC dX5_isShut_13 14 rfl ?_
  refine g_if_le hC dX5_isShut_14 21 (by decide) 17 rfl (fun c => ?_) (fun c => ?_)
  · have h := h.1 c
    refine g_iconst hC (0 : Int32) dX5_isShut_21 22 rfl iconst_0 ?_
    exact g_zret hC hZ rfl dX5_isShut_22 ⟨_, rfl, rfl, h⟩
  · have h := h.2 c
    refine g_iconst hC (1 : Int32) dX5_isShut_17 18 rfl iconst_1 ?_
    refine g_goto hC dX5_isShut_18 22 (by decide) ?_
    exact g_zret hC hZ rfl dX5_isShut_22 ⟨_, rfl, rfl, h⟩
def wp_X5_sendsAway (post : Off → Prop) (o : Off) (p0 : Int32) : Prop := wp_X5_set (fun o1 => wp_X5_set (fun o2 => wp_X5_set (fun o3 => wp_X5_set (fun o4 => wp_X5_set (fun o5 => wp_X5_set (fun o6 => post o6) o5 p0 (7 : Int32) (-1 : Int32)) o4 p0 (6 : Int32) (0 : Int32)) o3 p0 (5 : Int32) (0 : Int32)) o2 p0 (4 : Int32) (0 : Int32)) o1 p0 (3 : Int32) (0 : Int32)) o p0 (2 : Int32) (0 : Int32)
set_option maxRecDepth 100000 in
set_option maxHeartbeats 4000000 in
theorem ct_X5_sendsAway (l : Launch) (g : gE) (a : Nat → Nat) (o : Off) (p0 : Int32) (post : Off → Prop) (h : wp_X5_sendsAway post o p0) : Fn l g yX5_sendsAway cX5_sendsAway 2 none 1 23 0 0 (modW g a o) [.ref (a 0), .int p0] (pV (modW g a) post) := by
  refine Fn.of (by decide) (Nat.le_of_ble_eq_true rfl) (fun x hC hZ => ?_)
  rw [wp_X5_sendsAway] at h
  show G x g 2 0 0 (modW g a o) 0 [(0, .ref (a 0)), (1, .int p0)] []
  refine g_aload_n hC dX5_sendsAway_0 1 rfl rfl 0 rfl ?_
  refine g_iload_n hC dX5_sendsAway_1 2 rfl rfl 1 rfl ?_
  refine g_iconst hC (2 : Int32) dX5_sendsAway_2 3 rfl iconst_2 ?_
  refine g_iconst hC (0 : Int32) dX5_sendsAway_3 4 rfl iconst_0 ?_
  refine g_ownV hC (ct_X5_set l g a o p0 (2 : Int32) (0 : Int32) _ h) gY_X5_set dX5_sendsAway_4 7 rfl ml_X5_117 [] rfl rfl rfl 0 9 rfl rfl ⟨Nat.le_of_ble_eq_true rfl, Nat.le_of_ble_eq_true rfl⟩ (Nat.le_of_ble_eq_true rfl) ⟨Nat.le_refl _, Nat.le_refl _⟩ (fun o1 h => ?_)
  refine g_aload_n hC dX5_sendsAway_7 8 rfl rfl 0 rfl ?_
  refine g_iload_n hC dX5_sendsAway_8 9 rfl rfl 1 rfl ?_
  refine g_iconst hC (3 : Int32) dX5_sendsAway_9 10 rfl iconst_3 ?_
  refine g_iconst hC (0 : Int32) dX5_sendsAway_10 11 rfl iconst_0 ?_
  refine g_ownV hC (ct_X5_set l g a o1 p0 (3 : Int32) (0 : Int32) _ h) gY_X5_set dX5_sendsAway_11 14 rfl ml_X5_117 [] rfl rfl rfl 0 9 rfl rfl ⟨Nat.le_of_ble_eq_true rfl, Nat.le_of_ble_eq_true rfl⟩ (Nat.le_of_ble_eq_true rfl) ⟨Nat.le_refl _, Nat.le_refl _⟩ (fun o2 h => ?_)
  refine g_aload_n hC dX5_sendsAway_14 15 rfl rfl 0 rfl ?_
  refine g_iload_n hC dX5_sendsAway_15 16 rfl rfl 1 rfl ?_
  refine g_iconst hC (4 : Int32) dX5_sendsAway_16 17 rfl iconst_4 ?_
  refine g_iconst hC (0 : Int32) dX5_sendsAway_17 18 rfl iconst_0 ?_
  refine g_ownV hC (ct_X5_set l g a o2 p0 (4 : Int32) (0 : Int32) _ h) gY_X5_set dX5_sendsAway_18 21 rfl ml_X5_117 [] rfl rfl rfl 0 9 rfl rfl ⟨Nat.le_of_ble_eq_true rfl, Nat.le_of_ble_eq_true rfl⟩ (Nat.le_of_ble_eq_true rfl) ⟨Nat.le_refl _, Nat.le_refl _⟩ (fun o3 h => ?_)
  refine g_aload_n hC dX5_sendsAway_21 22 rfl rfl 0 rfl ?_
  refine g_iload_n hC dX5_sendsAway_22 23 rfl rfl 1 rfl ?_
  refine g_iconst hC (5 : Int32) dX5_sendsAway_23 24 rfl iconst_5 ?_
  refine g_iconst hC (0 : Int32) dX5_sendsAway_24 25 rfl iconst_0 ?_
  refine g_ownV hC (ct_X5_set l g a o3 p0 (5 : Int32) (0 : Int32) _ h) gY_X5_set dX5_sendsAway_25 28 rfl ml_X5_117 [] rfl rfl rfl 0 9 rfl rfl ⟨Nat.le_of_ble_eq_true rfl, Nat.le_of_ble_eq_true rfl⟩ (Nat.le_of_ble_eq_true rfl) ⟨Nat.le_refl _, Nat.le_refl _⟩ (fun o4 h => ?_)
  refine g_aload_n hC dX5_sendsAway_28 29 rfl rfl 0 rfl ?_
  refine g_iload_n hC dX5_sendsAway_29 30 rfl rfl 1 rfl ?_
  refine g_bipush hC (6 : Int32) dX5_sendsAway_30 32 rfl bipush_6 ?_
  refine g_iconst hC (0 : Int32) dX5_sendsAway_32 33 rfl iconst_0 ?_
  refine g_ownV hC (ct_X5_set l g a o4 p0 (6 : Int32) (0 : Int32) _ h) gY_X5_set dX5_sendsAway_33 36 rfl ml_X5_117 [] rfl rfl rfl 0 9 rfl rfl ⟨Nat.le_of_ble_eq_true rfl, Nat.le_of_ble_eq_true rfl⟩ (Nat.le_of_ble_eq_true rfl) ⟨Nat.le_refl _, Nat.le_refl _⟩ (fun o5 h => ?_)
  refine g_aload_n hC dX5_sendsAway_36 37 rfl rfl 0 rfl ?_
  refine g_iload_n hC dX5_sendsAway_37 38 rfl rfl 1 rfl ?_
  refine g_bipush hC (7 : Int32) dX5_sendsAway_38 40 rfl bipush_7 ?_
  refine g_iconst hC (-1 : Int32) dX5_sendsAway_40 41 rfl iconst_m1 ?_
  refine g_ownV hC (ct_X5_set l g a o5 p0 (7 : Int32) (-1 : Int32) _ h) gY_X5_set dX5_sendsAway_41 44 rfl ml_X5_117 [] rfl rfl rfl 0 9 rfl rfl ⟨Nat.le_of_ble_eq_true rfl, Nat.le_of_ble_eq_true rfl⟩ (Nat.le_of_ble_eq_true rfl) ⟨Nat.le_refl _, Nat.le_refl _⟩ (fun o6 h => ?_)
  exact g_vret hC hZ dX5_sendsAway_44 ⟨_, rfl, rfl, h⟩
def wj_X5_tooMany_17 (post : Int32 → Off → Prop) (o : Off) (s0 : Int32) : Prop := wp_X5_notes (fun v2 o1 => (isB v2 ∧ post v2 o1)) o s0 (1 : Int32) (14 : Int32)
def wp_X5_tooMany (post : Int32 → Off → Prop) (o : Off) : Prop := (vp_in (0 : Int32) 160 ∧ ((¬ (o 1 (0 : Int32).toNatClampNeg) = (14 : Int32) → wj_X5_tooMany_17 post o (0 : Int32)) ∧ ((o 1 (0 : Int32).toNatClampNeg) = (14 : Int32) → wj_X5_tooMany_17 post o (1 : Int32))))
set_option maxRecDepth 100000 in
set_option maxHeartbeats 4000000 in
theorem jn_X5_tooMany_17 {x : gX} {l : Launch} {g : gE} {a : Nat → Nat} {o0 : Off} {post : Int32 → Off → Prop} (hC : gC x l cX5_tooMany 1 RX5 g 1 23 0 0) (hZ : gZ x g (some .boolean) (modW g a o0) (pI (modW g a) post) 0 0) : ∀ (o : Off) (s0 : Int32) , wj_X5_tooMany_17 post o s0 → G x g 1 0 0 (modW g a o) 17 [] [.int s0, .ref (a 0)] := by
  intro o s0 h
  rw [wj_X5_tooMany_17] at h
  refine g_iconst hC (1 : Int32) dX5_tooMany_17 18 rfl iconst_1 ?_
  refine g_bipush hC (14 : Int32) dX5_tooMany_18 20 rfl bipush_14 ?_
  refine g_ownI hC (ct_X5_notes l g a o s0 (1 : Int32) (14 : Int32) _ h) gY_X5_notes dX5_tooMany_20 23 rfl ml_X5_121 [] rfl rfl rfl 0 9 rfl rfl ⟨Nat.le_of_ble_eq_true rfl, Nat.le_of_ble_eq_true rfl⟩ (Nat.le_of_ble_eq_true rfl) ⟨Nat.le_refl _, Nat.le_refl _⟩ (fun v2 o1 h => ?_)
  obtain ⟨hb, h⟩ := h
  exact g_zret hC hZ (isB_n hb) dX5_tooMany_23 ⟨_, _, rfl, rfl, h⟩
set_option maxRecDepth 100000 in
set_option maxHeartbeats 4000000 in
theorem ct_X5_tooMany (l : Launch) (g : gE) (a : Nat → Nat) (o : Off) (post : Int32 → Off → Prop) (h : wp_X5_tooMany post o ) : Fn l g yX5_tooMany cX5_tooMany 1 (some .boolean) 1 23 0 0 (modW g a o) [.ref (a 0)] (pI (modW g a) post) := by
  refine Fn.of (by decide) (Nat.le_of_ble_eq_true rfl) (fun x hC hZ => ?_)
  rw [wp_X5_tooMany] at h
  show G x g 1 0 0 (modW g a o) 0 [(0, .ref (a 0))] []
  refine g_aload_n hC dX5_tooMany_0 1 rfl rfl 0 rfl ?_
  refine g_aload_n hC dX5_tooMany_1 2 rfl rfl 0 rfl ?_
  refine g_get hC fl_X5_7 dX5_tooMany_2 5 rfl 0 rfl rfl ?_
  refine g_iconst hC (0 : Int32) dX5_tooMany_5 6 rfl iconst_0 ?_
  obtain ⟨hi, h⟩ := h
  refine g_iald hC dX5_tooMany_6 7 rfl 1 rfl hi ?_
  refine g_bipush hC (14 : Int32) dX5_tooMany_7 9 rfl bipush_14 ?_
  refine g_icmp_ne hC dX5_tooMany_9 16 (by decide) 12 rfl (fun c => ?_) (fun c => ?_)
  · have h := h.1 c
    refine g_iconst hC (0 : Int32) dX5_tooMany_16 17 rfl iconst_0 ?_
    refine g_lv (lv2 := []) [] rfl ?_
    exact jn_X5_tooMany_17 hC hZ o (0 : Int32) h
  · have h := h.2 c
    refine g_iconst hC (1 : Int32) dX5_tooMany_12 13 rfl iconst_1 ?_
    refine g_goto hC dX5_tooMany_13 17 (by decide) ?_
    refine g_lv (lv2 := []) [] rfl ?_
    exact jn_X5_tooMany_17 hC hZ o (1 : Int32) h
def wp_X5_adds (post : Int32 → Off → Prop) (o : Off) (p0 : Int32) (p1 : Int32) : Prop := (vp_in (0 : Int32) 160 ∧ (∀ v1 : Int32, v1 = (o 1 (0 : Int32).toNatClampNeg) → wp_X5_set (fun o2 => wp_X5_set (fun o3 => wp_X5_sendsAway (fun o4 => (vp_in (0 : Int32) 160 ∧ (vp_in (0 : Int32) 160 ∧ (∀ o5 : Off, o5 = st o4 1 (0 : Int32).toNatClampNeg ((o4 1 (0 : Int32).toNatClampNeg) + (1 : Int32)) → post v1 o5)))) o3 v1) o2 v1 (1 : Int32) p1) o v1 (0 : Int32) p0))
set_option maxRecDepth 100000 in
set_option maxHeartbeats 4000000 in
theorem ct_X5_adds (l : Launch) (g : gE) (a : Nat → Nat) (o : Off) (p0 : Int32) (p1 : Int32) (post : Int32 → Off → Prop) (h : wp_X5_adds post o p0 p1) : Fn l g yX5_adds cX5_adds 4 (some .int) 2 44 0 0 (modW g a o) [.ref (a 0), .int p0, .int p1] (pI (modW g a) post) := by
  refine Fn.of (by decide) (Nat.le_of_ble_eq_true rfl) (fun x hC hZ => ?_)
  rw [wp_X5_adds] at h
  show G x g 4 0 0 (modW g a o) 0 [(0, .ref (a 0)), (1, .int p0), (2, .int p1)] []
  refine g_aload_n hC dX5_adds_0 1 rfl rfl 0 rfl ?_
  refine g_get hC fl_X5_7 dX5_adds_1 4 rfl 0 rfl rfl ?_
  refine g_iconst hC (0 : Int32) dX5_adds_4 5 rfl iconst_0 ?_
  obtain ⟨hi, h⟩ := h
  refine g_iald hC dX5_adds_5 6 rfl 1 rfl hi ?_
  refine g_topi (fun v1 ev1 => ?_)
  have h := h v1 ev1
  refine g_istore_n (lv2 := [(3, .int v1), (0, .ref (a 0)), (1, .int p0), (2, .int p1)]) hC dX5_adds_6 7 rfl rfl (by decide) rfl ?_
  refine g_aload_n hC dX5_adds_7 8 rfl rfl 1 rfl ?_
  refine g_iload_n hC dX5_adds_8 9 rfl rfl 0 rfl ?_
  refine g_iconst hC (0 : Int32) dX5_adds_9 10 rfl iconst_0 ?_
  refine g_iload_n hC dX5_adds_10 11 rfl rfl 2 rfl ?_
  refine g_ownV hC (ct_X5_set l g a o v1 (0 : Int32) p0 _ h) gY_X5_set dX5_adds_11 14 rfl ml_X5_117 [] rfl rfl rfl 0 9 rfl rfl ⟨Nat.le_of_ble_eq_true rfl, Nat.le_of_ble_eq_true rfl⟩ (Nat.le_of_ble_eq_true rfl) ⟨Nat.le_refl _, Nat.le_refl _⟩ (fun o2 h => ?_)
  refine g_aload_n hC dX5_adds_14 15 rfl rfl 1 rfl ?_
  refine g_iload_n hC dX5_adds_15 16 rfl rfl 0 rfl ?_
  refine g_iconst hC (1 : Int32) dX5_adds_16 17 rfl iconst_1 ?_
  refine g_iload_n hC dX5_adds_17 18 rfl rfl 3 rfl ?_
  refine g_ownV hC (ct_X5_set l g a o2 v1 (1 : Int32) p1 _ h) gY_X5_set dX5_adds_18 21 rfl ml_X5_117 [] rfl rfl rfl 0 9 rfl rfl ⟨Nat.le_of_ble_eq_true rfl, Nat.le_of_ble_eq_true rfl⟩ (Nat.le_of_ble_eq_true rfl) ⟨Nat.le_refl _, Nat.le_refl _⟩ (fun o3 h => ?_)
  refine g_aload_n hC dX5_adds_21 22 rfl rfl 1 rfl ?_
  refine g_iload_n hC dX5_adds_22 23 rfl rfl 0 rfl ?_
  refine g_ownV hC (ct_X5_sendsAway l g a o3 v1 _ h) gY_X5_sendsAway dX5_adds_23 26 rfl ml_X5_125 [] rfl rfl rfl 0 9 rfl rfl ⟨Nat.le_of_ble_eq_true rfl, Nat.le_of_ble_eq_true rfl⟩ (Nat.le_of_ble_eq_true rfl) ⟨Nat.le_refl _, Nat.le_refl _⟩ (fun o4 h => ?_)
  refine g_aload_n hC dX5_adds_26 27 rfl rfl 1 rfl ?_
  refine g_get hC fl_X5_7 dX5_adds_27 30 rfl 0 rfl rfl ?_
  refine g_iconst hC (0 : Int32) dX5_adds_30 31 rfl iconst_0 ?_
  refine g_dup2 hC dX5_adds_31 32 rfl rfl rfl ?_
  obtain ⟨hi, h⟩ := h
  refine g_iald hC dX5_adds_32 33 rfl 1 rfl hi ?_
  refine g_iconst hC (1 : Int32) dX5_adds_33 34 rfl iconst_1 ?_
  refine g_iadd hC dX5_adds_34 35 rfl ?_
  obtain ⟨hi, h⟩ := h
  obtain ⟨o5, eo5⟩ : ∃ y : Off, y = st o4 1 (0 : Int32).toNatClampNeg ((o4 1 (0 : Int32).toNatClampNeg) + (1 : Int32)) := ⟨_, rfl⟩
  have h := h o5 eo5
  refine g_iast hC dX5_adds_35 36 rfl 1 rfl hi (modW_s1 eo5) ?_
  refine g_iload_n hC dX5_adds_36 37 rfl rfl 0 rfl ?_
  exact g_iret hC hZ dX5_adds_37 ⟨_, _, rfl, rfl, h⟩
def wp_X5_isKind (post : Int32 → Prop) (p0 : Int32) (p1 : Int32) : Prop := wp_X5_bitOf (fun v1 => ((v1 ≤ 0 → post (0 : Int32)) ∧ (¬ v1 ≤ 0 → wp_X5_in (fun v2 => ((v2 = 0 → post (0 : Int32)) ∧ (¬ v2 = 0 → post (1 : Int32)))) p1 (1 : Int32) (9 : Int32)))) p0
set_option maxRecDepth 100000 in
set_option maxHeartbeats 4000000 in
theorem ct_X5_isKind (l : Launch) (g : gE) (p0 : Int32) (p1 : Int32) (post : Int32 → Prop) (h : wp_X5_isKind post p0 p1) : Fn l g yX5_isKind cX5_isKind 2 (some .boolean) 1 22 0 0 [] [.int p0, .int p1] (pR [] post) := by
  refine Fn.of (by decide) (Nat.le_of_ble_eq_true rfl) (fun x hC hZ => ?_)
  rw [wp_X5_isKind] at h
  show G x g 2 0 0 [] 0 [(0, .int p0), (1, .int p1)] []
  refine g_iload_n hC dX5_isKind_0 1 rfl rfl 0 rfl ?_
  refine g_readS hC (ct_X5_bitOf l g p0 _ h) gY_X5_bitOf dX5_isKind_1 4 rfl ml_X5_114 [] _ rfl [] rfl rfl ⟨Nat.le_of_ble_eq_true rfl, Nat.le_of_ble_eq_true rfl⟩ (Nat.le_of_ble_eq_true rfl) ⟨Nat.le_refl _, Nat.le_refl _⟩ (fun v1 h => ?_)
  refine g_if_le hC dX5_isKind_4 21 (by decide) 7 rfl (fun c => ?_) (fun c => ?_)
  · have h := h.1 c
    refine g_iconst hC (0 : Int32) dX5_isKind_21 22 rfl iconst_0 ?_
    exact g_zret hC hZ rfl dX5_isKind_22 ⟨_, rfl, rfl, h⟩
  · have h := h.2 c
    refine g_iload_n hC dX5_isKind_7 8 rfl rfl 1 rfl ?_
    refine g_iconst hC (1 : Int32) dX5_isKind_8 9 rfl iconst_1 ?_
    refine g_bipush hC (9 : Int32) dX5_isKind_9 11 rfl bipush_9 ?_
    refine g_readS hC (ct_X5_in l g p1 (1 : Int32) (9 : Int32) _ h) gY_X5_in dX5_isKind_11 14 rfl ml_X5_92 [] _ rfl [] rfl rfl ⟨Nat.le_of_ble_eq_true rfl, Nat.le_of_ble_eq_true rfl⟩ (Nat.le_of_ble_eq_true rfl) ⟨Nat.le_refl _, Nat.le_refl _⟩ (fun v2 h => ?_)
    refine g_if_eq hC dX5_isKind_14 21 (by decide) 17 rfl (fun c => ?_) (fun c => ?_)
    · have h := h.1 c
      refine g_iconst hC (0 : Int32) dX5_isKind_21 22 rfl iconst_0 ?_
      exact g_zret hC hZ rfl dX5_isKind_22 ⟨_, rfl, rfl, h⟩
    · have h := h.2 c
      refine g_iconst hC (1 : Int32) dX5_isKind_17 18 rfl iconst_1 ?_
      refine g_goto hC dX5_isKind_18 22 (by decide) ?_
      exact g_zret hC hZ rfl dX5_isKind_22 ⟨_, rfl, rfl, h⟩
def wp_X5_addSock (post : Int32 → Off → Prop) (o : Off) (p0 : Int32) (p1 : Int32) : Prop := wp_X5_begin (fun o1 => wp_X5_isKind (fun v2 => ((¬ v2 = 0 → wp_X5_tooMany (fun v4 o3 => ((v4 = 0 → wp_X5_adds (fun v6 o5 => wp_X5_commit (fun v8 o7 => post v8 o7) o5 v6) o3 p0 p1) ∧ (¬ v4 = 0 → wp_X5_reject (fun v10 o9 => post v10 o9) o3 (2 : Int32)))) o1 ) ∧ (v2 = 0 → wp_X5_fail (fun v12 o11 => post v12 o11) o1 (1 : Int32)))) p0 p1) o 
set_option maxRecDepth 100000 in
set_option maxHeartbeats 4000000 in
theorem ct_X5_addSock (l : Launch) (g : gE) (a : Nat → Nat) (o : Off) (p0 : Int32) (p1 : Int32) (post : Int32 → Off → Prop) (h : wp_X5_addSock post o p0 p1) : Fn l g yX5_addSock cX5_addSock 3 (some .int) 3 67 0 0 (modW g a o) [.ref (a 0), .int p0, .int p1] (pI (modW g a) post) := by
  refine Fn.of (by decide) (Nat.le_of_ble_eq_true rfl) (fun x hC hZ => ?_)
  rw [wp_X5_addSock] at h
  show G x g 3 0 0 (modW g a o) 0 [(0, .ref (a 0)), (1, .int p0), (2, .int p1)] []
  refine g_aload_n hC dX5_addSock_0 1 rfl rfl 0 rfl ?_
  refine g_ownV hC (ct_X5_begin l g a o  _ h) gY_X5_begin dX5_addSock_1 4 rfl ml_X5_129 [] rfl rfl rfl 0 9 rfl rfl ⟨Nat.le_of_ble_eq_true rfl, Nat.le_of_ble_eq_true rfl⟩ (Nat.le_of_ble_eq_true rfl) ⟨Nat.le_refl _, Nat.le_refl _⟩ (fun o1 h => ?_)
  refine g_iload_n hC dX5_addSock_4 5 rfl rfl 1 rfl ?_
  refine g_iload_n hC dX5_addSock_5 6 rfl rfl 2 rfl ?_
  refine g_readS hC (ct_X5_isKind l g p0 p1 _ h) gY_X5_isKind dX5_addSock_6 9 rfl ml_X5_132 [] _ rfl [] rfl rfl ⟨Nat.le_of_ble_eq_true rfl, Nat.le_of_ble_eq_true rfl⟩ (Nat.le_of_ble_eq_true rfl) ⟨Nat.le_refl _, Nat.le_refl _⟩ (fun v2 h => ?_)
  refine g_if_ne hC dX5_addSock_9 18 (by decide) 12 rfl (fun c => ?_) (fun c => ?_)
  · have h := h.1 c
    refine g_aload_n hC dX5_addSock_18 19 rfl rfl 0 rfl ?_
    refine g_ownI hC (ct_X5_tooMany l g a o1  _ h) gY_X5_tooMany dX5_addSock_19 22 rfl ml_X5_135 [] rfl rfl rfl 0 9 rfl rfl ⟨Nat.le_of_ble_eq_true rfl, Nat.le_of_ble_eq_true rfl⟩ (Nat.le_of_ble_eq_true rfl) ⟨Nat.le_refl _, Nat.le_refl _⟩ (fun v4 o3 h => ?_)
    refine g_if_eq hC dX5_addSock_22 33 (by decide) 25 rfl (fun c => ?_) (fun c => ?_)
    · have h := h.1 c
      refine g_aload_n hC dX5_addSock_33 34 rfl rfl 0 rfl ?_
      refine g_aload_n hC dX5_addSock_34 35 rfl rfl 0 rfl ?_
      refine g_iload_n hC dX5_addSock_35 36 rfl rfl 1 rfl ?_
      refine g_iload_n hC dX5_addSock_36 37 rfl rfl 2 rfl ?_
      refine g_ownI hC (ct_X5_adds l g a o3 p0 p1 _ h) gY_X5_adds dX5_addSock_37 40 rfl ml_X5_142 [.ref (a 0)] rfl rfl rfl 0 9 rfl rfl ⟨Nat.le_of_ble_eq_true rfl, Nat.le_of_ble_eq_true rfl⟩ (Nat.le_of_ble_eq_true rfl) ⟨Nat.le_refl _, Nat.le_refl _⟩ (fun v6 o5 h => ?_)
      refine g_ownI hC (ct_X5_commit l g a o5 v6 _ h) gY_X5_commit dX5_addSock_40 43 rfl ml_X5_145 [] rfl rfl rfl 0 9 rfl rfl ⟨Nat.le_of_ble_eq_true rfl, Nat.le_of_ble_eq_true rfl⟩ (Nat.le_of_ble_eq_true rfl) ⟨Nat.le_refl _, Nat.le_refl _⟩ (fun v8 o7 h => ?_)
      exact g_iret hC hZ dX5_addSock_43 ⟨_, _, rfl, rfl, h⟩
    · have h := h.2 c
      refine g_aload_n hC dX5_addSock_25 26 rfl rfl 0 rfl ?_
      refine g_iconst hC (2 : Int32) dX5_addSock_26 27 rfl iconst_2 ?_
      refine g_ownI hC (ct_X5_reject l g a o3 (2 : Int32) _ h) gY_X5_reject dX5_addSock_27 30 rfl ml_X5_139 [] rfl rfl rfl 0 9 rfl rfl ⟨Nat.le_of_ble_eq_true rfl, Nat.le_of_ble_eq_true rfl⟩ (Nat.le_of_ble_eq_true rfl) ⟨Nat.le_refl _, Nat.le_refl _⟩ (fun v10 o9 h => ?_)
      refine g_goto hC dX5_addSock_30 43 (by decide) ?_
      exact g_iret hC hZ dX5_addSock_43 ⟨_, _, rfl, rfl, h⟩
  · have h := h.2 c
    refine g_aload_n hC dX5_addSock_12 13 rfl rfl 0 rfl ?_
    refine g_iconst hC (1 : Int32) dX5_addSock_13 14 rfl iconst_1 ?_
    refine g_ownI hC (ct_X5_fail l g a o1 (1 : Int32) _ h) gY_X5_fail dX5_addSock_14 17 rfl ml_X5_88 [] rfl rfl rfl 0 9 rfl rfl ⟨Nat.le_of_ble_eq_true rfl, Nat.le_of_ble_eq_true rfl⟩ (Nat.le_of_ble_eq_true rfl) ⟨Nat.le_refl _, Nat.le_refl _⟩ (fun v12 o11 h => ?_)
    exact g_iret hC hZ dX5_addSock_17 ⟨_, _, rfl, rfl, h⟩
def wp_X5_plain (post : Int32 → Off → Prop) (o : Off) (p0 : Int32) : Prop := (∀ o1 : Off, o1 = st o 0 5 (0 : Int32) → post p0 o1)
set_option maxRecDepth 100000 in
set_option maxHeartbeats 4000000 in
theorem ct_X5_plain (l : Launch) (g : gE) (a : Nat → Nat) (o : Off) (p0 : Int32) (post : Int32 → Off → Prop) (h : wp_X5_plain post o p0) : Fn l g yX5_plain cX5_plain 2 (some .int) 0 0 0 0 (modW g a o) [.ref (a 0), .int p0] (pI (modW g a) post) := by
  refine Fn.of (by decide) (Nat.le_of_ble_eq_true rfl) (fun x hC hZ => ?_)
  rw [wp_X5_plain] at h
  show G x g 2 0 0 (modW g a o) 0 [(0, .ref (a 0)), (1, .int p0)] []
  refine g_aload_n hC dX5_plain_0 1 rfl rfl 0 rfl ?_
  refine g_iconst hC (0 : Int32) dX5_plain_1 2 rfl iconst_0 ?_
  obtain ⟨o1, eo1⟩ : ∃ y : Off, y = st o 0 5 (0 : Int32) := ⟨_, rfl⟩
  have h := h o1 eo1
  refine g_put hC fp_X5_25 dX5_plain_2 5 rfl 0 rfl rfl rfl (Nat.le_of_ble_eq_true rfl) (modW_p5 eo1) ?_
  refine g_iload_n hC dX5_plain_5 6 rfl rfl 1 rfl ?_
  exact g_iret hC hZ dX5_plain_6 ⟨_, _, rfl, rfl, h⟩
def wj_X5_checked_10 (post : Int32 → Off → Prop) (o : Off) (s0 : Int32) : Prop := (∀ o1 : Off, o1 = st o 0 5 s0 → post (o1 0 5) o1)
def wp_X5_checked (post : Int32 → Off → Prop) (o : Off) (p0 : Int32) : Prop := ((p0 = 0 → wj_X5_checked_10 post o (1 : Int32)) ∧ (¬ p0 = 0 → wj_X5_checked_10 post o (0 : Int32)))
set_option maxRecDepth 100000 in
set_option maxHeartbeats 4000000 in
theorem jn_X5_checked_10 {x : gX} {l : Launch} {g : gE} {a : Nat → Nat} {o0 : Off} {post : Int32 → Off → Prop} (hC : gC x l cX5_checked 2 RX5 g 0 0 0 0) (hZ : gZ x g (some .int) (modW g a o0) (pI (modW g a) post) 0 0) : ∀ (o : Off) (s0 : Int32) , wj_X5_checked_10 post o s0 → G x g 2 0 0 (modW g a o) 10 [(0, .ref (a 0))] [.int s0, .ref (a 0)] := by
  intro o s0 h
  rw [wj_X5_checked_10] at h
  obtain ⟨o1, eo1⟩ : ∃ y : Off, y = st o 0 5 s0 := ⟨_, rfl⟩
  have h := h o1 eo1
  refine g_put hC fp_X5_25 dX5_checked_10 13 rfl 0 rfl rfl rfl (Nat.le_of_ble_eq_true rfl) (modW_p5 eo1) ?_
  refine g_aload_n hC dX5_checked_13 14 rfl rfl 0 rfl ?_
  refine g_get hC fl_X5_25 dX5_checked_14 17 rfl 0 rfl rfl ?_
  exact g_iret hC hZ dX5_checked_17 ⟨_, _, rfl, rfl, h⟩
set_option maxRecDepth 100000 in
set_option maxHeartbeats 4000000 in
theorem ct_X5_checked (l : Launch) (g : gE) (a : Nat → Nat) (o : Off) (p0 : Int32) (post : Int32 → Off → Prop) (h : wp_X5_checked post o p0) : Fn l g yX5_checked cX5_checked 2 (some .int) 0 0 0 0 (modW g a o) [.ref (a 0), .int p0] (pI (modW g a) post) := by
  refine Fn.of (by decide) (Nat.le_of_ble_eq_true rfl) (fun x hC hZ => ?_)
  rw [wp_X5_checked] at h
  show G x g 2 0 0 (modW g a o) 0 [(0, .ref (a 0)), (1, .int p0)] []
  refine g_aload_n hC dX5_checked_0 1 rfl rfl 0 rfl ?_
  refine g_iload_n hC dX5_checked_1 2 rfl rfl 1 rfl ?_
  refine g_if_eq hC dX5_checked_2 9 (by decide) 5 rfl (fun c => ?_) (fun c => ?_)
  · have h := h.1 c
    refine g_iconst hC (1 : Int32) dX5_checked_9 10 rfl iconst_1 ?_
    refine g_lv (lv2 := [(0, .ref (a 0))]) [0] rfl ?_
    exact jn_X5_checked_10 hC hZ o (1 : Int32) h
  · have h := h.2 c
    refine g_iconst hC (0 : Int32) dX5_checked_5 6 rfl iconst_0 ?_
    refine g_goto hC dX5_checked_6 10 (by decide) ?_
    refine g_lv (lv2 := [(0, .ref (a 0))]) [0] rfl ?_
    exact jn_X5_checked_10 hC hZ o (0 : Int32) h
def wp_X5_sockCount (post : Int32 → Off → Prop) (o : Off) : Prop := (vp_in (0 : Int32) 160 ∧ wp_X5_plain (fun v2 o1 => post v2 o1) o (o 1 (0 : Int32).toNatClampNeg))
set_option maxRecDepth 100000 in
set_option maxHeartbeats 4000000 in
theorem ct_X5_sockCount (l : Launch) (g : gE) (a : Nat → Nat) (o : Off) (post : Int32 → Off → Prop) (h : wp_X5_sockCount post o ) : Fn l g yX5_sockCount cX5_sockCount 1 (some .int) 1 21 0 0 (modW g a o) [.ref (a 0)] (pI (modW g a) post) := by
  refine Fn.of (by decide) (Nat.le_of_ble_eq_true rfl) (fun x hC hZ => ?_)
  rw [wp_X5_sockCount] at h
  show G x g 1 0 0 (modW g a o) 0 [(0, .ref (a 0))] []
  refine g_aload_n hC dX5_sockCount_0 1 rfl rfl 0 rfl ?_
  refine g_aload_n hC dX5_sockCount_1 2 rfl rfl 0 rfl ?_
  refine g_get hC fl_X5_7 dX5_sockCount_2 5 rfl 0 rfl rfl ?_
  refine g_iconst hC (0 : Int32) dX5_sockCount_5 6 rfl iconst_0 ?_
  obtain ⟨hi, h⟩ := h
  refine g_iald hC dX5_sockCount_6 7 rfl 1 rfl hi ?_
  refine g_ownI hC (ct_X5_plain l g a o (o 1 (0 : Int32).toNatClampNeg) _ h) gY_X5_plain dX5_sockCount_7 10 rfl ml_X5_148 [] rfl rfl rfl 0 9 rfl rfl ⟨Nat.le_of_ble_eq_true rfl, Nat.le_of_ble_eq_true rfl⟩ (Nat.le_of_ble_eq_true rfl) ⟨Nat.le_refl _, Nat.le_refl _⟩ (fun v2 o1 h => ?_)
  exact g_iret hC hZ dX5_sockCount_10 ⟨_, _, rfl, rfl, h⟩
def wp_X5_colourOf (post : Int32 → Off → Prop) (o : Off) (p0 : Int32) : Prop := wp_X5_isSock (fun v1 => wp_X5_checked (fun v3 o2 => ((v3 ≤ 0 → wp_X5_s (fun v4 => (isC (((v4).toUInt32 % 65536).toInt32) ∧ post (((v4).toUInt32 % 65536).toInt32) o2)) o2 p0 (0 : Int32)) ∧ (¬ v3 ≤ 0 → (isC (32 : Int32) ∧ post (32 : Int32) o2)))) o v1) o p0
set_option maxRecDepth 100000 in
set_option maxHeartbeats 4000000 in
theorem ct_X5_colourOf (l : Launch) (g : gE) (a : Nat → Nat) (o : Off) (p0 : Int32) (post : Int32 → Off → Prop) (h : wp_X5_colourOf post o p0) : Fn l g yX5_colourOf cX5_colourOf 2 (some .char) 2 43 0 0 (modW g a o) [.ref (a 0), .int p0] (pI (modW g a) post) := by
  refine Fn.of (by decide) (Nat.le_of_ble_eq_true rfl) (fun x hC hZ => ?_)
  rw [wp_X5_colourOf] at h
  show G x g 2 0 0 (modW g a o) 0 [(0, .ref (a 0)), (1, .int p0)] []
  refine g_aload_n hC dX5_colourOf_0 1 rfl rfl 0 rfl ?_
  refine g_aload_n hC dX5_colourOf_1 2 rfl rfl 0 rfl ?_
  refine g_iload_n hC dX5_colourOf_2 3 rfl rfl 1 rfl ?_
  refine g_readV hC (ct_X5_isSock l g a o p0 _ h) gY_X5_isSock dX5_colourOf_3 6 rfl ml_X5_151 [] [] (by simp only [List.nil_append, List.append_nil]) [.ref (a 0)] rfl rfl rfl 0 9 rfl rfl ⟨Nat.le_of_ble_eq_true rfl, Nat.le_of_ble_eq_true rfl⟩ (Nat.le_of_ble_eq_true rfl) ⟨Nat.le_refl _, Nat.le_refl _⟩ (fun v1 h => ?_)
  refine g_ownI hC (ct_X5_checked l g a o v1 _ h) gY_X5_checked dX5_colourOf_6 9 rfl ml_X5_154 [] rfl rfl rfl 0 9 rfl rfl ⟨Nat.le_of_ble_eq_true rfl, Nat.le_of_ble_eq_true rfl⟩ (Nat.le_of_ble_eq_true rfl) ⟨Nat.le_refl _, Nat.le_refl _⟩ (fun v3 o2 h => ?_)
  refine g_if_le hC dX5_colourOf_9 17 (by decide) 12 rfl (fun c => ?_) (fun c => ?_)
  · have h := h.1 c
    refine g_aload_n hC dX5_colourOf_17 18 rfl rfl 0 rfl ?_
    refine g_iload_n hC dX5_colourOf_18 19 rfl rfl 1 rfl ?_
    refine g_iconst hC (0 : Int32) dX5_colourOf_19 20 rfl iconst_0 ?_
    refine g_readV hC (ct_X5_s l g a o2 p0 (0 : Int32) _ h) gY_X5_s dX5_colourOf_20 23 rfl ml_X5_96 [] [] (by simp only [List.nil_append, List.append_nil]) [] rfl rfl rfl 0 9 rfl rfl ⟨Nat.le_of_ble_eq_true rfl, Nat.le_of_ble_eq_true rfl⟩ (Nat.le_of_ble_eq_true rfl) ⟨Nat.le_refl _, Nat.le_refl _⟩ (fun v4 h => ?_)
    refine g_i2c hC dX5_colourOf_23 24 rfl ?_
    obtain ⟨hb, h⟩ := h
    exact g_zret hC hZ (hb) dX5_colourOf_24 ⟨_, _, rfl, rfl, h⟩
  · have h := h.2 c
    refine g_bipush hC (32 : Int32) dX5_colourOf_12 14 rfl bipush_32 ?_
    refine g_goto hC dX5_colourOf_14 24 (by decide) ?_
    obtain ⟨hb, h⟩ := h
    exact g_zret hC hZ (hb) dX5_colourOf_24 ⟨_, _, rfl, rfl, h⟩
def wp_X5_sizeOf (post : Int32 → Off → Prop) (o : Off) (p0 : Int32) : Prop := wp_X5_isSock (fun v1 => wp_X5_checked (fun v3 o2 => ((v3 ≤ 0 → wp_X5_s (fun v4 => post v4 o2) o2 p0 (1 : Int32)) ∧ (¬ v3 ≤ 0 → post (0 : Int32) o2))) o v1) o p0
set_option maxRecDepth 100000 in
set_option maxHeartbeats 4000000 in
theorem ct_X5_sizeOf (l : Launch) (g : gE) (a : Nat → Nat) (o : Off) (p0 : Int32) (post : Int32 → Off → Prop) (h : wp_X5_sizeOf post o p0) : Fn l g yX5_sizeOf cX5_sizeOf 2 (some .int) 2 43 0 0 (modW g a o) [.ref (a 0), .int p0] (pI (modW g a) post) := by
  refine Fn.of (by decide) (Nat.le_of_ble_eq_true rfl) (fun x hC hZ => ?_)
  rw [wp_X5_sizeOf] at h
  show G x g 2 0 0 (modW g a o) 0 [(0, .ref (a 0)), (1, .int p0)] []
  refine g_aload_n hC dX5_sizeOf_0 1 rfl rfl 0 rfl ?_
  refine g_aload_n hC dX5_sizeOf_1 2 rfl rfl 0 rfl ?_
  refine g_iload_n hC dX5_sizeOf_2 3 rfl rfl 1 rfl ?_
  refine g_readV hC (ct_X5_isSock l g a o p0 _ h) gY_X5_isSock dX5_sizeOf_3 6 rfl ml_X5_151 [] [] (by simp only [List.nil_append, List.append_nil]) [.ref (a 0)] rfl rfl rfl 0 9 rfl rfl ⟨Nat.le_of_ble_eq_true rfl, Nat.le_of_ble_eq_true rfl⟩ (Nat.le_of_ble_eq_true rfl) ⟨Nat.le_refl _, Nat.le_refl _⟩ (fun v1 h => ?_)
  refine g_ownI hC (ct_X5_checked l g a o v1 _ h) gY_X5_checked dX5_sizeOf_6 9 rfl ml_X5_154 [] rfl rfl rfl 0 9 rfl rfl ⟨Nat.le_of_ble_eq_true rfl, Nat.le_of_ble_eq_true rfl⟩ (Nat.le_of_ble_eq_true rfl) ⟨Nat.le_refl _, Nat.le_refl _⟩ (fun v3 o2 h => ?_)
  refine g_if_le hC dX5_sizeOf_9 16 (by decide) 12 rfl (fun c => ?_) (fun c => ?_)
  · have h := h.1 c
    refine g_aload_n hC dX5_sizeOf_16 17 rfl rfl 0 rfl ?_
    refine g_iload_n hC dX5_sizeOf_17 18 rfl rfl 1 rfl ?_
    refine g_iconst hC (1 : Int32) dX5_sizeOf_18 19 rfl iconst_1 ?_
    refine g_readV hC (ct_X5_s l g a o2 p0 (1 : Int32) _ h) gY_X5_s dX5_sizeOf_19 22 rfl ml_X5_96 [] [] (by simp only [List.nil_append, List.append_nil]) [] rfl rfl rfl 0 9 rfl rfl ⟨Nat.le_of_ble_eq_true rfl, Nat.le_of_ble_eq_true rfl⟩ (Nat.le_of_ble_eq_true rfl) ⟨Nat.le_refl _, Nat.le_refl _⟩ (fun v4 h => ?_)
    exact g_iret hC hZ dX5_sizeOf_22 ⟨_, _, rfl, rfl, h⟩
  · have h := h.2 c
    refine g_iconst hC (0 : Int32) dX5_sizeOf_12 13 rfl iconst_0 ?_
    refine g_goto hC dX5_sizeOf_13 22 (by decide) ?_
    exact g_iret hC hZ dX5_sizeOf_22 ⟨_, _, rfl, rfl, h⟩
def wp_X5_isAway (post : Int32 → Off → Prop) (o : Off) (p0 : Int32) : Prop := wp_X5_isSock (fun v1 => wp_X5_checked (fun v3 o2 => ((¬ v3 = 0 → post (0 : Int32) o2) ∧ (v3 = 0 → wp_X5_is (fun v4 => ((v4 = 0 → post (0 : Int32) o2) ∧ (¬ v4 = 0 → post (1 : Int32) o2))) o2 p0 (0 : Int32)))) o v1) o p0
set_option maxRecDepth 100000 in
set_option maxHeartbeats 4000000 in
theorem ct_X5_isAway (l : Launch) (g : gE) (a : Nat → Nat) (o : Off) (p0 : Int32) (post : Int32 → Off → Prop) (h : wp_X5_isAway post o p0) : Fn l g yX5_isAway cX5_isAway 2 (some .boolean) 2 44 0 0 (modW g a o) [.ref (a 0), .int p0] (pI (modW g a) post) := by
  refine Fn.of (by decide) (Nat.le_of_ble_eq_true rfl) (fun x hC hZ => ?_)
  rw [wp_X5_isAway] at h
  show G x g 2 0 0 (modW g a o) 0 [(0, .ref (a 0)), (1, .int p0)] []
  refine g_aload_n hC dX5_isAway_0 1 rfl rfl 0 rfl ?_
  refine g_aload_n hC dX5_isAway_1 2 rfl rfl 0 rfl ?_
  refine g_iload_n hC dX5_isAway_2 3 rfl rfl 1 rfl ?_
  refine g_readV hC (ct_X5_isSock l g a o p0 _ h) gY_X5_isSock dX5_isAway_3 6 rfl ml_X5_151 [] [] (by simp only [List.nil_append, List.append_nil]) [.ref (a 0)] rfl rfl rfl 0 9 rfl rfl ⟨Nat.le_of_ble_eq_true rfl, Nat.le_of_ble_eq_true rfl⟩ (Nat.le_of_ble_eq_true rfl) ⟨Nat.le_refl _, Nat.le_refl _⟩ (fun v1 h => ?_)
  refine g_ownI hC (ct_X5_checked l g a o v1 _ h) gY_X5_checked dX5_isAway_6 9 rfl ml_X5_154 [] rfl rfl rfl 0 9 rfl rfl ⟨Nat.le_of_ble_eq_true rfl, Nat.le_of_ble_eq_true rfl⟩ (Nat.le_of_ble_eq_true rfl) ⟨Nat.le_refl _, Nat.le_refl _⟩ (fun v3 o2 h => ?_)
  refine g_if_ne hC dX5_isAway_9 25 (by decide) 12 rfl (fun c => ?_) (fun c => ?_)
  · have h := h.1 c
    refine g_iconst hC (0 : Int32) dX5_isAway_25 26 rfl iconst_0 ?_
    exact g_zret hC hZ rfl dX5_isAway_26 ⟨_, _, rfl, rfl, h⟩
  · have h := h.2 c
    refine g_aload_n hC dX5_isAway_12 13 rfl rfl 0 rfl ?_
    refine g_iload_n hC dX5_isAway_13 14 rfl rfl 1 rfl ?_
    refine g_iconst hC (0 : Int32) dX5_isAway_14 15 rfl iconst_0 ?_
    refine g_readV hC (ct_X5_is l g a o2 p0 (0 : Int32) _ h) gY_X5_is dX5_isAway_15 18 rfl ml_X5_100 [] [] (by simp only [List.nil_append, List.append_nil]) [] rfl rfl rfl 0 9 rfl rfl ⟨Nat.le_of_ble_eq_true rfl, Nat.le_of_ble_eq_true rfl⟩ (Nat.le_of_ble_eq_true rfl) ⟨Nat.le_refl _, Nat.le_refl _⟩ (fun v4 h => ?_)
    refine g_if_eq hC dX5_isAway_18 25 (by decide) 21 rfl (fun c => ?_) (fun c => ?_)
    · have h := h.1 c
      refine g_iconst hC (0 : Int32) dX5_isAway_25 26 rfl iconst_0 ?_
      exact g_zret hC hZ rfl dX5_isAway_26 ⟨_, _, rfl, rfl, h⟩
    · have h := h.2 c
      refine g_iconst hC (1 : Int32) dX5_isAway_21 22 rfl iconst_1 ?_
      refine g_goto hC dX5_isAway_22 26 (by decide) ?_
      exact g_zret hC hZ rfl dX5_isAway_26 ⟨_, _, rfl, rfl, h⟩
def wp_X5_isPending (post : Int32 → Off → Prop) (o : Off) (p0 : Int32) : Prop := wp_X5_isSock (fun v1 => wp_X5_checked (fun v3 o2 => ((¬ v3 = 0 → post (0 : Int32) o2) ∧ (v3 = 0 → wp_X5_is (fun v4 => ((v4 = 0 → post (0 : Int32) o2) ∧ (¬ v4 = 0 → post (1 : Int32) o2))) o2 p0 (1 : Int32)))) o v1) o p0
set_option maxRecDepth 100000 in
set_option maxHeartbeats 4000000 in
theorem ct_X5_isPending (l : Launch) (g : gE) (a : Nat → Nat) (o : Off) (p0 : Int32) (post : Int32 → Off → Prop) (h : wp_X5_isPending post o p0) : Fn l g yX5_isPending cX5_isPending 2 (some .boolean) 2 44 0 0 (modW g a o) [.ref (a 0), .int p0] (pI (modW g a) post) := by
  refine Fn.of (by decide) (Nat.le_of_ble_eq_true rfl) (fun x hC hZ => ?_)
  rw [wp_X5_isPending] at h
  show G x g 2 0 0 (modW g a o) 0 [(0, .ref (a 0)), (1, .int p0)] []
  refine g_aload_n hC dX5_isPending_0 1 rfl rfl 0 rfl ?_
  refine g_aload_n hC dX5_isPending_1 2 rfl rfl 0 rfl ?_
  refine g_iload_n hC dX5_isPending_2 3 rfl rfl 1 rfl ?_
  refine g_readV hC (ct_X5_isSock l g a o p0 _ h) gY_X5_isSock dX5_isPending_3 6 rfl ml_X5_151 [] [] (by simp only [List.nil_append, List.append_nil]) [.ref (a 0)] rfl rfl rfl 0 9 rfl rfl ⟨Nat.le_of_ble_eq_true rfl, Nat.le_of_ble_eq_true rfl⟩ (Nat.le_of_ble_eq_true rfl) ⟨Nat.le_refl _, Nat.le_refl _⟩ (fun v1 h => ?_)
  refine g_ownI hC (ct_X5_checked l g a o v1 _ h) gY_X5_checked dX5_isPending_6 9 rfl ml_X5_154 [] rfl rfl rfl 0 9 rfl rfl ⟨Nat.le_of_ble_eq_true rfl, Nat.le_of_ble_eq_true rfl⟩ (Nat.le_of_ble_eq_true rfl) ⟨Nat.le_refl _, Nat.le_refl _⟩ (fun v3 o2 h => ?_)
  refine g_if_ne hC dX5_isPending_9 25 (by decide) 12 rfl (fun c => ?_) (fun c => ?_)
  · have h := h.1 c
    refine g_iconst hC (0 : Int32) dX5_isPending_25 26 rfl iconst_0 ?_
    exact g_zret hC hZ rfl dX5_isPending_26 ⟨_, _, rfl, rfl, h⟩
  · have h := h.2 c
    refine g_aload_n hC dX5_isPending_12 13 rfl rfl 0 rfl ?_
    refine g_iload_n hC dX5_isPending_13 14 rfl rfl 1 rfl ?_
    refine g_iconst hC (1 : Int32) dX5_isPending_14 15 rfl iconst_1 ?_
    refine g_readV hC (ct_X5_is l g a o2 p0 (1 : Int32) _ h) gY_X5_is dX5_isPending_15 18 rfl ml_X5_100 [] [] (by simp only [List.nil_append, List.append_nil]) [] rfl rfl rfl 0 9 rfl rfl ⟨Nat.le_of_ble_eq_true rfl, Nat.le_of_ble_eq_true rfl⟩ (Nat.le_of_ble_eq_true rfl) ⟨Nat.le_refl _, Nat.le_refl _⟩ (fun v4 h => ?_)
    refine g_if_eq hC dX5_isPending_18 25 (by decide) 21 rfl (fun c => ?_) (fun c => ?_)
    · have h := h.1 c
      refine g_iconst hC (0 : Int32) dX5_isPending_25 26 rfl iconst_0 ?_
      exact g_zret hC hZ rfl dX5_isPending_26 ⟨_, _, rfl, rfl, h⟩
    · have h := h.2 c
      refine g_iconst hC (1 : Int32) dX5_isPending_21 22 rfl iconst_1 ?_
      refine g_goto hC dX5_isPending_22 26 (by decide) ?_
      exact g_zret hC hZ rfl dX5_isPending_26 ⟨_, _, rfl, rfl, h⟩
def wp_X5_isRefused (post : Int32 → Off → Prop) (o : Off) (p0 : Int32) : Prop := wp_X5_isSock (fun v1 => wp_X5_checked (fun v3 o2 => ((¬ v3 = 0 → post (0 : Int32) o2) ∧ (v3 = 0 → wp_X5_is (fun v4 => ((v4 = 0 → post (0 : Int32) o2) ∧ (¬ v4 = 0 → post (1 : Int32) o2))) o2 p0 (2 : Int32)))) o v1) o p0
set_option maxRecDepth 100000 in
set_option maxHeartbeats 4000000 in
theorem ct_X5_isRefused (l : Launch) (g : gE) (a : Nat → Nat) (o : Off) (p0 : Int32) (post : Int32 → Off → Prop) (h : wp_X5_isRefused post o p0) : Fn l g yX5_isRefused cX5_isRefused 2 (some .boolean) 2 44 0 0 (modW g a o) [.ref (a 0), .int p0] (pI (modW g a) post) := by
  refine Fn.of (by decide) (Nat.le_of_ble_eq_true rfl) (fun x hC hZ => ?_)
  rw [wp_X5_isRefused] at h
  show G x g 2 0 0 (modW g a o) 0 [(0, .ref (a 0)), (1, .int p0)] []
  refine g_aload_n hC dX5_isRefused_0 1 rfl rfl 0 rfl ?_
  refine g_aload_n hC dX5_isRefused_1 2 rfl rfl 0 rfl ?_
  refine g_iload_n hC dX5_isRefused_2 3 rfl rfl 1 rfl ?_
  refine g_readV hC (ct_X5_isSock l g a o p0 _ h) gY_X5_isSock dX5_isRefused_3 6 rfl ml_X5_151 [] [] (by simp only [List.nil_append, List.append_nil]) [.ref (a 0)] rfl rfl rfl 0 9 rfl rfl ⟨Nat.le_of_ble_eq_true rfl, Nat.le_of_ble_eq_true rfl⟩ (Nat.le_of_ble_eq_true rfl) ⟨Nat.le_refl _, Nat.le_refl _⟩ (fun v1 h => ?_)
  refine g_ownI hC (ct_X5_checked l g a o v1 _ h) gY_X5_checked dX5_isRefused_6 9 rfl ml_X5_154 [] rfl rfl rfl 0 9 rfl rfl ⟨Nat.le_of_ble_eq_true rfl, Nat.le_of_ble_eq_true rfl⟩ (Nat.le_of_ble_eq_true rfl) ⟨Nat.le_refl _, Nat.le_refl _⟩ (fun v3 o2 h => ?_)
  refine g_if_ne hC dX5_isRefused_9 25 (by decide) 12 rfl (fun c => ?_) (fun c => ?_)
  · have h := h.1 c
    refine g_iconst hC (0 : Int32) dX5_isRefused_25 26 rfl iconst_0 ?_
    exact g_zret hC hZ rfl dX5_isRefused_26 ⟨_, _, rfl, rfl, h⟩
  · have h := h.2 c
    refine g_aload_n hC dX5_isRefused_12 13 rfl rfl 0 rfl ?_
    refine g_iload_n hC dX5_isRefused_13 14 rfl rfl 1 rfl ?_
    refine g_iconst hC (2 : Int32) dX5_isRefused_14 15 rfl iconst_2 ?_
    refine g_readV hC (ct_X5_is l g a o2 p0 (2 : Int32) _ h) gY_X5_is dX5_isRefused_15 18 rfl ml_X5_100 [] [] (by simp only [List.nil_append, List.append_nil]) [] rfl rfl rfl 0 9 rfl rfl ⟨Nat.le_of_ble_eq_true rfl, Nat.le_of_ble_eq_true rfl⟩ (Nat.le_of_ble_eq_true rfl) ⟨Nat.le_refl _, Nat.le_refl _⟩ (fun v4 h => ?_)
    refine g_if_eq hC dX5_isRefused_18 25 (by decide) 21 rfl (fun c => ?_) (fun c => ?_)
    · have h := h.1 c
      refine g_iconst hC (0 : Int32) dX5_isRefused_25 26 rfl iconst_0 ?_
      exact g_zret hC hZ rfl dX5_isRefused_26 ⟨_, _, rfl, rfl, h⟩
    · have h := h.2 c
      refine g_iconst hC (1 : Int32) dX5_isRefused_21 22 rfl iconst_1 ?_
      refine g_goto hC dX5_isRefused_22 26 (by decide) ?_
      exact g_zret hC hZ rfl dX5_isRefused_26 ⟨_, _, rfl, rfl, h⟩
def wp_X5_isResident (post : Int32 → Off → Prop) (o : Off) (p0 : Int32) : Prop := wp_X5_isSock (fun v1 => wp_X5_checked (fun v3 o2 => ((¬ v3 = 0 → post (0 : Int32) o2) ∧ (v3 = 0 → wp_X5_is (fun v4 => ((v4 = 0 → post (0 : Int32) o2) ∧ (¬ v4 = 0 → post (1 : Int32) o2))) o2 p0 (3 : Int32)))) o v1) o p0
set_option maxRecDepth 100000 in
set_option maxHeartbeats 4000000 in
theorem ct_X5_isResident (l : Launch) (g : gE) (a : Nat → Nat) (o : Off) (p0 : Int32) (post : Int32 → Off → Prop) (h : wp_X5_isResident post o p0) : Fn l g yX5_isResident cX5_isResident 2 (some .boolean) 2 44 0 0 (modW g a o) [.ref (a 0), .int p0] (pI (modW g a) post) := by
  refine Fn.of (by decide) (Nat.le_of_ble_eq_true rfl) (fun x hC hZ => ?_)
  rw [wp_X5_isResident] at h
  show G x g 2 0 0 (modW g a o) 0 [(0, .ref (a 0)), (1, .int p0)] []
  refine g_aload_n hC dX5_isResident_0 1 rfl rfl 0 rfl ?_
  refine g_aload_n hC dX5_isResident_1 2 rfl rfl 0 rfl ?_
  refine g_iload_n hC dX5_isResident_2 3 rfl rfl 1 rfl ?_
  refine g_readV hC (ct_X5_isSock l g a o p0 _ h) gY_X5_isSock dX5_isResident_3 6 rfl ml_X5_151 [] [] (by simp only [List.nil_append, List.append_nil]) [.ref (a 0)] rfl rfl rfl 0 9 rfl rfl ⟨Nat.le_of_ble_eq_true rfl, Nat.le_of_ble_eq_true rfl⟩ (Nat.le_of_ble_eq_true rfl) ⟨Nat.le_refl _, Nat.le_refl _⟩ (fun v1 h => ?_)
  refine g_ownI hC (ct_X5_checked l g a o v1 _ h) gY_X5_checked dX5_isResident_6 9 rfl ml_X5_154 [] rfl rfl rfl 0 9 rfl rfl ⟨Nat.le_of_ble_eq_true rfl, Nat.le_of_ble_eq_true rfl⟩ (Nat.le_of_ble_eq_true rfl) ⟨Nat.le_refl _, Nat.le_refl _⟩ (fun v3 o2 h => ?_)
  refine g_if_ne hC dX5_isResident_9 25 (by decide) 12 rfl (fun c => ?_) (fun c => ?_)
  · have h := h.1 c
    refine g_iconst hC (0 : Int32) dX5_isResident_25 26 rfl iconst_0 ?_
    exact g_zret hC hZ rfl dX5_isResident_26 ⟨_, _, rfl, rfl, h⟩
  · have h := h.2 c
    refine g_aload_n hC dX5_isResident_12 13 rfl rfl 0 rfl ?_
    refine g_iload_n hC dX5_isResident_13 14 rfl rfl 1 rfl ?_
    refine g_iconst hC (3 : Int32) dX5_isResident_14 15 rfl iconst_3 ?_
    refine g_readV hC (ct_X5_is l g a o2 p0 (3 : Int32) _ h) gY_X5_is dX5_isResident_15 18 rfl ml_X5_100 [] [] (by simp only [List.nil_append, List.append_nil]) [] rfl rfl rfl 0 9 rfl rfl ⟨Nat.le_of_ble_eq_true rfl, Nat.le_of_ble_eq_true rfl⟩ (Nat.le_of_ble_eq_true rfl) ⟨Nat.le_refl _, Nat.le_refl _⟩ (fun v4 h => ?_)
    refine g_if_eq hC dX5_isResident_18 25 (by decide) 21 rfl (fun c => ?_) (fun c => ?_)
    · have h := h.1 c
      refine g_iconst hC (0 : Int32) dX5_isResident_25 26 rfl iconst_0 ?_
      exact g_zret hC hZ rfl dX5_isResident_26 ⟨_, _, rfl, rfl, h⟩
    · have h := h.2 c
      refine g_iconst hC (1 : Int32) dX5_isResident_21 22 rfl iconst_1 ?_
      refine g_goto hC dX5_isResident_22 26 (by decide) ?_
      exact g_zret hC hZ rfl dX5_isResident_26 ⟨_, _, rfl, rfl, h⟩
def wp_X5_known (post : Int32 → Off → Prop) (o : Off) (p0 : Int32) (p1 : Int32) (p2 : Int32) : Prop := ((p1 = 0 → wp_X5_fail (fun v2 o1 => post v2 o1) o (2 : Int32)) ∧ (¬ p1 = 0 → wp_X5_s (fun v3 => post v3 o) o p0 p2))
set_option maxRecDepth 100000 in
set_option maxHeartbeats 4000000 in
theorem ct_X5_known (l : Launch) (g : gE) (a : Nat → Nat) (o : Off) (p0 : Int32) (p1 : Int32) (p2 : Int32) (post : Int32 → Off → Prop) (h : wp_X5_known post o p0 p1 p2) : Fn l g yX5_known cX5_known 4 (some .int) 1 22 0 0 (modW g a o) [.ref (a 0), .int p0, .int p1, .int p2] (pI (modW g a) post) := by
  refine Fn.of (by decide) (Nat.le_of_ble_eq_true rfl) (fun x hC hZ => ?_)
  rw [wp_X5_known] at h
  show G x g 4 0 0 (modW g a o) 0 [(0, .ref (a 0)), (1, .int p0), (2, .int p1), (3, .int p2)] []
  refine g_iload_n hC dX5_known_0 1 rfl rfl 2 rfl ?_
  refine g_if_eq hC dX5_known_1 13 (by decide) 4 rfl (fun c => ?_) (fun c => ?_)
  · have h := h.1 c
    refine g_aload_n hC dX5_known_13 14 rfl rfl 0 rfl ?_
    refine g_iconst hC (2 : Int32) dX5_known_14 15 rfl iconst_2 ?_
    refine g_ownI hC (ct_X5_fail l g a o (2 : Int32) _ h) gY_X5_fail dX5_known_15 18 rfl ml_X5_88 [] rfl rfl rfl 0 9 rfl rfl ⟨Nat.le_of_ble_eq_true rfl, Nat.le_of_ble_eq_true rfl⟩ (Nat.le_of_ble_eq_true rfl) ⟨Nat.le_refl _, Nat.le_refl _⟩ (fun v2 o1 h => ?_)
    exact g_iret hC hZ dX5_known_18 ⟨_, _, rfl, rfl, h⟩
  · have h := h.2 c
    refine g_aload_n hC dX5_known_4 5 rfl rfl 0 rfl ?_
    refine g_iload_n hC dX5_known_5 6 rfl rfl 1 rfl ?_
    refine g_iload_n hC dX5_known_6 7 rfl rfl 3 rfl ?_
    refine g_readV hC (ct_X5_s l g a o p0 p2 _ h) gY_X5_s dX5_known_7 10 rfl ml_X5_96 [] [] (by simp only [List.nil_append, List.append_nil]) [] rfl rfl rfl 0 9 rfl rfl ⟨Nat.le_of_ble_eq_true rfl, Nat.le_of_ble_eq_true rfl⟩ (Nat.le_of_ble_eq_true rfl) ⟨Nat.le_refl _, Nat.le_refl _⟩ (fun v3 h => ?_)
    refine g_goto hC dX5_known_10 18 (by decide) ?_
    exact g_iret hC hZ dX5_known_18 ⟨_, _, rfl, rfl, h⟩
def wj_X5_drawerOf_32 (post : Int32 → Off → Prop) (o : Off) (s0 : Int32) (s1 : Int32) : Prop := wp_X5_known (fun v6 o5 => post v6 o5) o s1 s0 (3 : Int32)
def wp_X5_drawerOf (post : Int32 → Off → Prop) (o : Off) (p0 : Int32) : Prop := wp_X5_isSock (fun v1 => wp_X5_checked (fun v3 o2 => ((v3 ≤ 0 → wp_X5_is (fun v4 => ((¬ v4 = 0 → wj_X5_drawerOf_32 post o2 (0 : Int32) p0) ∧ (v4 = 0 → wj_X5_drawerOf_32 post o2 (1 : Int32) p0))) o2 p0 (0 : Int32)) ∧ (¬ v3 ≤ 0 → post (0 : Int32) o2))) o v1) o p0
set_option maxRecDepth 100000 in
set_option maxHeartbeats 4000000 in
theorem jn_X5_drawerOf_32 {x : gX} {l : Launch} {g : gE} {a : Nat → Nat} {o0 : Off} {post : Int32 → Off → Prop} (hC : gC x l cX5_drawerOf 2 RX5 g 2 45 0 0) (hZ : gZ x g (some .int) (modW g a o0) (pI (modW g a) post) 0 0) : ∀ (o : Off) (s0 : Int32) (s1 : Int32) , wj_X5_drawerOf_32 post o s0 s1 → G x g 2 0 0 (modW g a o) 32 [] [.int s0, .int s1, .ref (a 0)] := by
  intro o s0 s1 h
  rw [wj_X5_drawerOf_32] at h
  refine g_iconst hC (3 : Int32) dX5_drawerOf_32 33 rfl iconst_3 ?_
  refine g_ownI hC (ct_X5_known l g a o s1 s0 (3 : Int32) _ h) gY_X5_known dX5_drawerOf_33 36 rfl ml_X5_158 [] rfl rfl rfl 0 9 rfl rfl ⟨Nat.le_of_ble_eq_true rfl, Nat.le_of_ble_eq_true rfl⟩ (Nat.le_of_ble_eq_true rfl) ⟨Nat.le_refl _, Nat.le_refl _⟩ (fun v6 o5 h => ?_)
  exact g_iret hC hZ dX5_drawerOf_36 ⟨_, _, rfl, rfl, h⟩
set_option maxRecDepth 100000 in
set_option maxHeartbeats 4000000 in
theorem ct_X5_drawerOf (l : Launch) (g : gE) (a : Nat → Nat) (o : Off) (p0 : Int32) (post : Int32 → Off → Prop) (h : wp_X5_drawerOf post o p0) : Fn l g yX5_drawerOf cX5_drawerOf 2 (some .int) 2 45 0 0 (modW g a o) [.ref (a 0), .int p0] (pI (modW g a) post) := by
  refine Fn.of (by decide) (Nat.le_of_ble_eq_true rfl) (fun x hC hZ => ?_)
  rw [wp_X5_drawerOf] at h
  show G x g 2 0 0 (modW g a o) 0 [(0, .ref (a 0)), (1, .int p0)] []
  refine g_aload_n hC dX5_drawerOf_0 1 rfl rfl 0 rfl ?_
  refine g_aload_n hC dX5_drawerOf_1 2 rfl rfl 0 rfl ?_
  refine g_iload_n hC dX5_drawerOf_2 3 rfl rfl 1 rfl ?_
  refine g_readV hC (ct_X5_isSock l g a o p0 _ h) gY_X5_isSock dX5_drawerOf_3 6 rfl ml_X5_151 [] [] (by simp only [List.nil_append, List.append_nil]) [.ref (a 0)] rfl rfl rfl 0 9 rfl rfl ⟨Nat.le_of_ble_eq_true rfl, Nat.le_of_ble_eq_true rfl⟩ (Nat.le_of_ble_eq_true rfl) ⟨Nat.le_refl _, Nat.le_refl _⟩ (fun v1 h => ?_)
  refine g_ownI hC (ct_X5_checked l g a o v1 _ h) gY_X5_checked dX5_drawerOf_6 9 rfl ml_X5_154 [] rfl rfl rfl 0 9 rfl rfl ⟨Nat.le_of_ble_eq_true rfl, Nat.le_of_ble_eq_true rfl⟩ (Nat.le_of_ble_eq_true rfl) ⟨Nat.le_refl _, Nat.le_refl _⟩ (fun v3 o2 h => ?_)
  refine g_if_le hC dX5_drawerOf_9 16 (by decide) 12 rfl (fun c => ?_) (fun c => ?_)
  · have h := h.1 c
    refine g_aload_n hC dX5_drawerOf_16 17 rfl rfl 0 rfl ?_
    refine g_iload_n hC dX5_drawerOf_17 18 rfl rfl 1 rfl ?_
    refine g_aload_n hC dX5_drawerOf_18 19 rfl rfl 0 rfl ?_
    refine g_iload_n hC dX5_drawerOf_19 20 rfl rfl 1 rfl ?_
    refine g_iconst hC (0 : Int32) dX5_drawerOf_20 21 rfl iconst_0 ?_
    refine g_readV hC (ct_X5_is l g a o2 p0 (0 : Int32) _ h) gY_X5_is dX5_drawerOf_21 24 rfl ml_X5_100 [] [] (by simp only [List.nil_append, List.append_nil]) [.int p0, .ref (a 0)] rfl rfl rfl 0 9 rfl rfl ⟨Nat.le_of_ble_eq_true rfl, Nat.le_of_ble_eq_true rfl⟩ (Nat.le_of_ble_eq_true rfl) ⟨Nat.le_refl _, Nat.le_refl _⟩ (fun v4 h => ?_)
    refine g_if_ne hC dX5_drawerOf_24 31 (by decide) 27 rfl (fun c => ?_) (fun c => ?_)
    · have h := h.1 c
      refine g_iconst hC (0 : Int32) dX5_drawerOf_31 32 rfl iconst_0 ?_
      refine g_lv (lv2 := []) [] rfl ?_
      exact jn_X5_drawerOf_32 hC hZ o2 (0 : Int32) p0 h
    · have h := h.2 c
      refine g_iconst hC (1 : Int32) dX5_drawerOf_27 28 rfl iconst_1 ?_
      refine g_goto hC dX5_drawerOf_28 32 (by decide) ?_
      refine g_lv (lv2 := []) [] rfl ?_
      exact jn_X5_drawerOf_32 hC hZ o2 (1 : Int32) p0 h
  · have h := h.2 c
    refine g_iconst hC (0 : Int32) dX5_drawerOf_12 13 rfl iconst_0 ?_
    refine g_goto hC dX5_drawerOf_13 36 (by decide) ?_
    exact g_iret hC hZ dX5_drawerOf_36 ⟨_, _, rfl, rfl, h⟩
def wj_X5_levelOf_41 (post : Int32 → Off → Prop) (o : Off) (s0 : Int32) (s1 : Int32) : Prop := wp_X5_known (fun v6 o5 => post v6 o5) o s1 s0 (4 : Int32)
def wj_X5_levelOf_36 (post : Int32 → Off → Prop) (o : Off) (s0 : Int32) : Prop := wj_X5_levelOf_41 post o (1 : Int32) s0
def wp_X5_levelOf (post : Int32 → Off → Prop) (o : Off) (p0 : Int32) : Prop := wp_X5_isSock (fun v1 => wp_X5_checked (fun v3 o2 => ((v3 ≤ 0 → wp_X5_is (fun v4 => ((¬ v4 = 0 → wj_X5_levelOf_36 post o2 p0) ∧ (v4 = 0 → wp_X5_is (fun v7 => ((v7 = 0 → wj_X5_levelOf_41 post o2 (0 : Int32) p0) ∧ (¬ v7 = 0 → wj_X5_levelOf_36 post o2 p0))) o2 p0 (2 : Int32)))) o2 p0 (1 : Int32)) ∧ (¬ v3 ≤ 0 → post (0 : Int32) o2))) o v1) o p0
set_option maxRecDepth 100000 in
set_option maxHeartbeats 4000000 in
theorem jn_X5_levelOf_41 {x : gX} {l : Launch} {g : gE} {a : Nat → Nat} {o0 : Off} {post : Int32 → Off → Prop} (hC : gC x l cX5_levelOf 2 RX5 g 2 45 0 0) (hZ : gZ x g (some .int) (modW g a o0) (pI (modW g a) post) 0 0) : ∀ (o : Off) (s0 : Int32) (s1 : Int32) , wj_X5_levelOf_41 post o s0 s1 → G x g 2 0 0 (modW g a o) 41 [] [.int s0, .int s1, .ref (a 0)] := by
  intro o s0 s1 h
  rw [wj_X5_levelOf_41] at h
  refine g_iconst hC (4 : Int32) dX5_levelOf_41 42 rfl iconst_4 ?_
  refine g_ownI hC (ct_X5_known l g a o s1 s0 (4 : Int32) _ h) gY_X5_known dX5_levelOf_42 45 rfl ml_X5_158 [] rfl rfl rfl 0 9 rfl rfl ⟨Nat.le_of_ble_eq_true rfl, Nat.le_of_ble_eq_true rfl⟩ (Nat.le_of_ble_eq_true rfl) ⟨Nat.le_refl _, Nat.le_refl _⟩ (fun v6 o5 h => ?_)
  exact g_iret hC hZ dX5_levelOf_45 ⟨_, _, rfl, rfl, h⟩
set_option maxRecDepth 100000 in
set_option maxHeartbeats 4000000 in
theorem jn_X5_levelOf_36 {x : gX} {l : Launch} {g : gE} {a : Nat → Nat} {o0 : Off} {post : Int32 → Off → Prop} (hC : gC x l cX5_levelOf 2 RX5 g 2 45 0 0) (hZ : gZ x g (some .int) (modW g a o0) (pI (modW g a) post) 0 0) : ∀ (o : Off) (s0 : Int32) , wj_X5_levelOf_36 post o s0 → G x g 2 0 0 (modW g a o) 36 [] [.int s0, .ref (a 0)] := by
  intro o s0 h
  rw [wj_X5_levelOf_36] at h
  refine g_iconst hC (1 : Int32) dX5_levelOf_36 37 rfl iconst_1 ?_
  refine g_goto hC dX5_levelOf_37 41 (by decide) ?_
  exact jn_X5_levelOf_41 hC hZ o (1 : Int32) s0 h
set_option maxRecDepth 100000 in
set_option maxHeartbeats 4000000 in
theorem ct_X5_levelOf (l : Launch) (g : gE) (a : Nat → Nat) (o : Off) (p0 : Int32) (post : Int32 → Off → Prop) (h : wp_X5_levelOf post o p0) : Fn l g yX5_levelOf cX5_levelOf 2 (some .int) 2 45 0 0 (modW g a o) [.ref (a 0), .int p0] (pI (modW g a) post) := by
  refine Fn.of (by decide) (Nat.le_of_ble_eq_true rfl) (fun x hC hZ => ?_)
  rw [wp_X5_levelOf] at h
  show G x g 2 0 0 (modW g a o) 0 [(0, .ref (a 0)), (1, .int p0)] []
  refine g_aload_n hC dX5_levelOf_0 1 rfl rfl 0 rfl ?_
  refine g_aload_n hC dX5_levelOf_1 2 rfl rfl 0 rfl ?_
  refine g_iload_n hC dX5_levelOf_2 3 rfl rfl 1 rfl ?_
  refine g_readV hC (ct_X5_isSock l g a o p0 _ h) gY_X5_isSock dX5_levelOf_3 6 rfl ml_X5_151 [] [] (by simp only [List.nil_append, List.append_nil]) [.ref (a 0)] rfl rfl rfl 0 9 rfl rfl ⟨Nat.le_of_ble_eq_true rfl, Nat.le_of_ble_eq_true rfl⟩ (Nat.le_of_ble_eq_true rfl) ⟨Nat.le_refl _, Nat.le_refl _⟩ (fun v1 h => ?_)
  refine g_ownI hC (ct_X5_checked l g a o v1 _ h) gY_X5_checked dX5_levelOf_6 9 rfl ml_X5_154 [] rfl rfl rfl 0 9 rfl rfl ⟨Nat.le_of_ble_eq_true rfl, Nat.le_of_ble_eq_true rfl⟩ (Nat.le_of_ble_eq_true rfl) ⟨Nat.le_refl _, Nat.le_refl _⟩ (fun v3 o2 h => ?_)
  refine g_if_le hC dX5_levelOf_9 16 (by decide) 12 rfl (fun c => ?_) (fun c => ?_)
  · have h := h.1 c
    refine g_aload_n hC dX5_levelOf_16 17 rfl rfl 0 rfl ?_
    refine g_iload_n hC dX5_levelOf_17 18 rfl rfl 1 rfl ?_
    refine g_aload_n hC dX5_levelOf_18 19 rfl rfl 0 rfl ?_
    refine g_iload_n hC dX5_levelOf_19 20 rfl rfl 1 rfl ?_
    refine g_iconst hC (1 : Int32) dX5_levelOf_20 21 rfl iconst_1 ?_
    refine g_readV hC (ct_X5_is l g a o2 p0 (1 : Int32) _ h) gY_X5_is dX5_levelOf_21 24 rfl ml_X5_100 [] [] (by simp only [List.nil_append, List.append_nil]) [.int p0, .ref (a 0)] rfl rfl rfl 0 9 rfl rfl ⟨Nat.le_of_ble_eq_true rfl, Nat.le_of_ble_eq_true rfl⟩ (Nat.le_of_ble_eq_true rfl) ⟨Nat.le_refl _, Nat.le_refl _⟩ (fun v4 h => ?_)
    refine g_if_ne hC dX5_levelOf_24 36 (by decide) 27 rfl (fun c => ?_) (fun c => ?_)
    · have h := h.1 c
      refine g_lv (lv2 := []) [] rfl ?_
      exact jn_X5_levelOf_36 hC hZ o2 p0 h
    · have h := h.2 c
      refine g_aload_n hC dX5_levelOf_27 28 rfl rfl 0 rfl ?_
      refine g_iload_n hC dX5_levelOf_28 29 rfl rfl 1 rfl ?_
      refine g_iconst hC (2 : Int32) dX5_levelOf_29 30 rfl iconst_2 ?_
      refine g_readV hC (ct_X5_is l g a o2 p0 (2 : Int32) _ h) gY_X5_is dX5_levelOf_30 33 rfl ml_X5_100 [] [] (by simp only [List.nil_append, List.append_nil]) [.int p0, .ref (a 0)] rfl rfl rfl 0 9 rfl rfl ⟨Nat.le_of_ble_eq_true rfl, Nat.le_of_ble_eq_true rfl⟩ (Nat.le_of_ble_eq_true rfl) ⟨Nat.le_refl _, Nat.le_refl _⟩ (fun v7 h => ?_)
      refine g_if_eq hC dX5_levelOf_33 40 (by decide) 36 rfl (fun c => ?_) (fun c => ?_)
      · have h := h.1 c
        refine g_iconst hC (0 : Int32) dX5_levelOf_40 41 rfl iconst_0 ?_
        refine g_lv (lv2 := []) [] rfl ?_
        exact jn_X5_levelOf_41 hC hZ o2 (0 : Int32) p0 h
      · have h := h.2 c
        refine g_lv (lv2 := []) [] rfl ?_
        exact jn_X5_levelOf_36 hC hZ o2 p0 h
  · have h := h.2 c
    refine g_iconst hC (0 : Int32) dX5_levelOf_12 13 rfl iconst_0 ?_
    refine g_goto hC dX5_levelOf_13 45 (by decide) ?_
    exact g_iret hC hZ dX5_levelOf_45 ⟨_, _, rfl, rfl, h⟩
def wp_X5_visaDay (post : Int32 → Off → Prop) (o : Off) (p0 : Int32) : Prop := wp_X5_isSock (fun v1 => wp_X5_checked (fun v3 o2 => ((v3 ≤ 0 → wp_X5_is (fun v4 => wp_X5_known (fun v6 o5 => post v6 o5) o2 p0 v4 (6 : Int32)) o2 p0 (3 : Int32)) ∧ (¬ v3 ≤ 0 → post (0 : Int32) o2))) o v1) o p0
set_option maxRecDepth 100000 in
set_option maxHeartbeats 4000000 in
theorem ct_X5_visaDay (l : Launch) (g : gE) (a : Nat → Nat) (o : Off) (p0 : Int32) (post : Int32 → Off → Prop) (h : wp_X5_visaDay post o p0) : Fn l g yX5_visaDay cX5_visaDay 2 (some .int) 2 45 0 0 (modW g a o) [.ref (a 0), .int p0] (pI (modW g a) post) := by
  refine Fn.of (by decide) (Nat.le_of_ble_eq_true rfl) (fun x hC hZ => ?_)
  rw [wp_X5_visaDay] at h
  show G x g 2 0 0 (modW g a o) 0 [(0, .ref (a 0)), (1, .int p0)] []
  refine g_aload_n hC dX5_visaDay_0 1 rfl rfl 0 rfl ?_
  refine g_aload_n hC dX5_visaDay_1 2 rfl rfl 0 rfl ?_
  refine g_iload_n hC dX5_visaDay_2 3 rfl rfl 1 rfl ?_
  refine g_readV hC (ct_X5_isSock l g a o p0 _ h) gY_X5_isSock dX5_visaDay_3 6 rfl ml_X5_151 [] [] (by simp only [List.nil_append, List.append_nil]) [.ref (a 0)] rfl rfl rfl 0 9 rfl rfl ⟨Nat.le_of_ble_eq_true rfl, Nat.le_of_ble_eq_true rfl⟩ (Nat.le_of_ble_eq_true rfl) ⟨Nat.le_refl _, Nat.le_refl _⟩ (fun v1 h => ?_)
  refine g_ownI hC (ct_X5_checked l g a o v1 _ h) gY_X5_checked dX5_visaDay_6 9 rfl ml_X5_154 [] rfl rfl rfl 0 9 rfl rfl ⟨Nat.le_of_ble_eq_true rfl, Nat.le_of_ble_eq_true rfl⟩ (Nat.le_of_ble_eq_true rfl) ⟨Nat.le_refl _, Nat.le_refl _⟩ (fun v3 o2 h => ?_)
  refine g_if_le hC dX5_visaDay_9 16 (by decide) 12 rfl (fun c => ?_) (fun c => ?_)
  · have h := h.1 c
    refine g_aload_n hC dX5_visaDay_16 17 rfl rfl 0 rfl ?_
    refine g_iload_n hC dX5_visaDay_17 18 rfl rfl 1 rfl ?_
    refine g_aload_n hC dX5_visaDay_18 19 rfl rfl 0 rfl ?_
    refine g_iload_n hC dX5_visaDay_19 20 rfl rfl 1 rfl ?_
    refine g_iconst hC (3 : Int32) dX5_visaDay_20 21 rfl iconst_3 ?_
    refine g_readV hC (ct_X5_is l g a o2 p0 (3 : Int32) _ h) gY_X5_is dX5_visaDay_21 24 rfl ml_X5_100 [] [] (by simp only [List.nil_append, List.append_nil]) [.int p0, .ref (a 0)] rfl rfl rfl 0 9 rfl rfl ⟨Nat.le_of_ble_eq_true rfl, Nat.le_of_ble_eq_true rfl⟩ (Nat.le_of_ble_eq_true rfl) ⟨Nat.le_refl _, Nat.le_refl _⟩ (fun v4 h => ?_)
    refine g_bipush hC (6 : Int32) dX5_visaDay_24 26 rfl bipush_6 ?_
    refine g_ownI hC (ct_X5_known l g a o2 p0 v4 (6 : Int32) _ h) gY_X5_known dX5_visaDay_26 29 rfl ml_X5_158 [] rfl rfl rfl 0 9 rfl rfl ⟨Nat.le_of_ble_eq_true rfl, Nat.le_of_ble_eq_true rfl⟩ (Nat.le_of_ble_eq_true rfl) ⟨Nat.le_refl _, Nat.le_refl _⟩ (fun v6 o5 h => ?_)
    exact g_iret hC hZ dX5_visaDay_29 ⟨_, _, rfl, rfl, h⟩
  · have h := h.2 c
    refine g_iconst hC (0 : Int32) dX5_visaDay_12 13 rfl iconst_0 ?_
    refine g_goto hC dX5_visaDay_13 29 (by decide) ?_
    exact g_iret hC hZ dX5_visaDay_29 ⟨_, _, rfl, rfl, h⟩
def wp_X5_partnerOf (post : Int32 → Off → Prop) (o : Off) (p0 : Int32) : Prop := wp_X5_isSock (fun v1 => wp_X5_checked (fun v3 o2 => ((v3 ≤ 0 → wp_X5_isPaired (fun v4 => wp_X5_known (fun v6 o5 => post v6 o5) o2 p0 v4 (7 : Int32)) o2 p0) ∧ (¬ v3 ≤ 0 → post (0 : Int32) o2))) o v1) o p0
set_option maxRecDepth 100000 in
set_option maxHeartbeats 4000000 in
theorem ct_X5_partnerOf (l : Launch) (g : gE) (a : Nat → Nat) (o : Off) (p0 : Int32) (post : Int32 → Off → Prop) (h : wp_X5_partnerOf post o p0) : Fn l g yX5_partnerOf cX5_partnerOf 2 (some .int) 2 45 0 0 (modW g a o) [.ref (a 0), .int p0] (pI (modW g a) post) := by
  refine Fn.of (by decide) (Nat.le_of_ble_eq_true rfl) (fun x hC hZ => ?_)
  rw [wp_X5_partnerOf] at h
  show G x g 2 0 0 (modW g a o) 0 [(0, .ref (a 0)), (1, .int p0)] []
  refine g_aload_n hC dX5_partnerOf_0 1 rfl rfl 0 rfl ?_
  refine g_aload_n hC dX5_partnerOf_1 2 rfl rfl 0 rfl ?_
  refine g_iload_n hC dX5_partnerOf_2 3 rfl rfl 1 rfl ?_
  refine g_readV hC (ct_X5_isSock l g a o p0 _ h) gY_X5_isSock dX5_partnerOf_3 6 rfl ml_X5_151 [] [] (by simp only [List.nil_append, List.append_nil]) [.ref (a 0)] rfl rfl rfl 0 9 rfl rfl ⟨Nat.le_of_ble_eq_true rfl, Nat.le_of_ble_eq_true rfl⟩ (Nat.le_of_ble_eq_true rfl) ⟨Nat.le_refl _, Nat.le_refl _⟩ (fun v1 h => ?_)
  refine g_ownI hC (ct_X5_checked l g a o v1 _ h) gY_X5_checked dX5_partnerOf_6 9 rfl ml_X5_154 [] rfl rfl rfl 0 9 rfl rfl ⟨Nat.le_of_ble_eq_true rfl, Nat.le_of_ble_eq_true rfl⟩ (Nat.le_of_ble_eq_true rfl) ⟨Nat.le_refl _, Nat.le_refl _⟩ (fun v3 o2 h => ?_)
  refine g_if_le hC dX5_partnerOf_9 16 (by decide) 12 rfl (fun c => ?_) (fun c => ?_)
  · have h := h.1 c
    refine g_aload_n hC dX5_partnerOf_16 17 rfl rfl 0 rfl ?_
    refine g_iload_n hC dX5_partnerOf_17 18 rfl rfl 1 rfl ?_
    refine g_aload_n hC dX5_partnerOf_18 19 rfl rfl 0 rfl ?_
    refine g_iload_n hC dX5_partnerOf_19 20 rfl rfl 1 rfl ?_
    refine g_readV hC (ct_X5_isPaired l g a o2 p0 _ h) gY_X5_isPaired dX5_partnerOf_20 23 rfl ml_X5_110 [] [] (by simp only [List.nil_append, List.append_nil]) [.int p0, .ref (a 0)] rfl rfl rfl 0 9 rfl rfl ⟨Nat.le_of_ble_eq_true rfl, Nat.le_of_ble_eq_true rfl⟩ (Nat.le_of_ble_eq_true rfl) ⟨Nat.le_refl _, Nat.le_refl _⟩ (fun v4 h => ?_)
    refine g_bipush hC (7 : Int32) dX5_partnerOf_23 25 rfl bipush_7 ?_
    refine g_ownI hC (ct_X5_known l g a o2 p0 v4 (7 : Int32) _ h) gY_X5_known dX5_partnerOf_25 28 rfl ml_X5_158 [] rfl rfl rfl 0 9 rfl rfl ⟨Nat.le_of_ble_eq_true rfl, Nat.le_of_ble_eq_true rfl⟩ (Nat.le_of_ble_eq_true rfl) ⟨Nat.le_refl _, Nat.le_refl _⟩ (fun v6 o5 h => ?_)
    exact g_iret hC hZ dX5_partnerOf_28 ⟨_, _, rfl, rfl, h⟩
  · have h := h.2 c
    refine g_iconst hC (0 : Int32) dX5_partnerOf_12 13 rfl iconst_0 ?_
    refine g_goto hC dX5_partnerOf_13 28 (by decide) ?_
    exact g_iret hC hZ dX5_partnerOf_28 ⟨_, _, rfl, rfl, h⟩
def wj_X5_matches_22 (post : Int32 → Off → Prop) (o : Off) (x1 : Int32) (x2 : Int32) (s0 : Int32) : Prop := wp_X5_checked (fun v3 o2 => ((¬ v3 = 0 → post (0 : Int32) o2) ∧ (v3 = 0 → wp_X5_fits (fun v4 => ((v4 = 0 → post (0 : Int32) o2) ∧ (¬ v4 = 0 → post (1 : Int32) o2))) o2 x1 x2))) o s0
def wj_X5_matches_21 (post : Int32 → Off → Prop) (o : Off) (x1 : Int32) (x2 : Int32) : Prop := wj_X5_matches_22 post o x1 x2 (0 : Int32)
def wp_X5_matches (post : Int32 → Off → Prop) (o : Off) (p0 : Int32) (p1 : Int32) : Prop := wp_X5_isSock (fun v1 => ((v1 = 0 → wj_X5_matches_21 post o p0 p1) ∧ (¬ v1 = 0 → wp_X5_isSock (fun v5 => ((v5 = 0 → wj_X5_matches_21 post o p0 p1) ∧ (¬ v5 = 0 → wj_X5_matches_22 post o p0 p1 (1 : Int32)))) o p1))) o p0
set_option maxRecDepth 100000 in
set_option maxHeartbeats 4000000 in
theorem jn_X5_matches_22 {x : gX} {l : Launch} {g : gE} {a : Nat → Nat} {o0 : Off} {post : Int32 → Off → Prop} (hC : gC x l cX5_matches 3 RX5 g 2 44 0 0) (hZ : gZ x g (some .boolean) (modW g a o0) (pI (modW g a) post) 0 0) : ∀ (o : Off) (x1 : Int32) (x2 : Int32) (s0 : Int32) , wj_X5_matches_22 post o x1 x2 s0 → G x g 3 0 0 (modW g a o) 22 [(0, .ref (a 0)), (1, .int x1), (2, .int x2)] [.int s0, .ref (a 0)] := by
  intro o x1 x2 s0 h
  rw [wj_X5_matches_22] at h
  refine g_ownI hC (ct_X5_checked l g a o s0 _ h) gY_X5_checked dX5_matches_22 25 rfl ml_X5_154 [] rfl rfl rfl 0 9 rfl rfl ⟨Nat.le_of_ble_eq_true rfl, Nat.le_of_ble_eq_true rfl⟩ (Nat.le_of_ble_eq_true rfl) ⟨Nat.le_refl _, Nat.le_refl _⟩ (fun v3 o2 h => ?_)
  refine g_if_ne hC dX5_matches_25 41 (by decide) 28 rfl (fun c => ?_) (fun c => ?_)
  · have h := h.1 c
    refine g_iconst hC (0 : Int32) dX5_matches_41 42 rfl iconst_0 ?_
    exact g_zret hC hZ rfl dX5_matches_42 ⟨_, _, rfl, rfl, h⟩
  · have h := h.2 c
    refine g_aload_n hC dX5_matches_28 29 rfl rfl 0 rfl ?_
    refine g_iload_n hC dX5_matches_29 30 rfl rfl 1 rfl ?_
    refine g_iload_n hC dX5_matches_30 31 rfl rfl 2 rfl ?_
    refine g_readV hC (ct_X5_fits l g a o2 x1 x2 _ h) gY_X5_fits dX5_matches_31 34 rfl ml_X5_162 [] [] (by simp only [List.nil_append, List.append_nil]) [] rfl rfl rfl 0 9 rfl rfl ⟨Nat.le_of_ble_eq_true rfl, Nat.le_of_ble_eq_true rfl⟩ (Nat.le_of_ble_eq_true rfl) ⟨Nat.le_refl _, Nat.le_refl _⟩ (fun v4 h => ?_)
    refine g_if_eq hC dX5_matches_34 41 (by decide) 37 rfl (fun c => ?_) (fun c => ?_)
    · have h := h.1 c
      refine g_iconst hC (0 : Int32) dX5_matches_41 42 rfl iconst_0 ?_
      exact g_zret hC hZ rfl dX5_matches_42 ⟨_, _, rfl, rfl, h⟩
    · have h := h.2 c
      refine g_iconst hC (1 : Int32) dX5_matches_37 38 rfl iconst_1 ?_
      refine g_goto hC dX5_matches_38 42 (by decide) ?_
      exact g_zret hC hZ rfl dX5_matches_42 ⟨_, _, rfl, rfl, h⟩
set_option maxRecDepth 100000 in
set_option maxHeartbeats 4000000 in
theorem jn_X5_matches_21 {x : gX} {l : Launch} {g : gE} {a : Nat → Nat} {o0 : Off} {post : Int32 → Off → Prop} (hC : gC x l cX5_matches 3 RX5 g 2 44 0 0) (hZ : gZ x g (some .boolean) (modW g a o0) (pI (modW g a) post) 0 0) : ∀ (o : Off) (x1 : Int32) (x2 : Int32) , wj_X5_matches_21 post o x1 x2 → G x g 3 0 0 (modW g a o) 21 [(0, .ref (a 0)), (1, .int x1), (2, .int x2)] [.ref (a 0)] := by
  intro o x1 x2 h
  rw [wj_X5_matches_21] at h
  refine g_iconst hC (0 : Int32) dX5_matches_21 22 rfl iconst_0 ?_
  exact jn_X5_matches_22 hC hZ o x1 x2 (0 : Int32) h
set_option maxRecDepth 100000 in
set_option maxHeartbeats 4000000 in
theorem ct_X5_matches (l : Launch) (g : gE) (a : Nat → Nat) (o : Off) (p0 : Int32) (p1 : Int32) (post : Int32 → Off → Prop) (h : wp_X5_matches post o p0 p1) : Fn l g yX5_matches cX5_matches 3 (some .boolean) 2 44 0 0 (modW g a o) [.ref (a 0), .int p0, .int p1] (pI (modW g a) post) := by
  refine Fn.of (by decide) (Nat.le_of_ble_eq_true rfl) (fun x hC hZ => ?_)
  rw [wp_X5_matches] at h
  show G x g 3 0 0 (modW g a o) 0 [(0, .ref (a 0)), (1, .int p0), (2, .int p1)] []
  refine g_aload_n hC dX5_matches_0 1 rfl rfl 0 rfl ?_
  refine g_aload_n hC dX5_matches_1 2 rfl rfl 0 rfl ?_
  refine g_iload_n hC dX5_matches_2 3 rfl rfl 1 rfl ?_
  refine g_readV hC (ct_X5_isSock l g a o p0 _ h) gY_X5_isSock dX5_matches_3 6 rfl ml_X5_151 [] [] (by simp only [List.nil_append, List.append_nil]) [.ref (a 0)] rfl rfl rfl 0 9 rfl rfl ⟨Nat.le_of_ble_eq_true rfl, Nat.le_of_ble_eq_true rfl⟩ (Nat.le_of_ble_eq_true rfl) ⟨Nat.le_refl _, Nat.le_refl _⟩ (fun v1 h => ?_)
  refine g_if_eq hC dX5_matches_6 21 (by decide) 9 rfl (fun c => ?_) (fun c => ?_)
  · have h := h.1 c
    exact jn_X5_matches_21 hC hZ o p0 p1 h
  · have h := h.2 c
    refine g_aload_n hC dX5_matches_9 10 rfl rfl 0 rfl ?_
    refine g_iload_n hC dX5_matches_10 11 rfl rfl 2 rfl ?_
    refine g_readV hC (ct_X5_isSock l g a o p1 _ h) gY_X5_isSock dX5_matches_11 14 rfl ml_X5_151 [] [] (by simp only [List.nil_append, List.append_nil]) [.ref (a 0)] rfl rfl rfl 0 9 rfl rfl ⟨Nat.le_of_ble_eq_true rfl, Nat.le_of_ble_eq_true rfl⟩ (Nat.le_of_ble_eq_true rfl) ⟨Nat.le_refl _, Nat.le_refl _⟩ (fun v5 h => ?_)
    refine g_if_eq hC dX5_matches_14 21 (by decide) 17 rfl (fun c => ?_) (fun c => ?_)
    · have h := h.1 c
      exact jn_X5_matches_21 hC hZ o p0 p1 h
    · have h := h.2 c
      refine g_iconst hC (1 : Int32) dX5_matches_17 18 rfl iconst_1 ?_
      refine g_goto hC dX5_matches_18 22 (by decide) ?_
      exact jn_X5_matches_22 hC hZ o p0 p1 (1 : Int32) h
def wj_X5_cannotApply_15 (post : Int32 → Off → Prop) (o : Off) (x1 : Int32) (s0 : Int32) : Prop := wp_X5_s (fun v2 => wp_X5_notes (fun v4 o3 => (isB v4 ∧ post v4 o3)) o s0 (2 : Int32) v2) o x1 (3 : Int32)
def wp_X5_cannotApply (post : Int32 → Off → Prop) (o : Off) (p0 : Int32) : Prop := wp_X5_is (fun v1 => ((¬ v1 = 0 → wj_X5_cannotApply_15 post o p0 (0 : Int32)) ∧ (v1 = 0 → wj_X5_cannotApply_15 post o p0 (1 : Int32)))) o p0 (0 : Int32)
set_option maxRecDepth 100000 in
set_option maxHeartbeats 4000000 in
theorem jn_X5_cannotApply_15 {x : gX} {l : Launch} {g : gE} {a : Nat → Nat} {o0 : Off} {post : Int32 → Off → Prop} (hC : gC x l cX5_cannotApply 2 RX5 g 2 44 0 0) (hZ : gZ x g (some .boolean) (modW g a o0) (pI (modW g a) post) 0 0) : ∀ (o : Off) (x1 : Int32) (s0 : Int32) , wj_X5_cannotApply_15 post o x1 s0 → G x g 2 0 0 (modW g a o) 15 [(0, .ref (a 0)), (1, .int x1)] [.int s0, .ref (a 0)] := by
  intro o x1 s0 h
  rw [wj_X5_cannotApply_15] at h
  refine g_iconst hC (2 : Int32) dX5_cannotApply_15 16 rfl iconst_2 ?_
  refine g_aload_n hC dX5_cannotApply_16 17 rfl rfl 0 rfl ?_
  refine g_iload_n hC dX5_cannotApply_17 18 rfl rfl 1 rfl ?_
  refine g_iconst hC (3 : Int32) dX5_cannotApply_18 19 rfl iconst_3 ?_
  refine g_readV hC (ct_X5_s l g a o x1 (3 : Int32) _ h) gY_X5_s dX5_cannotApply_19 22 rfl ml_X5_96 [] [] (by simp only [List.nil_append, List.append_nil]) [.int (2 : Int32), .int s0, .ref (a 0)] rfl rfl rfl 0 9 rfl rfl ⟨Nat.le_of_ble_eq_true rfl, Nat.le_of_ble_eq_true rfl⟩ (Nat.le_of_ble_eq_true rfl) ⟨Nat.le_refl _, Nat.le_refl _⟩ (fun v2 h => ?_)
  refine g_ownI hC (ct_X5_notes l g a o s0 (2 : Int32) v2 _ h) gY_X5_notes dX5_cannotApply_22 25 rfl ml_X5_121 [] rfl rfl rfl 0 9 rfl rfl ⟨Nat.le_of_ble_eq_true rfl, Nat.le_of_ble_eq_true rfl⟩ (Nat.le_of_ble_eq_true rfl) ⟨Nat.le_refl _, Nat.le_refl _⟩ (fun v4 o3 h => ?_)
  obtain ⟨hb, h⟩ := h
  exact g_zret hC hZ (isB_n hb) dX5_cannotApply_25 ⟨_, _, rfl, rfl, h⟩
set_option maxRecDepth 100000 in
set_option maxHeartbeats 4000000 in
theorem ct_X5_cannotApply (l : Launch) (g : gE) (a : Nat → Nat) (o : Off) (p0 : Int32) (post : Int32 → Off → Prop) (h : wp_X5_cannotApply post o p0) : Fn l g yX5_cannotApply cX5_cannotApply 2 (some .boolean) 2 44 0 0 (modW g a o) [.ref (a 0), .int p0] (pI (modW g a) post) := by
  refine Fn.of (by decide) (Nat.le_of_ble_eq_true rfl) (fun x hC hZ => ?_)
  rw [wp_X5_cannotApply] at h
  show G x g 2 0 0 (modW g a o) 0 [(0, .ref (a 0)), (1, .int p0)] []
  refine g_aload_n hC dX5_cannotApply_0 1 rfl rfl 0 rfl ?_
  refine g_aload_n hC dX5_cannotApply_1 2 rfl rfl 0 rfl ?_
  refine g_iload_n hC dX5_cannotApply_2 3 rfl rfl 1 rfl ?_
  refine g_iconst hC (0 : Int32) dX5_cannotApply_3 4 rfl iconst_0 ?_
  refine g_readV hC (ct_X5_is l g a o p0 (0 : Int32) _ h) gY_X5_is dX5_cannotApply_4 7 rfl ml_X5_100 [] [] (by simp only [List.nil_append, List.append_nil]) [.ref (a 0)] rfl rfl rfl 0 9 rfl rfl ⟨Nat.le_of_ble_eq_true rfl, Nat.le_of_ble_eq_true rfl⟩ (Nat.le_of_ble_eq_true rfl) ⟨Nat.le_refl _, Nat.le_refl _⟩ (fun v1 h => ?_)
  refine g_if_ne hC dX5_cannotApply_7 14 (by decide) 10 rfl (fun c => ?_) (fun c => ?_)
  · have h := h.1 c
    refine g_iconst hC (0 : Int32) dX5_cannotApply_14 15 rfl iconst_0 ?_
    exact jn_X5_cannotApply_15 hC hZ o p0 (0 : Int32) h
  · have h := h.2 c
    refine g_iconst hC (1 : Int32) dX5_cannotApply_10 11 rfl iconst_1 ?_
    refine g_goto hC dX5_cannotApply_11 15 (by decide) ?_
    exact jn_X5_cannotApply_15 hC hZ o p0 (1 : Int32) h
def wp_X5_applies (post : Int32 → Off → Prop) (o : Off) (p0 : Int32) (p1 : Int32) : Prop := wp_X5_set (fun o1 => wp_X5_set (fun o2 => wp_X5_set (fun o3 => (vp_in (1 : Int32) 160 ∧ wp_X5_set (fun o4 => wp_X5_askingFor (fun v5 => post v5 o4) o4 p1) o3 p0 (5 : Int32) (o3 1 (1 : Int32).toNatClampNeg))) o2 p0 (4 : Int32) (1 : Int32)) o1 p0 (3 : Int32) p1) o p0 (2 : Int32) (1 : Int32)
set_option maxRecDepth 100000 in
set_option maxHeartbeats 4000000 in
theorem ct_X5_applies (l : Launch) (g : gE) (a : Nat → Nat) (o : Off) (p0 : Int32) (p1 : Int32) (post : Int32 → Off → Prop) (h : wp_X5_applies post o p0 p1) : Fn l g yX5_applies cX5_applies 3 (some .int) 4 89 0 0 (modW g a o) [.ref (a 0), .int p0, .int p1] (pI (modW g a) post) := by
  refine Fn.of (by decide) (Nat.le_of_ble_eq_true rfl) (fun x hC hZ => ?_)
  rw [wp_X5_applies] at h
  show G x g 3 0 0 (modW g a o) 0 [(0, .ref (a 0)), (1, .int p0), (2, .int p1)] []
  refine g_aload_n hC dX5_applies_0 1 rfl rfl 0 rfl ?_
  refine g_iload_n hC dX5_applies_1 2 rfl rfl 1 rfl ?_
  refine g_iconst hC (2 : Int32) dX5_applies_2 3 rfl iconst_2 ?_
  refine g_iconst hC (1 : Int32) dX5_applies_3 4 rfl iconst_1 ?_
  refine g_ownV hC (ct_X5_set l g a o p0 (2 : Int32) (1 : Int32) _ h) gY_X5_set dX5_applies_4 7 rfl ml_X5_117 [] rfl rfl rfl 0 9 rfl rfl ⟨Nat.le_of_ble_eq_true rfl, Nat.le_of_ble_eq_true rfl⟩ (Nat.le_of_ble_eq_true rfl) ⟨Nat.le_refl _, Nat.le_refl _⟩ (fun o1 h => ?_)
  refine g_aload_n hC dX5_applies_7 8 rfl rfl 0 rfl ?_
  refine g_iload_n hC dX5_applies_8 9 rfl rfl 1 rfl ?_
  refine g_iconst hC (3 : Int32) dX5_applies_9 10 rfl iconst_3 ?_
  refine g_iload_n hC dX5_applies_10 11 rfl rfl 2 rfl ?_
  refine g_ownV hC (ct_X5_set l g a o1 p0 (3 : Int32) p1 _ h) gY_X5_set dX5_applies_11 14 rfl ml_X5_117 [] rfl rfl rfl 0 9 rfl rfl ⟨Nat.le_of_ble_eq_true rfl, Nat.le_of_ble_eq_true rfl⟩ (Nat.le_of_ble_eq_true rfl) ⟨Nat.le_refl _, Nat.le_refl _⟩ (fun o2 h => ?_)
  refine g_aload_n hC dX5_applies_14 15 rfl rfl 0 rfl ?_
  refine g_iload_n hC dX5_applies_15 16 rfl rfl 1 rfl ?_
  refine g_iconst hC (4 : Int32) dX5_applies_16 17 rfl iconst_4 ?_
  refine g_iconst hC (1 : Int32) dX5_applies_17 18 rfl iconst_1 ?_
  refine g_ownV hC (ct_X5_set l g a o2 p0 (4 : Int32) (1 : Int32) _ h) gY_X5_set dX5_applies_18 21 rfl ml_X5_117 [] rfl rfl rfl 0 9 rfl rfl ⟨Nat.le_of_ble_eq_true rfl, Nat.le_of_ble_eq_true rfl⟩ (Nat.le_of_ble_eq_true rfl) ⟨Nat.le_refl _, Nat.le_refl _⟩ (fun o3 h => ?_)
  refine g_aload_n hC dX5_applies_21 22 rfl rfl 0 rfl ?_
  refine g_iload_n hC dX5_applies_22 23 rfl rfl 1 rfl ?_
  refine g_iconst hC (5 : Int32) dX5_applies_23 24 rfl iconst_5 ?_
  refine g_aload_n hC dX5_applies_24 25 rfl rfl 0 rfl ?_
  refine g_get hC fl_X5_7 dX5_applies_25 28 rfl 0 rfl rfl ?_
  refine g_iconst hC (1 : Int32) dX5_applies_28 29 rfl iconst_1 ?_
  obtain ⟨hi, h⟩ := h
  refine g_iald hC dX5_applies_29 30 rfl 1 rfl hi ?_
  refine g_ownV hC (ct_X5_set l g a o3 p0 (5 : Int32) (o3 1 (1 : Int32).toNatClampNeg) _ h) gY_X5_set dX5_applies_30 33 rfl ml_X5_117 [] rfl rfl rfl 0 9 rfl rfl ⟨Nat.le_of_ble_eq_true rfl, Nat.le_of_ble_eq_true rfl⟩ (Nat.le_of_ble_eq_true rfl) ⟨Nat.le_refl _, Nat.le_refl _⟩ (fun o4 h => ?_)
  refine g_aload_n hC dX5_applies_33 34 rfl rfl 0 rfl ?_
  refine g_iload_n hC dX5_applies_34 35 rfl rfl 2 rfl ?_
  refine g_readV hC (ct_X5_askingFor l g a o4 p1 _ h) gY_X5_askingFor dX5_applies_35 38 rfl ml_X5_165 [] [] (by simp only [List.nil_append, List.append_nil]) [] rfl rfl rfl 0 9 rfl rfl ⟨Nat.le_of_ble_eq_true rfl, Nat.le_of_ble_eq_true rfl⟩ (Nat.le_of_ble_eq_true rfl) ⟨Nat.le_refl _, Nat.le_refl _⟩ (fun v5 h => ?_)
  exact g_iret hC hZ dX5_applies_38 ⟨_, _, rfl, rfl, h⟩
def wj_X5_apply_19 (post : Int32 → Off → Prop) (o : Off) : Prop := wp_X5_fail (fun v4 o3 => post v4 o3) o (1 : Int32)
def wp_X5_apply (post : Int32 → Off → Prop) (o : Off) (p0 : Int32) (p1 : Int32) : Prop := wp_X5_begin (fun o1 => wp_X5_isSock (fun v2 => ((v2 = 0 → wj_X5_apply_19 post o1) ∧ (¬ v2 = 0 → wp_X5_isDrawer (fun v5 => ((¬ v5 = 0 → wp_X5_cannotApply (fun v7 o6 => ((v7 = 0 → wp_X5_applies (fun v9 o8 => wp_X5_commit (fun v11 o10 => post v11 o10) o8 v9) o6 p0 p1) ∧ (¬ v7 = 0 → wp_X5_reject (fun v13 o12 => post v13 o12) o6 (2 : Int32)))) o1 p0) ∧ (v5 = 0 → wj_X5_apply_19 post o1))) p1))) o1 p0) o 
set_option maxRecDepth 100000 in
set_option maxHeartbeats 4000000 in
theorem jn_X5_apply_19 {x : gX} {l : Launch} {g : gE} {a : Nat → Nat} {o0 : Off} {post : Int32 → Off → Prop} (hC : gC x l cX5_apply 3 RX5 g 5 111 0 0) (hZ : gZ x g (some .int) (modW g a o0) (pI (modW g a) post) 0 0) : ∀ (o : Off) , wj_X5_apply_19 post o → G x g 3 0 0 (modW g a o) 19 [(0, .ref (a 0))] [] := by
  intro o h
  rw [wj_X5_apply_19] at h
  refine g_aload_n hC dX5_apply_19 20 rfl rfl 0 rfl ?_
  refine g_iconst hC (1 : Int32) dX5_apply_20 21 rfl iconst_1 ?_
  refine g_ownI hC (ct_X5_fail l g a o (1 : Int32) _ h) gY_X5_fail dX5_apply_21 24 rfl ml_X5_88 [] rfl rfl rfl 0 9 rfl rfl ⟨Nat.le_of_ble_eq_true rfl, Nat.le_of_ble_eq_true rfl⟩ (Nat.le_of_ble_eq_true rfl) ⟨Nat.le_refl _, Nat.le_refl _⟩ (fun v4 o3 h => ?_)
  exact g_iret hC hZ dX5_apply_24 ⟨_, _, rfl, rfl, h⟩
set_option maxRecDepth 100000 in
set_option maxHeartbeats 4000000 in
theorem ct_X5_apply (l : Launch) (g : gE) (a : Nat → Nat) (o : Off) (p0 : Int32) (p1 : Int32) (post : Int32 → Off → Prop) (h : wp_X5_apply post o p0 p1) : Fn l g yX5_apply cX5_apply 3 (some .int) 5 111 0 0 (modW g a o) [.ref (a 0), .int p0, .int p1] (pI (modW g a) post) := by
  refine Fn.of (by decide) (Nat.le_of_ble_eq_true rfl) (fun x hC hZ => ?_)
  rw [wp_X5_apply] at h
  show G x g 3 0 0 (modW g a o) 0 [(0, .ref (a 0)), (1, .int p0), (2, .int p1)] []
  refine g_aload_n hC dX5_apply_0 1 rfl rfl 0 rfl ?_
  refine g_ownV hC (ct_X5_begin l g a o  _ h) gY_X5_begin dX5_apply_1 4 rfl ml_X5_129 [] rfl rfl rfl 0 9 rfl rfl ⟨Nat.le_of_ble_eq_true rfl, Nat.le_of_ble_eq_true rfl⟩ (Nat.le_of_ble_eq_true rfl) ⟨Nat.le_refl _, Nat.le_refl _⟩ (fun o1 h => ?_)
  refine g_aload_n hC dX5_apply_4 5 rfl rfl 0 rfl ?_
  refine g_iload_n hC dX5_apply_5 6 rfl rfl 1 rfl ?_
  refine g_readV hC (ct_X5_isSock l g a o1 p0 _ h) gY_X5_isSock dX5_apply_6 9 rfl ml_X5_151 [] [] (by simp only [List.nil_append, List.append_nil]) [] rfl rfl rfl 0 9 rfl rfl ⟨Nat.le_of_ble_eq_true rfl, Nat.le_of_ble_eq_true rfl⟩ (Nat.le_of_ble_eq_true rfl) ⟨Nat.le_refl _, Nat.le_refl _⟩ (fun v2 h => ?_)
  refine g_if_eq hC dX5_apply_9 19 (by decide) 12 rfl (fun c => ?_) (fun c => ?_)
  · have h := h.1 c
    refine g_lv (lv2 := [(0, .ref (a 0))]) [0] rfl ?_
    exact jn_X5_apply_19 hC hZ o1 h
  · have h := h.2 c
    refine g_iload_n hC dX5_apply_12 13 rfl rfl 2 rfl ?_
    refine g_readS hC (ct_X5_isDrawer l g p1 _ h) gY_X5_isDrawer dX5_apply_13 16 rfl ml_X5_168 [] _ rfl [] rfl rfl ⟨Nat.le_of_ble_eq_true rfl, Nat.le_of_ble_eq_true rfl⟩ (Nat.le_of_ble_eq_true rfl) ⟨Nat.le_refl _, Nat.le_refl _⟩ (fun v5 h => ?_)
    refine g_if_ne hC dX5_apply_16 25 (by decide) 19 rfl (fun c => ?_) (fun c => ?_)
    · have h := h.1 c
      refine g_aload_n hC dX5_apply_25 26 rfl rfl 0 rfl ?_
      refine g_iload_n hC dX5_apply_26 27 rfl rfl 1 rfl ?_
      refine g_ownI hC (ct_X5_cannotApply l g a o1 p0 _ h) gY_X5_cannotApply dX5_apply_27 30 rfl ml_X5_171 [] rfl rfl rfl 0 9 rfl rfl ⟨Nat.le_of_ble_eq_true rfl, Nat.le_of_ble_eq_true rfl⟩ (Nat.le_of_ble_eq_true rfl) ⟨Nat.le_refl _, Nat.le_refl _⟩ (fun v7 o6 h => ?_)
      refine g_if_eq hC dX5_apply_30 41 (by decide) 33 rfl (fun c => ?_) (fun c => ?_)
      · have h := h.1 c
        refine g_aload_n hC dX5_apply_41 42 rfl rfl 0 rfl ?_
        refine g_aload_n hC dX5_apply_42 43 rfl rfl 0 rfl ?_
        refine g_iload_n hC dX5_apply_43 44 rfl rfl 1 rfl ?_
        refine g_iload_n hC dX5_apply_44 45 rfl rfl 2 rfl ?_
        refine g_ownI hC (ct_X5_applies l g a o6 p0 p1 _ h) gY_X5_applies dX5_apply_45 48 rfl ml_X5_174 [.ref (a 0)] rfl rfl rfl 0 9 rfl rfl ⟨Nat.le_of_ble_eq_true rfl, Nat.le_of_ble_eq_true rfl⟩ (Nat.le_of_ble_eq_true rfl) ⟨Nat.le_refl _, Nat.le_refl _⟩ (fun v9 o8 h => ?_)
        refine g_ownI hC (ct_X5_commit l g a o8 v9 _ h) gY_X5_commit dX5_apply_48 51 rfl ml_X5_145 [] rfl rfl rfl 0 9 rfl rfl ⟨Nat.le_of_ble_eq_true rfl, Nat.le_of_ble_eq_true rfl⟩ (Nat.le_of_ble_eq_true rfl) ⟨Nat.le_refl _, Nat.le_refl _⟩ (fun v11 o10 h => ?_)
        exact g_iret hC hZ dX5_apply_51 ⟨_, _, rfl, rfl, h⟩
      · have h := h.2 c
        refine g_aload_n hC dX5_apply_33 34 rfl rfl 0 rfl ?_
        refine g_iconst hC (2 : Int32) dX5_apply_34 35 rfl iconst_2 ?_
        refine g_ownI hC (ct_X5_reject l g a o6 (2 : Int32) _ h) gY_X5_reject dX5_apply_35 38 rfl ml_X5_139 [] rfl rfl rfl 0 9 rfl rfl ⟨Nat.le_of_ble_eq_true rfl, Nat.le_of_ble_eq_true rfl⟩ (Nat.le_of_ble_eq_true rfl) ⟨Nat.le_refl _, Nat.le_refl _⟩ (fun v13 o12 h => ?_)
        refine g_goto hC dX5_apply_38 51 (by decide) ?_
        exact g_iret hC hZ dX5_apply_51 ⟨_, _, rfl, rfl, h⟩
    · have h := h.2 c
      refine g_lv (lv2 := [(0, .ref (a 0))]) [0] rfl ?_
      exact jn_X5_apply_19 hC hZ o1 h
def wj_X5_cannotWithdraw_24 (post : Int32 → Off → Prop) (o : Off) (x1 : Int32) (s0 : Int32) : Prop := wp_X5_notes (fun v3 o2 => (isB v3 ∧ post v3 o2)) o s0 (3 : Int32) x1
def wj_X5_cannotWithdraw_23 (post : Int32 → Off → Prop) (o : Off) (x1 : Int32) : Prop := wj_X5_cannotWithdraw_24 post o x1 (0 : Int32)
def wp_X5_cannotWithdraw (post : Int32 → Off → Prop) (o : Off) (p0 : Int32) : Prop := wp_X5_is (fun v1 => ((¬ v1 = 0 → wj_X5_cannotWithdraw_23 post o p0) ∧ (v1 = 0 → wp_X5_is (fun v4 => ((¬ v4 = 0 → wj_X5_cannotWithdraw_23 post o p0) ∧ (v4 = 0 → wj_X5_cannotWithdraw_24 post o p0 (1 : Int32)))) o p0 (2 : Int32)))) o p0 (1 : Int32)
set_option maxRecDepth 100000 in
set_option maxHeartbeats 4000000 in
theorem jn_X5_cannotWithdraw_24 {x : gX} {l : Launch} {g : gE} {a : Nat → Nat} {o0 : Off} {post : Int32 → Off → Prop} (hC : gC x l cX5_cannotWithdraw 2 RX5 g 2 44 0 0) (hZ : gZ x g (some .boolean) (modW g a o0) (pI (modW g a) post) 0 0) : ∀ (o : Off) (x1 : Int32) (s0 : Int32) , wj_X5_cannotWithdraw_24 post o x1 s0 → G x g 2 0 0 (modW g a o) 24 [(1, .int x1)] [.int s0, .ref (a 0)] := by
  intro o x1 s0 h
  rw [wj_X5_cannotWithdraw_24] at h
  refine g_iconst hC (3 : Int32) dX5_cannotWithdraw_24 25 rfl iconst_3 ?_
  refine g_iload_n hC dX5_cannotWithdraw_25 26 rfl rfl 0 rfl ?_
  refine g_ownI hC (ct_X5_notes l g a o s0 (3 : Int32) x1 _ h) gY_X5_notes dX5_cannotWithdraw_26 29 rfl ml_X5_121 [] rfl rfl rfl 0 9 rfl rfl ⟨Nat.le_of_ble_eq_true rfl, Nat.le_of_ble_eq_true rfl⟩ (Nat.le_of_ble_eq_true rfl) ⟨Nat.le_refl _, Nat.le_refl _⟩ (fun v3 o2 h => ?_)
  obtain ⟨hb, h⟩ := h
  exact g_zret hC hZ (isB_n hb) dX5_cannotWithdraw_29 ⟨_, _, rfl, rfl, h⟩
set_option maxRecDepth 100000 in
set_option maxHeartbeats 4000000 in
theorem jn_X5_cannotWithdraw_23 {x : gX} {l : Launch} {g : gE} {a : Nat → Nat} {o0 : Off} {post : Int32 → Off → Prop} (hC : gC x l cX5_cannotWithdraw 2 RX5 g 2 44 0 0) (hZ : gZ x g (some .boolean) (modW g a o0) (pI (modW g a) post) 0 0) : ∀ (o : Off) (x1 : Int32) , wj_X5_cannotWithdraw_23 post o x1 → G x g 2 0 0 (modW g a o) 23 [(1, .int x1)] [.ref (a 0)] := by
  intro o x1 h
  rw [wj_X5_cannotWithdraw_23] at h
  refine g_iconst hC (0 : Int32) dX5_cannotWithdraw_23 24 rfl iconst_0 ?_
  exact jn_X5_cannotWithdraw_24 hC hZ o x1 (0 : Int32) h
set_option maxRecDepth 100000 in
set_option maxHeartbeats 4000000 in
theorem ct_X5_cannotWithdraw (l : Launch) (g : gE) (a : Nat → Nat) (o : Off) (p0 : Int32) (post : Int32 → Off → Prop) (h : wp_X5_cannotWithdraw post o p0) : Fn l g yX5_cannotWithdraw cX5_cannotWithdraw 2 (some .boolean) 2 44 0 0 (modW g a o) [.ref (a 0), .int p0] (pI (modW g a) post) := by
  refine Fn.of (by decide) (Nat.le_of_ble_eq_true rfl) (fun x hC hZ => ?_)
  rw [wp_X5_cannotWithdraw] at h
  show G x g 2 0 0 (modW g a o) 0 [(0, .ref (a 0)), (1, .int p0)] []
  refine g_aload_n hC dX5_cannotWithdraw_0 1 rfl rfl 0 rfl ?_
  refine g_aload_n hC dX5_cannotWithdraw_1 2 rfl rfl 0 rfl ?_
  refine g_iload_n hC dX5_cannotWithdraw_2 3 rfl rfl 1 rfl ?_
  refine g_iconst hC (1 : Int32) dX5_cannotWithdraw_3 4 rfl iconst_1 ?_
  refine g_readV hC (ct_X5_is l g a o p0 (1 : Int32) _ h) gY_X5_is dX5_cannotWithdraw_4 7 rfl ml_X5_100 [] [] (by simp only [List.nil_append, List.append_nil]) [.ref (a 0)] rfl rfl rfl 0 9 rfl rfl ⟨Nat.le_of_ble_eq_true rfl, Nat.le_of_ble_eq_true rfl⟩ (Nat.le_of_ble_eq_true rfl) ⟨Nat.le_refl _, Nat.le_refl _⟩ (fun v1 h => ?_)
  refine g_if_ne hC dX5_cannotWithdraw_7 23 (by decide) 10 rfl (fun c => ?_) (fun c => ?_)
  · have h := h.1 c
    refine g_lv (lv2 := [(1, .int p0)]) [1] rfl ?_
    exact jn_X5_cannotWithdraw_23 hC hZ o p0 h
  · have h := h.2 c
    refine g_aload_n hC dX5_cannotWithdraw_10 11 rfl rfl 0 rfl ?_
    refine g_iload_n hC dX5_cannotWithdraw_11 12 rfl rfl 1 rfl ?_
    refine g_iconst hC (2 : Int32) dX5_cannotWithdraw_12 13 rfl iconst_2 ?_
    refine g_readV hC (ct_X5_is l g a o p0 (2 : Int32) _ h) gY_X5_is dX5_cannotWithdraw_13 16 rfl ml_X5_100 [] [] (by simp only [List.nil_append, List.append_nil]) [.ref (a 0)] rfl rfl rfl 0 9 rfl rfl ⟨Nat.le_of_ble_eq_true rfl, Nat.le_of_ble_eq_true rfl⟩ (Nat.le_of_ble_eq_true rfl) ⟨Nat.le_refl _, Nat.le_refl _⟩ (fun v4 h => ?_)
    refine g_if_ne hC dX5_cannotWithdraw_16 23 (by decide) 19 rfl (fun c => ?_) (fun c => ?_)
    · have h := h.1 c
      refine g_lv (lv2 := [(1, .int p0)]) [1] rfl ?_
      exact jn_X5_cannotWithdraw_23 hC hZ o p0 h
    · have h := h.2 c
      refine g_iconst hC (1 : Int32) dX5_cannotWithdraw_19 20 rfl iconst_1 ?_
      refine g_goto hC dX5_cannotWithdraw_20 24 (by decide) ?_
      refine g_lv (lv2 := [(1, .int p0)]) [1] rfl ?_
      exact jn_X5_cannotWithdraw_24 hC hZ o p0 (1 : Int32) h
def wp_X5_withdraws (post : Int32 → Off → Prop) (o : Off) (p0 : Int32) : Prop := wp_X5_s (fun v1 => wp_X5_sendsAway (fun o2 => post v1 o2) o p0) o p0 (3 : Int32)
set_option maxRecDepth 100000 in
set_option maxHeartbeats 4000000 in
theorem ct_X5_withdraws (l : Launch) (g : gE) (a : Nat → Nat) (o : Off) (p0 : Int32) (post : Int32 → Off → Prop) (h : wp_X5_withdraws post o p0) : Fn l g yX5_withdraws cX5_withdraws 3 (some .int) 2 44 0 0 (modW g a o) [.ref (a 0), .int p0] (pI (modW g a) post) := by
  refine Fn.of (by decide) (Nat.le_of_ble_eq_true rfl) (fun x hC hZ => ?_)
  rw [wp_X5_withdraws] at h
  show G x g 3 0 0 (modW g a o) 0 [(0, .ref (a 0)), (1, .int p0)] []
  refine g_aload_n hC dX5_withdraws_0 1 rfl rfl 0 rfl ?_
  refine g_iload_n hC dX5_withdraws_1 2 rfl rfl 1 rfl ?_
  refine g_iconst hC (3 : Int32) dX5_withdraws_2 3 rfl iconst_3 ?_
  refine g_readV hC (ct_X5_s l g a o p0 (3 : Int32) _ h) gY_X5_s dX5_withdraws_3 6 rfl ml_X5_96 [] [] (by simp only [List.nil_append, List.append_nil]) [] rfl rfl rfl 0 9 rfl rfl ⟨Nat.le_of_ble_eq_true rfl, Nat.le_of_ble_eq_true rfl⟩ (Nat.le_of_ble_eq_true rfl) ⟨Nat.le_refl _, Nat.le_refl _⟩ (fun v1 h => ?_)
  refine g_istore_n (lv2 := [(2, .int v1), (0, .ref (a 0)), (1, .int p0)]) hC dX5_withdraws_6 7 rfl rfl (by decide) rfl ?_
  refine g_aload_n hC dX5_withdraws_7 8 rfl rfl 1 rfl ?_
  refine g_iload_n hC dX5_withdraws_8 9 rfl rfl 2 rfl ?_
  refine g_ownV hC (ct_X5_sendsAway l g a o p0 _ h) gY_X5_sendsAway dX5_withdraws_9 12 rfl ml_X5_125 [] rfl rfl rfl 0 9 rfl rfl ⟨Nat.le_of_ble_eq_true rfl, Nat.le_of_ble_eq_true rfl⟩ (Nat.le_of_ble_eq_true rfl) ⟨Nat.le_refl _, Nat.le_refl _⟩ (fun o2 h => ?_)
  refine g_iload_n hC dX5_withdraws_12 13 rfl rfl 0 rfl ?_
  exact g_iret hC hZ dX5_withdraws_13 ⟨_, _, rfl, rfl, h⟩
def wp_X5_withdraw (post : Int32 → Off → Prop) (o : Off) (p0 : Int32) : Prop := wp_X5_begin (fun o1 => wp_X5_isSock (fun v2 => ((¬ v2 = 0 → wp_X5_cannotWithdraw (fun v4 o3 => ((v4 = 0 → wp_X5_withdraws (fun v6 o5 => wp_X5_commit (fun v8 o7 => post v8 o7) o5 v6) o3 p0) ∧ (¬ v4 = 0 → wp_X5_reject (fun v10 o9 => post v10 o9) o3 (2 : Int32)))) o1 p0) ∧ (v2 = 0 → wp_X5_fail (fun v12 o11 => post v12 o11) o1 (1 : Int32)))) o1 p0) o 
set_option maxRecDepth 100000 in
set_option maxHeartbeats 4000000 in
theorem ct_X5_withdraw (l : Launch) (g : gE) (a : Nat → Nat) (o : Off) (p0 : Int32) (post : Int32 → Off → Prop) (h : wp_X5_withdraw post o p0) : Fn l g yX5_withdraw cX5_withdraw 2 (some .int) 3 66 0 0 (modW g a o) [.ref (a 0), .int p0] (pI (modW g a) post) := by
  refine Fn.of (by decide) (Nat.le_of_ble_eq_true rfl) (fun x hC hZ => ?_)
  rw [wp_X5_withdraw] at h
  show G x g 2 0 0 (modW g a o) 0 [(0, .ref (a 0)), (1, .int p0)] []
  refine g_aload_n hC dX5_withdraw_0 1 rfl rfl 0 rfl ?_
  refine g_ownV hC (ct_X5_begin l g a o  _ h) gY_X5_begin dX5_withdraw_1 4 rfl ml_X5_129 [] rfl rfl rfl 0 9 rfl rfl ⟨Nat.le_of_ble_eq_true rfl, Nat.le_of_ble_eq_true rfl⟩ (Nat.le_of_ble_eq_true rfl) ⟨Nat.le_refl _, Nat.le_refl _⟩ (fun o1 h => ?_)
  refine g_aload_n hC dX5_withdraw_4 5 rfl rfl 0 rfl ?_
  refine g_iload_n hC dX5_withdraw_5 6 rfl rfl 1 rfl ?_
  refine g_readV hC (ct_X5_isSock l g a o1 p0 _ h) gY_X5_isSock dX5_withdraw_6 9 rfl ml_X5_151 [] [] (by simp only [List.nil_append, List.append_nil]) [] rfl rfl rfl 0 9 rfl rfl ⟨Nat.le_of_ble_eq_true rfl, Nat.le_of_ble_eq_true rfl⟩ (Nat.le_of_ble_eq_true rfl) ⟨Nat.le_refl _, Nat.le_refl _⟩ (fun v2 h => ?_)
  refine g_if_ne hC dX5_withdraw_9 18 (by decide) 12 rfl (fun c => ?_) (fun c => ?_)
  · have h := h.1 c
    refine g_aload_n hC dX5_withdraw_18 19 rfl rfl 0 rfl ?_
    refine g_iload_n hC dX5_withdraw_19 20 rfl rfl 1 rfl ?_
    refine g_ownI hC (ct_X5_cannotWithdraw l g a o1 p0 _ h) gY_X5_cannotWithdraw dX5_withdraw_20 23 rfl ml_X5_177 [] rfl rfl rfl 0 9 rfl rfl ⟨Nat.le_of_ble_eq_true rfl, Nat.le_of_ble_eq_true rfl⟩ (Nat.le_of_ble_eq_true rfl) ⟨Nat.le_refl _, Nat.le_refl _⟩ (fun v4 o3 h => ?_)
    refine g_if_eq hC dX5_withdraw_23 34 (by decide) 26 rfl (fun c => ?_) (fun c => ?_)
    · have h := h.1 c
      refine g_aload_n hC dX5_withdraw_34 35 rfl rfl 0 rfl ?_
      refine g_aload_n hC dX5_withdraw_35 36 rfl rfl 0 rfl ?_
      refine g_iload_n hC dX5_withdraw_36 37 rfl rfl 1 rfl ?_
      refine g_ownI hC (ct_X5_withdraws l g a o3 p0 _ h) gY_X5_withdraws dX5_withdraw_37 40 rfl ml_X5_180 [.ref (a 0)] rfl rfl rfl 0 9 rfl rfl ⟨Nat.le_of_ble_eq_true rfl, Nat.le_of_ble_eq_true rfl⟩ (Nat.le_of_ble_eq_true rfl) ⟨Nat.le_refl _, Nat.le_refl _⟩ (fun v6 o5 h => ?_)
      refine g_ownI hC (ct_X5_commit l g a o5 v6 _ h) gY_X5_commit dX5_withdraw_40 43 rfl ml_X5_145 [] rfl rfl rfl 0 9 rfl rfl ⟨Nat.le_of_ble_eq_true rfl, Nat.le_of_ble_eq_true rfl⟩ (Nat.le_of_ble_eq_true rfl) ⟨Nat.le_refl _, Nat.le_refl _⟩ (fun v8 o7 h => ?_)
      exact g_iret hC hZ dX5_withdraw_43 ⟨_, _, rfl, rfl, h⟩
    · have h := h.2 c
      refine g_aload_n hC dX5_withdraw_26 27 rfl rfl 0 rfl ?_
      refine g_iconst hC (2 : Int32) dX5_withdraw_27 28 rfl iconst_2 ?_
      refine g_ownI hC (ct_X5_reject l g a o3 (2 : Int32) _ h) gY_X5_reject dX5_withdraw_28 31 rfl ml_X5_139 [] rfl rfl rfl 0 9 rfl rfl ⟨Nat.le_of_ble_eq_true rfl, Nat.le_of_ble_eq_true rfl⟩ (Nat.le_of_ble_eq_true rfl) ⟨Nat.le_refl _, Nat.le_refl _⟩ (fun v10 o9 h => ?_)
      refine g_goto hC dX5_withdraw_31 43 (by decide) ?_
      exact g_iret hC hZ dX5_withdraw_43 ⟨_, _, rfl, rfl, h⟩
  · have h := h.2 c
    refine g_aload_n hC dX5_withdraw_12 13 rfl rfl 0 rfl ?_
    refine g_iconst hC (1 : Int32) dX5_withdraw_13 14 rfl iconst_1 ?_
    refine g_ownI hC (ct_X5_fail l g a o1 (1 : Int32) _ h) gY_X5_fail dX5_withdraw_14 17 rfl ml_X5_88 [] rfl rfl rfl 0 9 rfl rfl ⟨Nat.le_of_ble_eq_true rfl, Nat.le_of_ble_eq_true rfl⟩ (Nat.le_of_ble_eq_true rfl) ⟨Nat.le_refl _, Nat.le_refl _⟩ (fun v12 o11 h => ?_)
    exact g_iret hC hZ dX5_withdraw_17 ⟨_, _, rfl, rfl, h⟩
def wj_X5_cannotAppeal_39 (post : Int32 → Off → Prop) (o : Off) (x1 : Int32) (s0 : Int32) : Prop := wp_X5_s (fun v5 => wp_X5_notes (fun v7 o6 => ((v7 = 0 → post (0 : Int32) o6) ∧ (¬ v7 = 0 → post (1 : Int32) o6))) o s0 (5 : Int32) v5) o x1 (3 : Int32)
def wj_X5_cannotAppeal_15 (post : Int32 → Off → Prop) (o : Off) (x1 : Int32) (s0 : Int32) : Prop := wp_X5_notes (fun v3 o2 => ((¬ v3 = 0 → post (1 : Int32) o2) ∧ (v3 = 0 → wp_X5_s (fun v4 => ((¬ v4 = (3 : Int32) → wj_X5_cannotAppeal_39 post o2 x1 (0 : Int32)) ∧ (v4 = (3 : Int32) → wj_X5_cannotAppeal_39 post o2 x1 (1 : Int32)))) o2 x1 (4 : Int32)))) o s0 (4 : Int32) x1
def wp_X5_cannotAppeal (post : Int32 → Off → Prop) (o : Off) (p0 : Int32) : Prop := wp_X5_is (fun v1 => ((¬ v1 = 0 → wj_X5_cannotAppeal_15 post o p0 (0 : Int32)) ∧ (v1 = 0 → wj_X5_cannotAppeal_15 post o p0 (1 : Int32)))) o p0 (2 : Int32)
set_option maxRecDepth 100000 in
set_option maxHeartbeats 4000000 in
theorem jn_X5_cannotAppeal_39 {x : gX} {l : Launch} {g : gE} {a : Nat → Nat} {o0 : Off} {post : Int32 → Off → Prop} (hC : gC x l cX5_cannotAppeal 2 RX5 g 2 44 0 0) (hZ : gZ x g (some .boolean) (modW g a o0) (pI (modW g a) post) 0 0) : ∀ (o : Off) (x1 : Int32) (s0 : Int32) , wj_X5_cannotAppeal_39 post o x1 s0 → G x g 2 0 0 (modW g a o) 39 [(0, .ref (a 0)), (1, .int x1)] [.int s0, .ref (a 0)] := by
  intro o x1 s0 h
  rw [wj_X5_cannotAppeal_39] at h
  refine g_iconst hC (5 : Int32) dX5_cannotAppeal_39 40 rfl iconst_5 ?_
  refine g_aload_n hC dX5_cannotAppeal_40 41 rfl rfl 0 rfl ?_
  refine g_iload_n hC dX5_cannotAppeal_41 42 rfl rfl 1 rfl ?_
  refine g_iconst hC (3 : Int32) dX5_cannotAppeal_42 43 rfl iconst_3 ?_
  refine g_readV hC (ct_X5_s l g a o x1 (3 : Int32) _ h) gY_X5_s dX5_cannotAppeal_43 46 rfl ml_X5_96 [] [] (by simp only [List.nil_append, List.append_nil]) [.int (5 : Int32), .int s0, .ref (a 0)] rfl rfl rfl 0 9 rfl rfl ⟨Nat.le_of_ble_eq_true rfl, Nat.le_of_ble_eq_true rfl⟩ (Nat.le_of_ble_eq_true rfl) ⟨Nat.le_refl _, Nat.le_refl _⟩ (fun v5 h => ?_)
  refine g_ownI hC (ct_X5_notes l g a o s0 (5 : Int32) v5 _ h) gY_X5_notes dX5_cannotAppeal_46 49 rfl ml_X5_121 [] rfl rfl rfl 0 9 rfl rfl ⟨Nat.le_of_ble_eq_true rfl, Nat.le_of_ble_eq_true rfl⟩ (Nat.le_of_ble_eq_true rfl) ⟨Nat.le_refl _, Nat.le_refl _⟩ (fun v7 o6 h => ?_)
  refine g_if_eq hC dX5_cannotAppeal_49 56 (by decide) 52 rfl (fun c => ?_) (fun c => ?_)
  · have h := h.1 c
    refine g_iconst hC (0 : Int32) dX5_cannotAppeal_56 57 rfl iconst_0 ?_
    exact g_zret hC hZ rfl dX5_cannotAppeal_57 ⟨_, _, rfl, rfl, h⟩
  · have h := h.2 c
    refine g_iconst hC (1 : Int32) dX5_cannotAppeal_52 53 rfl iconst_1 ?_
    refine g_goto hC dX5_cannotAppeal_53 57 (by decide) ?_
    exact g_zret hC hZ rfl dX5_cannotAppeal_57 ⟨_, _, rfl, rfl, h⟩
set_option maxRecDepth 100000 in
set_option maxHeartbeats 4000000 in
theorem jn_X5_cannotAppeal_15 {x : gX} {l : Launch} {g : gE} {a : Nat → Nat} {o0 : Off} {post : Int32 → Off → Prop} (hC : gC x l cX5_cannotAppeal 2 RX5 g 2 44 0 0) (hZ : gZ x g (some .boolean) (modW g a o0) (pI (modW g a) post) 0 0) : ∀ (o : Off) (x1 : Int32) (s0 : Int32) , wj_X5_cannotAppeal_15 post o x1 s0 → G x g 2 0 0 (modW g a o) 15 [(0, .ref (a 0)), (1, .int x1)] [.int s0, .ref (a 0)] := by
  intro o x1 s0 h
  rw [wj_X5_cannotAppeal_15] at h
  refine g_iconst hC (4 : Int32) dX5_cannotAppeal_15 16 rfl iconst_4 ?_
  refine g_iload_n hC dX5_cannotAppeal_16 17 rfl rfl 1 rfl ?_
  refine g_ownI hC (ct_X5_notes l g a o s0 (4 : Int32) x1 _ h) gY_X5_notes dX5_cannotAppeal_17 20 rfl ml_X5_121 [] rfl rfl rfl 0 9 rfl rfl ⟨Nat.le_of_ble_eq_true rfl, Nat.le_of_ble_eq_true rfl⟩ (Nat.le_of_ble_eq_true rfl) ⟨Nat.le_refl _, Nat.le_refl _⟩ (fun v3 o2 h => ?_)
  refine g_if_ne hC dX5_cannotAppeal_20 52 (by decide) 23 rfl (fun c => ?_) (fun c => ?_)
  · have h := h.1 c
    refine g_iconst hC (1 : Int32) dX5_cannotAppeal_52 53 rfl iconst_1 ?_
    refine g_goto hC dX5_cannotAppeal_53 57 (by decide) ?_
    exact g_zret hC hZ rfl dX5_cannotAppeal_57 ⟨_, _, rfl, rfl, h⟩
  · have h := h.2 c
    refine g_aload_n hC dX5_cannotAppeal_23 24 rfl rfl 0 rfl ?_
    refine g_aload_n hC dX5_cannotAppeal_24 25 rfl rfl 0 rfl ?_
    refine g_iload_n hC dX5_cannotAppeal_25 26 rfl rfl 1 rfl ?_
    refine g_iconst hC (4 : Int32) dX5_cannotAppeal_26 27 rfl iconst_4 ?_
    refine g_readV hC (ct_X5_s l g a o2 x1 (4 : Int32) _ h) gY_X5_s dX5_cannotAppeal_27 30 rfl ml_X5_96 [] [] (by simp only [List.nil_append, List.append_nil]) [.ref (a 0)] rfl rfl rfl 0 9 rfl rfl ⟨Nat.le_of_ble_eq_true rfl, Nat.le_of_ble_eq_true rfl⟩ (Nat.le_of_ble_eq_true rfl) ⟨Nat.le_refl _, Nat.le_refl _⟩ (fun v4 h => ?_)
    refine g_iconst hC (3 : Int32) dX5_cannotAppeal_30 31 rfl iconst_3 ?_
    refine g_icmp_ne hC dX5_cannotAppeal_31 38 (by decide) 34 rfl (fun c => ?_) (fun c => ?_)
    · have h := h.1 c
      refine g_iconst hC (0 : Int32) dX5_cannotAppeal_38 39 rfl iconst_0 ?_
      exact jn_X5_cannotAppeal_39 hC hZ o2 x1 (0 : Int32) h
    · have h := h.2 c
      refine g_iconst hC (1 : Int32) dX5_cannotAppeal_34 35 rfl iconst_1 ?_
      refine g_goto hC dX5_cannotAppeal_35 39 (by decide) ?_
      exact jn_X5_cannotAppeal_39 hC hZ o2 x1 (1 : Int32) h
set_option maxRecDepth 100000 in
set_option maxHeartbeats 4000000 in
theorem ct_X5_cannotAppeal (l : Launch) (g : gE) (a : Nat → Nat) (o : Off) (p0 : Int32) (post : Int32 → Off → Prop) (h : wp_X5_cannotAppeal post o p0) : Fn l g yX5_cannotAppeal cX5_cannotAppeal 2 (some .boolean) 2 44 0 0 (modW g a o) [.ref (a 0), .int p0] (pI (modW g a) post) := by
  refine Fn.of (by decide) (Nat.le_of_ble_eq_true rfl) (fun x hC hZ => ?_)
  rw [wp_X5_cannotAppeal] at h
  show G x g 2 0 0 (modW g a o) 0 [(0, .ref (a 0)), (1, .int p0)] []
  refine g_aload_n hC dX5_cannotAppeal_0 1 rfl rfl 0 rfl ?_
  refine g_aload_n hC dX5_cannotAppeal_1 2 rfl rfl 0 rfl ?_
  refine g_iload_n hC dX5_cannotAppeal_2 3 rfl rfl 1 rfl ?_
  refine g_iconst hC (2 : Int32) dX5_cannotAppeal_3 4 rfl iconst_2 ?_
  refine g_readV hC (ct_X5_is l g a o p0 (2 : Int32) _ h) gY_X5_is dX5_cannotAppeal_4 7 rfl ml_X5_100 [] [] (by simp only [List.nil_append, List.append_nil]) [.ref (a 0)] rfl rfl rfl 0 9 rfl rfl ⟨Nat.le_of_ble_eq_true rfl, Nat.le_of_ble_eq_true rfl⟩ (Nat.le_of_ble_eq_true rfl) ⟨Nat.le_refl _, Nat.le_refl _⟩ (fun v1 h => ?_)
  refine g_if_ne hC dX5_cannotAppeal_7 14 (by decide) 10 rfl (fun c => ?_) (fun c => ?_)
  · have h := h.1 c
    refine g_iconst hC (0 : Int32) dX5_cannotAppeal_14 15 rfl iconst_0 ?_
    exact jn_X5_cannotAppeal_15 hC hZ o p0 (0 : Int32) h
  · have h := h.2 c
    refine g_iconst hC (1 : Int32) dX5_cannotAppeal_10 11 rfl iconst_1 ?_
    refine g_goto hC dX5_cannotAppeal_11 15 (by decide) ?_
    exact jn_X5_cannotAppeal_15 hC hZ o p0 (1 : Int32) h
def wp_X5_appeals (post : Int32 → Off → Prop) (o : Off) (p0 : Int32) : Prop := wp_X5_set (fun o1 => wp_X5_s (fun v2 => wp_X5_set (fun o3 => (vp_in (1 : Int32) 160 ∧ wp_X5_set (fun o4 => wp_X5_s (fun v5 => post v5 o4) o4 p0 (4 : Int32)) o3 p0 (5 : Int32) (o3 1 (1 : Int32).toNatClampNeg))) o1 p0 (4 : Int32) (v2 + (1 : Int32))) o1 p0 (4 : Int32)) o p0 (2 : Int32) (1 : Int32)
set_option maxRecDepth 100000 in
set_option maxHeartbeats 4000000 in
theorem ct_X5_appeals (l : Launch) (g : gE) (a : Nat → Nat) (o : Off) (p0 : Int32) (post : Int32 → Off → Prop) (h : wp_X5_appeals post o p0) : Fn l g yX5_appeals cX5_appeals 2 (some .int) 1 23 0 0 (modW g a o) [.ref (a 0), .int p0] (pI (modW g a) post) := by
  refine Fn.of (by decide) (Nat.le_of_ble_eq_true rfl) (fun x hC hZ => ?_)
  rw [wp_X5_appeals] at h
  show G x g 2 0 0 (modW g a o) 0 [(0, .ref (a 0)), (1, .int p0)] []
  refine g_aload_n hC dX5_appeals_0 1 rfl rfl 0 rfl ?_
  refine g_iload_n hC dX5_appeals_1 2 rfl rfl 1 rfl ?_
  refine g_iconst hC (2 : Int32) dX5_appeals_2 3 rfl iconst_2 ?_
  refine g_iconst hC (1 : Int32) dX5_appeals_3 4 rfl iconst_1 ?_
  refine g_ownV hC (ct_X5_set l g a o p0 (2 : Int32) (1 : Int32) _ h) gY_X5_set dX5_appeals_4 7 rfl ml_X5_117 [] rfl rfl rfl 0 9 rfl rfl ⟨Nat.le_of_ble_eq_true rfl, Nat.le_of_ble_eq_true rfl⟩ (Nat.le_of_ble_eq_true rfl) ⟨Nat.le_refl _, Nat.le_refl _⟩ (fun o1 h => ?_)
  refine g_aload_n hC dX5_appeals_7 8 rfl rfl 0 rfl ?_
  refine g_iload_n hC dX5_appeals_8 9 rfl rfl 1 rfl ?_
  refine g_iconst hC (4 : Int32) dX5_appeals_9 10 rfl iconst_4 ?_
  refine g_aload_n hC dX5_appeals_10 11 rfl rfl 0 rfl ?_
  refine g_iload_n hC dX5_appeals_11 12 rfl rfl 1 rfl ?_
  refine g_iconst hC (4 : Int32) dX5_appeals_12 13 rfl iconst_4 ?_
  refine g_readV hC (ct_X5_s l g a o1 p0 (4 : Int32) _ h) gY_X5_s dX5_appeals_13 16 rfl ml_X5_96 [] [] (by simp only [List.nil_append, List.append_nil]) [.int (4 : Int32), .int p0, .ref (a 0)] rfl rfl rfl 0 9 rfl rfl ⟨Nat.le_of_ble_eq_true rfl, Nat.le_of_ble_eq_true rfl⟩ (Nat.le_of_ble_eq_true rfl) ⟨Nat.le_refl _, Nat.le_refl _⟩ (fun v2 h => ?_)
  refine g_iconst hC (1 : Int32) dX5_appeals_16 17 rfl iconst_1 ?_
  refine g_iadd hC dX5_appeals_17 18 rfl ?_
  refine g_ownV hC (ct_X5_set l g a o1 p0 (4 : Int32) (v2 + (1 : Int32)) _ h) gY_X5_set dX5_appeals_18 21 rfl ml_X5_117 [] rfl rfl rfl 0 9 rfl rfl ⟨Nat.le_of_ble_eq_true rfl, Nat.le_of_ble_eq_true rfl⟩ (Nat.le_of_ble_eq_true rfl) ⟨Nat.le_refl _, Nat.le_refl _⟩ (fun o3 h => ?_)
  refine g_aload_n hC dX5_appeals_21 22 rfl rfl 0 rfl ?_
  refine g_iload_n hC dX5_appeals_22 23 rfl rfl 1 rfl ?_
  refine g_iconst hC (5 : Int32) dX5_appeals_23 24 rfl iconst_5 ?_
  refine g_aload_n hC dX5_appeals_24 25 rfl rfl 0 rfl ?_
  refine g_get hC fl_X5_7 dX5_appeals_25 28 rfl 0 rfl rfl ?_
  refine g_iconst hC (1 : Int32) dX5_appeals_28 29 rfl iconst_1 ?_
  obtain ⟨hi, h⟩ := h
  refine g_iald hC dX5_appeals_29 30 rfl 1 rfl hi ?_
  refine g_ownV hC (ct_X5_set l g a o3 p0 (5 : Int32) (o3 1 (1 : Int32).toNatClampNeg) _ h) gY_X5_set dX5_appeals_30 33 rfl ml_X5_117 [] rfl rfl rfl 0 9 rfl rfl ⟨Nat.le_of_ble_eq_true rfl, Nat.le_of_ble_eq_true rfl⟩ (Nat.le_of_ble_eq_true rfl) ⟨Nat.le_refl _, Nat.le_refl _⟩ (fun o4 h => ?_)
  refine g_aload_n hC dX5_appeals_33 34 rfl rfl 0 rfl ?_
  refine g_iload_n hC dX5_appeals_34 35 rfl rfl 1 rfl ?_
  refine g_iconst hC (4 : Int32) dX5_appeals_35 36 rfl iconst_4 ?_
  refine g_readV hC (ct_X5_s l g a o4 p0 (4 : Int32) _ h) gY_X5_s dX5_appeals_36 39 rfl ml_X5_96 [] [] (by simp only [List.nil_append, List.append_nil]) [] rfl rfl rfl 0 9 rfl rfl ⟨Nat.le_of_ble_eq_true rfl, Nat.le_of_ble_eq_true rfl⟩ (Nat.le_of_ble_eq_true rfl) ⟨Nat.le_refl _, Nat.le_refl _⟩ (fun v5 h => ?_)
  exact g_iret hC hZ dX5_appeals_39 ⟨_, _, rfl, rfl, h⟩
def wp_X5_appeal (post : Int32 → Off → Prop) (o : Off) (p0 : Int32) : Prop := wp_X5_begin (fun o1 => wp_X5_isSock (fun v2 => ((¬ v2 = 0 → wp_X5_cannotAppeal (fun v4 o3 => ((v4 = 0 → wp_X5_appeals (fun v6 o5 => wp_X5_commit (fun v8 o7 => post v8 o7) o5 v6) o3 p0) ∧ (¬ v4 = 0 → wp_X5_reject (fun v10 o9 => post v10 o9) o3 (2 : Int32)))) o1 p0) ∧ (v2 = 0 → wp_X5_fail (fun v12 o11 => post v12 o11) o1 (1 : Int32)))) o1 p0) o 
set_option maxRecDepth 100000 in
set_option maxHeartbeats 4000000 in
theorem ct_X5_appeal (l : Launch) (g : gE) (a : Nat → Nat) (o : Off) (p0 : Int32) (post : Int32 → Off → Prop) (h : wp_X5_appeal post o p0) : Fn l g yX5_appeal cX5_appeal 2 (some .int) 3 65 0 0 (modW g a o) [.ref (a 0), .int p0] (pI (modW g a) post) := by
  refine Fn.of (by decide) (Nat.le_of_ble_eq_true rfl) (fun x hC hZ => ?_)
  rw [wp_X5_appeal] at h
  show G x g 2 0 0 (modW g a o) 0 [(0, .ref (a 0)), (1, .int p0)] []
  refine g_aload_n hC dX5_appeal_0 1 rfl rfl 0 rfl ?_
  refine g_ownV hC (ct_X5_begin l g a o  _ h) gY_X5_begin dX5_appeal_1 4 rfl ml_X5_129 [] rfl rfl rfl 0 9 rfl rfl ⟨Nat.le_of_ble_eq_true rfl, Nat.le_of_ble_eq_true rfl⟩ (Nat.le_of_ble_eq_true rfl) ⟨Nat.le_refl _, Nat.le_refl _⟩ (fun o1 h => ?_)
  refine g_aload_n hC dX5_appeal_4 5 rfl rfl 0 rfl ?_
  refine g_iload_n hC dX5_appeal_5 6 rfl rfl 1 rfl ?_
  refine g_readV hC (ct_X5_isSock l g a o1 p0 _ h) gY_X5_isSock dX5_appeal_6 9 rfl ml_X5_151 [] [] (by simp only [List.nil_append, List.append_nil]) [] rfl rfl rfl 0 9 rfl rfl ⟨Nat.le_of_ble_eq_true rfl, Nat.le_of_ble_eq_true rfl⟩ (Nat.le_of_ble_eq_true rfl) ⟨Nat.le_refl _, Nat.le_refl _⟩ (fun v2 h => ?_)
  refine g_if_ne hC dX5_appeal_9 18 (by decide) 12 rfl (fun c => ?_) (fun c => ?_)
  · have h := h.1 c
    refine g_aload_n hC dX5_appeal_18 19 rfl rfl 0 rfl ?_
    refine g_iload_n hC dX5_appeal_19 20 rfl rfl 1 rfl ?_
    refine g_ownI hC (ct_X5_cannotAppeal l g a o1 p0 _ h) gY_X5_cannotAppeal dX5_appeal_20 23 rfl ml_X5_183 [] rfl rfl rfl 0 9 rfl rfl ⟨Nat.le_of_ble_eq_true rfl, Nat.le_of_ble_eq_true rfl⟩ (Nat.le_of_ble_eq_true rfl) ⟨Nat.le_refl _, Nat.le_refl _⟩ (fun v4 o3 h => ?_)
    refine g_if_eq hC dX5_appeal_23 34 (by decide) 26 rfl (fun c => ?_) (fun c => ?_)
    · have h := h.1 c
      refine g_aload_n hC dX5_appeal_34 35 rfl rfl 0 rfl ?_
      refine g_aload_n hC dX5_appeal_35 36 rfl rfl 0 rfl ?_
      refine g_iload_n hC dX5_appeal_36 37 rfl rfl 1 rfl ?_
      refine g_ownI hC (ct_X5_appeals l g a o3 p0 _ h) gY_X5_appeals dX5_appeal_37 40 rfl ml_X5_186 [.ref (a 0)] rfl rfl rfl 0 9 rfl rfl ⟨Nat.le_of_ble_eq_true rfl, Nat.le_of_ble_eq_true rfl⟩ (Nat.le_of_ble_eq_true rfl) ⟨Nat.le_refl _, Nat.le_refl _⟩ (fun v6 o5 h => ?_)
      refine g_ownI hC (ct_X5_commit l g a o5 v6 _ h) gY_X5_commit dX5_appeal_40 43 rfl ml_X5_145 [] rfl rfl rfl 0 9 rfl rfl ⟨Nat.le_of_ble_eq_true rfl, Nat.le_of_ble_eq_true rfl⟩ (Nat.le_of_ble_eq_true rfl) ⟨Nat.le_refl _, Nat.le_refl _⟩ (fun v8 o7 h => ?_)
      exact g_iret hC hZ dX5_appeal_43 ⟨_, _, rfl, rfl, h⟩
    · have h := h.2 c
      refine g_aload_n hC dX5_appeal_26 27 rfl rfl 0 rfl ?_
      refine g_iconst hC (2 : Int32) dX5_appeal_27 28 rfl iconst_2 ?_
      refine g_ownI hC (ct_X5_reject l g a o3 (2 : Int32) _ h) gY_X5_reject dX5_appeal_28 31 rfl ml_X5_139 [] rfl rfl rfl 0 9 rfl rfl ⟨Nat.le_of_ble_eq_true rfl, Nat.le_of_ble_eq_true rfl⟩ (Nat.le_of_ble_eq_true rfl) ⟨Nat.le_refl _, Nat.le_refl _⟩ (fun v10 o9 h => ?_)
      refine g_goto hC dX5_appeal_31 43 (by decide) ?_
      exact g_iret hC hZ dX5_appeal_43 ⟨_, _, rfl, rfl, h⟩
  · have h := h.2 c
    refine g_aload_n hC dX5_appeal_12 13 rfl rfl 0 rfl ?_
    refine g_iconst hC (1 : Int32) dX5_appeal_13 14 rfl iconst_1 ?_
    refine g_ownI hC (ct_X5_fail l g a o1 (1 : Int32) _ h) gY_X5_fail dX5_appeal_14 17 rfl ml_X5_88 [] rfl rfl rfl 0 9 rfl rfl ⟨Nat.le_of_ble_eq_true rfl, Nat.le_of_ble_eq_true rfl⟩ (Nat.le_of_ble_eq_true rfl) ⟨Nat.le_refl _, Nat.le_refl _⟩ (fun v12 o11 h => ?_)
    exact g_iret hC hZ dX5_appeal_17 ⟨_, _, rfl, rfl, h⟩
def wp_X5_isSooner (post : Int32 → Prop) (o : Off) (p0 : Int32) (p1 : Int32) : Prop := wp_X5_s (fun v1 => wp_X5_s (fun v2 => ((v1 = v2 → wp_X5_s (fun v3 => wp_X5_s (fun v4 => ((v3 < v4 → post (1 : Int32)) ∧ (¬ v3 < v4 → wp_X5_s (fun v5 => wp_X5_s (fun v6 => ((¬ v5 = v6 → post (0 : Int32)) ∧ (v5 = v6 → ((p1 ≤ p0 → post (0 : Int32)) ∧ (¬ p1 ≤ p0 → post (1 : Int32)))))) o p1 (5 : Int32)) o p0 (5 : Int32)))) o p1 (5 : Int32)) o p0 (5 : Int32)) ∧ (¬ v1 = v2 → wp_X5_s (fun v7 => wp_X5_s (fun v8 => ((v7 ≤ v8 → post (0 : Int32)) ∧ (¬ v7 ≤ v8 → post (1 : Int32)))) o p1 (4 : Int32)) o p0 (4 : Int32)))) o p1 (4 : Int32)) o p0 (4 : Int32)
set_option maxRecDepth 100000 in
set_option maxHeartbeats 4000000 in
theorem ct_X5_isSooner (l : Launch) (g : gE) (a : Nat → Nat) (o : Off) (p0 : Int32) (p1 : Int32) (post : Int32 → Prop) (h : wp_X5_isSooner post o p0 p1) : Fn l g yX5_isSooner cX5_isSooner 3 (some .boolean) 1 22 0 0 (modW g a o) [.ref (a 0), .int p0, .int p1] (pR (modW g a o) post) := by
  refine Fn.of (by decide) (Nat.le_of_ble_eq_true rfl) (fun x hC hZ => ?_)
  rw [wp_X5_isSooner] at h
  show G x g 3 0 0 (modW g a o) 0 [(0, .ref (a 0)), (1, .int p0), (2, .int p1)] []
  refine g_aload_n hC dX5_isSooner_0 1 rfl rfl 0 rfl ?_
  refine g_iload_n hC dX5_isSooner_1 2 rfl rfl 1 rfl ?_
  refine g_iconst hC (4 : Int32) dX5_isSooner_2 3 rfl iconst_4 ?_
  refine g_readV hC (ct_X5_s l g a o p0 (4 : Int32) _ h) gY_X5_s dX5_isSooner_3 6 rfl ml_X5_96 [] [] (by simp only [List.nil_append, List.append_nil]) [] rfl rfl rfl 0 9 rfl rfl ⟨Nat.le_of_ble_eq_true rfl, Nat.le_of_ble_eq_true rfl⟩ (Nat.le_of_ble_eq_true rfl) ⟨Nat.le_refl _, Nat.le_refl _⟩ (fun v1 h => ?_)
  refine g_aload_n hC dX5_isSooner_6 7 rfl rfl 0 rfl ?_
  refine g_iload_n hC dX5_isSooner_7 8 rfl rfl 2 rfl ?_
  refine g_iconst hC (4 : Int32) dX5_isSooner_8 9 rfl iconst_4 ?_
  refine g_readV hC (ct_X5_s l g a o p1 (4 : Int32) _ h) gY_X5_s dX5_isSooner_9 12 rfl ml_X5_96 [] [] (by simp only [List.nil_append, List.append_nil]) [.int v1] rfl rfl rfl 0 9 rfl rfl ⟨Nat.le_of_ble_eq_true rfl, Nat.le_of_ble_eq_true rfl⟩ (Nat.le_of_ble_eq_true rfl) ⟨Nat.le_refl _, Nat.le_refl _⟩ (fun v2 h => ?_)
  refine g_icmp_eq hC dX5_isSooner_12 36 (by decide) 15 rfl (fun c => ?_) (fun c => ?_)
  · have h := h.1 c
    refine g_aload_n hC dX5_isSooner_36 37 rfl rfl 0 rfl ?_
    refine g_iload_n hC dX5_isSooner_37 38 rfl rfl 1 rfl ?_
    refine g_iconst hC (5 : Int32) dX5_isSooner_38 39 rfl iconst_5 ?_
    refine g_readV hC (ct_X5_s l g a o p0 (5 : Int32) _ h) gY_X5_s dX5_isSooner_39 42 rfl ml_X5_96 [] [] (by simp only [List.nil_append, List.append_nil]) [] rfl rfl rfl 0 9 rfl rfl ⟨Nat.le_of_ble_eq_true rfl, Nat.le_of_ble_eq_true rfl⟩ (Nat.le_of_ble_eq_true rfl) ⟨Nat.le_refl _, Nat.le_refl _⟩ (fun v3 h => ?_)
    refine g_aload_n hC dX5_isSooner_42 43 rfl rfl 0 rfl ?_
    refine g_iload_n hC dX5_isSooner_43 44 rfl rfl 2 rfl ?_
    refine g_iconst hC (5 : Int32) dX5_isSooner_44 45 rfl iconst_5 ?_
    refine g_readV hC (ct_X5_s l g a o p1 (5 : Int32) _ h) gY_X5_s dX5_isSooner_45 48 rfl ml_X5_96 [] [] (by simp only [List.nil_append, List.append_nil]) [.int v3] rfl rfl rfl 0 9 rfl rfl ⟨Nat.le_of_ble_eq_true rfl, Nat.le_of_ble_eq_true rfl⟩ (Nat.le_of_ble_eq_true rfl) ⟨Nat.le_refl _, Nat.le_refl _⟩ (fun v4 h => ?_)
    refine g_icmp_lt hC dX5_isSooner_48 71 (by decide) 51 rfl (fun c => ?_) (fun c => ?_)
    · have h := h.1 c
      refine g_iconst hC (1 : Int32) dX5_isSooner_71 72 rfl iconst_1 ?_
      refine g_goto hC dX5_isSooner_72 76 (by decide) ?_
      exact g_zret hC hZ rfl dX5_isSooner_76 ⟨_, rfl, rfl, h⟩
    · have h := h.2 c
      refine g_aload_n hC dX5_isSooner_51 52 rfl rfl 0 rfl ?_
      refine g_iload_n hC dX5_isSooner_52 53 rfl rfl 1 rfl ?_
      refine g_iconst hC (5 : Int32) dX5_isSooner_53 54 rfl iconst_5 ?_
      refine g_readV hC (ct_X5_s l g a o p0 (5 : Int32) _ h) gY_X5_s dX5_isSooner_54 57 rfl ml_X5_96 [] [] (by simp only [List.nil_append, List.append_nil]) [] rfl rfl rfl 0 9 rfl rfl ⟨Nat.le_of_ble_eq_true rfl, Nat.le_of_ble_eq_true rfl⟩ (Nat.le_of_ble_eq_true rfl) ⟨Nat.le_refl _, Nat.le_refl _⟩ (fun v5 h => ?_)
      refine g_aload_n hC dX5_isSooner_57 58 rfl rfl 0 rfl ?_
      refine g_iload_n hC dX5_isSooner_58 59 rfl rfl 2 rfl ?_
      refine g_iconst hC (5 : Int32) dX5_isSooner_59 60 rfl iconst_5 ?_
      refine g_readV hC (ct_X5_s l g a o p1 (5 : Int32) _ h) gY_X5_s dX5_isSooner_60 63 rfl ml_X5_96 [] [] (by simp only [List.nil_append, List.append_nil]) [.int v5] rfl rfl rfl 0 9 rfl rfl ⟨Nat.le_of_ble_eq_true rfl, Nat.le_of_ble_eq_true rfl⟩ (Nat.le_of_ble_eq_true rfl) ⟨Nat.le_refl _, Nat.le_refl _⟩ (fun v6 h => ?_)
      refine g_icmp_ne hC dX5_isSooner_63 75 (by decide) 66 rfl (fun c => ?_) (fun c => ?_)
      · have h := h.1 c
        refine g_iconst hC (0 : Int32) dX5_isSooner_75 76 rfl iconst_0 ?_
        exact g_zret hC hZ rfl dX5_isSooner_76 ⟨_, rfl, rfl, h⟩
      · have h := h.2 c
        refine g_iload_n hC dX5_isSooner_66 67 rfl rfl 1 rfl ?_
        refine g_iload_n hC dX5_isSooner_67 68 rfl rfl 2 rfl ?_
        refine g_icmp_ge hC dX5_isSooner_68 75 (by decide) 71 rfl (fun c => ?_) (fun c => ?_)
        · have h := h.1 c
          refine g_iconst hC (0 : Int32) dX5_isSooner_75 76 rfl iconst_0 ?_
          exact g_zret hC hZ rfl dX5_isSooner_76 ⟨_, rfl, rfl, h⟩
        · have h := h.2 c
          refine g_iconst hC (1 : Int32) dX5_isSooner_71 72 rfl iconst_1 ?_
          refine g_goto hC dX5_isSooner_72 76 (by decide) ?_
          exact g_zret hC hZ rfl dX5_isSooner_76 ⟨_, rfl, rfl, h⟩
  · have h := h.2 c
    refine g_aload_n hC dX5_isSooner_15 16 rfl rfl 0 rfl ?_
    refine g_iload_n hC dX5_isSooner_16 17 rfl rfl 1 rfl ?_
    refine g_iconst hC (4 : Int32) dX5_isSooner_17 18 rfl iconst_4 ?_
    refine g_readV hC (ct_X5_s l g a o p0 (4 : Int32) _ h) gY_X5_s dX5_isSooner_18 21 rfl ml_X5_96 [] [] (by simp only [List.nil_append, List.append_nil]) [] rfl rfl rfl 0 9 rfl rfl ⟨Nat.le_of_ble_eq_true rfl, Nat.le_of_ble_eq_true rfl⟩ (Nat.le_of_ble_eq_true rfl) ⟨Nat.le_refl _, Nat.le_refl _⟩ (fun v7 h => ?_)
    refine g_aload_n hC dX5_isSooner_21 22 rfl rfl 0 rfl ?_
    refine g_iload_n hC dX5_isSooner_22 23 rfl rfl 2 rfl ?_
    refine g_iconst hC (4 : Int32) dX5_isSooner_23 24 rfl iconst_4 ?_
    refine g_readV hC (ct_X5_s l g a o p1 (4 : Int32) _ h) gY_X5_s dX5_isSooner_24 27 rfl ml_X5_96 [] [] (by simp only [List.nil_append, List.append_nil]) [.int v7] rfl rfl rfl 0 9 rfl rfl ⟨Nat.le_of_ble_eq_true rfl, Nat.le_of_ble_eq_true rfl⟩ (Nat.le_of_ble_eq_true rfl) ⟨Nat.le_refl _, Nat.le_refl _⟩ (fun v8 h => ?_)
    refine g_icmp_le hC dX5_isSooner_27 34 (by decide) 30 rfl (fun c => ?_) (fun c => ?_)
    · have h := h.1 c
      refine g_iconst hC (0 : Int32) dX5_isSooner_34 35 rfl iconst_0 ?_
      exact g_zret hC hZ rfl dX5_isSooner_35 ⟨_, rfl, rfl, h⟩
    · have h := h.2 c
      refine g_iconst hC (1 : Int32) dX5_isSooner_30 31 rfl iconst_1 ?_
      refine g_goto hC dX5_isSooner_31 35 (by decide) ?_
      exact g_zret hC hZ rfl dX5_isSooner_35 ⟨_, rfl, rfl, h⟩
def wl_X5_inQueue_30 (post : Int32 → Prop) (o : Off) (K2 : Int32 → Int32 → Int32 → Prop) : Nat → Int32 → Int32 → Int32 → Int32 → Int32 → Prop
  | 0, _, _, _, _, _ => False
  | n + 1, x1, x2, x3, x4, x5 => (vp_in (0 : Int32) 160 ∧ (((o 1 (0 : Int32).toNatClampNeg) ≤ x5 → ((¬ x4 = x2 → (∀ v2 : Int32, v2 = x3 + (1 : Int32) → K2 x1 x2 v2)) ∧ (x4 = x2 → post x3))) ∧ (¬ (o 1 (0 : Int32).toNatClampNeg) ≤ x5 → wp_X5_asksFor (fun v3 => ((v3 = 0 → (∀ v4 : Int32, v4 = (x4 + (0 : Int32)) → (∀ v5 : Int32, v5 = x5 + (1 : Int32) → wl_X5_inQueue_30 post o K2 n x1 x2 x3 v4 v5))) ∧ (¬ v3 = 0 → wp_X5_isSooner (fun v6 => ((v6 = 0 → (∀ v7 : Int32, v7 = (x4 + (0 : Int32)) → (∀ v8 : Int32, v8 = x5 + (1 : Int32) → wl_X5_inQueue_30 post o K2 n x1 x2 x3 v7 v8))) ∧ (¬ v6 = 0 → (∀ v9 : Int32, v9 = (x4 + (1 : Int32)) → (∀ v10 : Int32, v10 = x5 + (1 : Int32) → wl_X5_inQueue_30 post o K2 n x1 x2 x3 v9 v10))))) o x5 x3))) o x5 x1)))
def wl_X5_inQueue_2 (post : Int32 → Prop) (o : Off) : Nat → Int32 → Int32 → Int32 → Prop
  | 0, _, _, _ => False
  | n + 1, x1, x2, x3 => (vp_in (0 : Int32) 160 ∧ (((o 1 (0 : Int32).toNatClampNeg) ≤ x3 → post (-1 : Int32)) ∧ (¬ (o 1 (0 : Int32).toNatClampNeg) ≤ x3 → wp_X5_asksFor (fun v1 => ((¬ v1 = 0 → (∃ m : Nat, wl_X5_inQueue_30 post o (fun x1 x2 x3 => wl_X5_inQueue_2 post o n x1 x2 x3) m x1 x2 x3 (0 : Int32) (0 : Int32))) ∧ (v1 = 0 → (∀ v11 : Int32, v11 = x3 + (1 : Int32) → wl_X5_inQueue_2 post o n x1 x2 v11)))) o x3 x1)))
def wp_X5_inQueue (post : Int32 → Prop) (o : Off) (p0 : Int32) (p1 : Int32) : Prop := (∃ m : Nat, wl_X5_inQueue_2 post o m p0 p1 (0 : Int32))
set_option maxRecDepth 100000 in
set_option maxHeartbeats 4000000 in
theorem lp_X5_inQueue_30 {x : gX} {l : Launch} {g : gE} {a : Nat → Nat} {o : Off} {post : Int32 → Prop} (hC : gC x l cX5_inQueue 6 RX5 g 3 66 0 0) (hZ : gZ x g (some .int) (modW g a o) (pR (modW g a o) post) 0 0) {K2 : Int32 → Int32 → Int32 → Prop} (hK2 : ∀ (x1 : Int32) (x2 : Int32) (x3 : Int32) , K2 x1 x2 x3 → G x g 6 0 0 (modW g a o) 2 [(0, .ref (a 0)), (1, .int x1), (2, .int x2), (3, .int x3)] []) : ∀ (n : Nat) (x1 : Int32) (x2 : Int32) (x3 : Int32) (x4 : Int32) (x5 : Int32) , wl_X5_inQueue_30 post o K2 n x1 x2 x3 x4 x5 → G x g 6 0 0 (modW g a o) 30 [(0, .ref (a 0)), (1, .int x1), (2, .int x2), (3, .int x3), (4, .int x4), (5, .int x5)] [] := by
  intro n
  induction n with
  | zero =>
    intro x1 x2 x3 x4 x5 h
    exact h.elim
  | succ n ih =>
    intro x1 x2 x3 x4 x5 h
    rw [wl_X5_inQueue_30] at h
    refine g_iload hC dX5_inQueue_30 32 rfl 5 rfl ?_
    refine g_aload_n hC dX5_inQueue_32 33 rfl rfl 0 rfl ?_
    refine g_get hC fl_X5_7 dX5_inQueue_33 36 rfl 0 rfl rfl ?_
    refine g_iconst hC (0 : Int32) dX5_inQueue_36 37 rfl iconst_0 ?_
    obtain ⟨hi, h⟩ := h
    refine g_iald hC dX5_inQueue_37 38 rfl 1 rfl hi ?_
    refine g_icmp_ge hC dX5_inQueue_38 77 (by decide) 41 rfl (fun c => ?_) (fun c => ?_)
    · have h := h.1 c
      refine g_iload hC dX5_inQueue_77 79 rfl 4 rfl ?_
      refine g_iload_n hC dX5_inQueue_79 80 rfl rfl 2 rfl ?_
      refine g_icmp_ne hC dX5_inQueue_80 85 (by decide) 83 rfl (fun c => ?_) (fun c => ?_)
      · have h := h.1 c
        obtain ⟨v2, ev2⟩ : ∃ y : Int32, y = x3 + (1 : Int32) := ⟨_, rfl⟩
        have h := h v2 ev2
        refine g_iinc (v2 := v2) (lv2 := [(3, .int v2), (0, .ref (a 0)), (1, .int x1), (2, .int x2), (4, .int x4), (5, .int x5)]) hC dX5_inQueue_85 88 rfl 3 rfl (by rw [iconst_1, ev2]) (by decide) rfl ?_
        refine g_goto hC dX5_inQueue_88 2 (by decide) ?_
        refine g_lv (lv2 := [(0, .ref (a 0)), (1, .int x1), (2, .int x2), (3, .int v2)]) [1, 2, 3, 0] rfl ?_
        exact hK2 x1 x2 v2 h
      · have h := h.2 c
        refine g_iload_n hC dX5_inQueue_83 84 rfl rfl 3 rfl ?_
        exact g_iret hC hZ dX5_inQueue_84 ⟨_, rfl, rfl, h⟩
    · have h := h.2 c
      refine g_iload hC dX5_inQueue_41 43 rfl 4 rfl ?_
      refine g_aload_n hC dX5_inQueue_43 44 rfl rfl 0 rfl ?_
      refine g_iload hC dX5_inQueue_44 46 rfl 5 rfl ?_
      refine g_iload_n hC dX5_inQueue_46 47 rfl rfl 1 rfl ?_
      refine g_readV hC (ct_X5_asksFor l g a o x5 x1 _ h) gY_X5_asksFor dX5_inQueue_47 50 rfl ml_X5_107 [] [] (by simp only [List.nil_append, List.append_nil]) [.int x4] rfl rfl rfl 0 9 rfl rfl ⟨Nat.le_of_ble_eq_true rfl, Nat.le_of_ble_eq_true rfl⟩ (Nat.le_of_ble_eq_true rfl) ⟨Nat.le_refl _, Nat.le_refl _⟩ (fun v3 h => ?_)
      refine g_if_eq hC dX5_inQueue_50 67 (by decide) 53 rfl (fun c => ?_) (fun c => ?_)
      · have h := h.1 c
        refine g_iconst hC (0 : Int32) dX5_inQueue_67 68 rfl iconst_0 ?_
        refine g_iadd hC dX5_inQueue_68 69 rfl ?_
        refine g_topi (fun v4 ev4 => ?_)
        have h := h v4 ev4
        refine g_istore (lv2 := [(4, .int v4), (0, .ref (a 0)), (1, .int x1), (2, .int x2), (3, .int x3), (5, .int x5)]) hC dX5_inQueue_69 71 rfl (by decide) rfl ?_
        obtain ⟨v5, ev5⟩ : ∃ y : Int32, y = x5 + (1 : Int32) := ⟨_, rfl⟩
        have h := h v5 ev5
        refine g_iinc (v2 := v5) (lv2 := [(5, .int v5), (4, .int v4), (0, .ref (a 0)), (1, .int x1), (2, .int x2), (3, .int x3)]) hC dX5_inQueue_71 74 rfl 5 rfl (by rw [iconst_1, ev5]) (by decide) rfl ?_
        refine g_goto hC dX5_inQueue_74 30 (by decide) ?_
        refine g_lv (lv2 := [(0, .ref (a 0)), (1, .int x1), (2, .int x2), (3, .int x3), (4, .int v4), (5, .int v5)]) [2, 3, 4, 5, 1, 0] rfl ?_
        exact ih x1 x2 x3 v4 v5 h
      · have h := h.2 c
        refine g_aload_n hC dX5_inQueue_53 54 rfl rfl 0 rfl ?_
        refine g_iload hC dX5_inQueue_54 56 rfl 5 rfl ?_
        refine g_iload_n hC dX5_inQueue_56 57 rfl rfl 3 rfl ?_
        refine g_readV hC (ct_X5_isSooner l g a o x5 x3 _ h) gY_X5_isSooner dX5_inQueue_57 60 rfl ml_X5_189 [] [] (by simp only [List.nil_append, List.append_nil]) [.int x4] rfl rfl rfl 0 9 rfl rfl ⟨Nat.le_of_ble_eq_true rfl, Nat.le_of_ble_eq_true rfl⟩ (Nat.le_of_ble_eq_true rfl) ⟨Nat.le_refl _, Nat.le_refl _⟩ (fun v6 h => ?_)
        refine g_if_eq hC dX5_inQueue_60 67 (by decide) 63 rfl (fun c => ?_) (fun c => ?_)
        · have h := h.1 c
          refine g_iconst hC (0 : Int32) dX5_inQueue_67 68 rfl iconst_0 ?_
          refine g_iadd hC dX5_inQueue_68 69 rfl ?_
          refine g_topi (fun v7 ev7 => ?_)
          have h := h v7 ev7
          refine g_istore (lv2 := [(4, .int v7), (0, .ref (a 0)), (1, .int x1), (2, .int x2), (3, .int x3), (5, .int x5)]) hC dX5_inQueue_69 71 rfl (by decide) rfl ?_
          obtain ⟨v8, ev8⟩ : ∃ y : Int32, y = x5 + (1 : Int32) := ⟨_, rfl⟩
          have h := h v8 ev8
          refine g_iinc (v2 := v8) (lv2 := [(5, .int v8), (4, .int v7), (0, .ref (a 0)), (1, .int x1), (2, .int x2), (3, .int x3)]) hC dX5_inQueue_71 74 rfl 5 rfl (by rw [iconst_1, ev8]) (by decide) rfl ?_
          refine g_goto hC dX5_inQueue_74 30 (by decide) ?_
          refine g_lv (lv2 := [(0, .ref (a 0)), (1, .int x1), (2, .int x2), (3, .int x3), (4, .int v7), (5, .int v8)]) [2, 3, 4, 5, 1, 0] rfl ?_
          exact ih x1 x2 x3 v7 v8 h
        · have h := h.2 c
          refine g_iconst hC (1 : Int32) dX5_inQueue_63 64 rfl iconst_1 ?_
          refine g_goto hC dX5_inQueue_64 68 (by decide) ?_
          refine g_iadd hC dX5_inQueue_68 69 rfl ?_
          refine g_topi (fun v9 ev9 => ?_)
          have h := h v9 ev9
          refine g_istore (lv2 := [(4, .int v9), (0, .ref (a 0)), (1, .int x1), (2, .int x2), (3, .int x3), (5, .int x5)]) hC dX5_inQueue_69 71 rfl (by decide) rfl ?_
          obtain ⟨v10, ev10⟩ : ∃ y : Int32, y = x5 + (1 : Int32) := ⟨_, rfl⟩
          have h := h v10 ev10
          refine g_iinc (v2 := v10) (lv2 := [(5, .int v10), (4, .int v9), (0, .ref (a 0)), (1, .int x1), (2, .int x2), (3, .int x3)]) hC dX5_inQueue_71 74 rfl 5 rfl (by rw [iconst_1, ev10]) (by decide) rfl ?_
          refine g_goto hC dX5_inQueue_74 30 (by decide) ?_
          refine g_lv (lv2 := [(0, .ref (a 0)), (1, .int x1), (2, .int x2), (3, .int x3), (4, .int v9), (5, .int v10)]) [2, 3, 4, 5, 1, 0] rfl ?_
          exact ih x1 x2 x3 v9 v10 h
set_option maxRecDepth 100000 in
set_option maxHeartbeats 4000000 in
theorem lp_X5_inQueue_2 {x : gX} {l : Launch} {g : gE} {a : Nat → Nat} {o : Off} {post : Int32 → Prop} (hC : gC x l cX5_inQueue 6 RX5 g 3 66 0 0) (hZ : gZ x g (some .int) (modW g a o) (pR (modW g a o) post) 0 0) : ∀ (n : Nat) (x1 : Int32) (x2 : Int32) (x3 : Int32) , wl_X5_inQueue_2 post o n x1 x2 x3 → G x g 6 0 0 (modW g a o) 2 [(0, .ref (a 0)), (1, .int x1), (2, .int x2), (3, .int x3)] [] := by
  intro n
  induction n with
  | zero =>
    intro x1 x2 x3 h
    exact h.elim
  | succ n ih =>
    intro x1 x2 x3 h
    rw [wl_X5_inQueue_2] at h
    refine g_iload_n hC dX5_inQueue_2 3 rfl rfl 3 rfl ?_
    refine g_aload_n hC dX5_inQueue_3 4 rfl rfl 0 rfl ?_
    refine g_get hC fl_X5_7 dX5_inQueue_4 7 rfl 0 rfl rfl ?_
    refine g_iconst hC (0 : Int32) dX5_inQueue_7 8 rfl iconst_0 ?_
    obtain ⟨hi, h⟩ := h
    refine g_iald hC dX5_inQueue_8 9 rfl 1 rfl hi ?_
    refine g_icmp_ge hC dX5_inQueue_9 91 (by decide) 12 rfl (fun c => ?_) (fun c => ?_)
    · have h := h.1 c
      refine g_iconst hC (-1 : Int32) dX5_inQueue_91 92 rfl iconst_m1 ?_
      exact g_iret hC hZ dX5_inQueue_92 ⟨_, rfl, rfl, h⟩
    · have h := h.2 c
      refine g_aload_n hC dX5_inQueue_12 13 rfl rfl 0 rfl ?_
      refine g_iload_n hC dX5_inQueue_13 14 rfl rfl 3 rfl ?_
      refine g_iload_n hC dX5_inQueue_14 15 rfl rfl 1 rfl ?_
      refine g_readV hC (ct_X5_asksFor l g a o x3 x1 _ h) gY_X5_asksFor dX5_inQueue_15 18 rfl ml_X5_107 [] [] (by simp only [List.nil_append, List.append_nil]) [] rfl rfl rfl 0 9 rfl rfl ⟨Nat.le_of_ble_eq_true rfl, Nat.le_of_ble_eq_true rfl⟩ (Nat.le_of_ble_eq_true rfl) ⟨Nat.le_refl _, Nat.le_refl _⟩ (fun v1 h => ?_)
      refine g_if_ne hC dX5_inQueue_18 24 (by decide) 21 rfl (fun c => ?_) (fun c => ?_)
      · have h := h.1 c
        refine g_iconst hC (0 : Int32) dX5_inQueue_24 25 rfl iconst_0 ?_
        refine g_istore (lv2 := [(4, .int (0 : Int32)), (0, .ref (a 0)), (1, .int x1), (2, .int x2), (3, .int x3)]) hC dX5_inQueue_25 27 rfl (by decide) rfl ?_
        refine g_iconst hC (0 : Int32) dX5_inQueue_27 28 rfl iconst_0 ?_
        refine g_istore (lv2 := [(5, .int (0 : Int32)), (4, .int (0 : Int32)), (0, .ref (a 0)), (1, .int x1), (2, .int x2), (3, .int x3)]) hC dX5_inQueue_28 30 rfl (by decide) rfl ?_
        refine g_lv (lv2 := [(0, .ref (a 0)), (1, .int x1), (2, .int x2), (3, .int x3), (4, .int (0 : Int32)), (5, .int (0 : Int32))]) [2, 3, 4, 5, 1, 0] rfl ?_
        obtain ⟨m, h⟩ := h
        exact lp_X5_inQueue_30 hC hZ ih m x1 x2 x3 (0 : Int32) (0 : Int32) h
      · have h := h.2 c
        refine g_goto hC dX5_inQueue_21 85 (by decide) ?_
        obtain ⟨v11, ev11⟩ : ∃ y : Int32, y = x3 + (1 : Int32) := ⟨_, rfl⟩
        have h := h v11 ev11
        refine g_iinc (v2 := v11) (lv2 := [(3, .int v11), (0, .ref (a 0)), (1, .int x1), (2, .int x2)]) hC dX5_inQueue_85 88 rfl 3 rfl (by rw [iconst_1, ev11]) (by decide) rfl ?_
        refine g_goto hC dX5_inQueue_88 2 (by decide) ?_
        refine g_lv (lv2 := [(0, .ref (a 0)), (1, .int x1), (2, .int x2), (3, .int v11)]) [1, 2, 3, 0] rfl ?_
        exact ih x1 x2 v11 h
set_option maxRecDepth 100000 in
set_option maxHeartbeats 4000000 in
theorem ct_X5_inQueue (l : Launch) (g : gE) (a : Nat → Nat) (o : Off) (p0 : Int32) (p1 : Int32) (post : Int32 → Prop) (h : wp_X5_inQueue post o p0 p1) : Fn l g yX5_inQueue cX5_inQueue 6 (some .int) 3 66 0 0 (modW g a o) [.ref (a 0), .int p0, .int p1] (pR (modW g a o) post) := by
  refine Fn.of (by decide) (Nat.le_of_ble_eq_true rfl) (fun x hC hZ => ?_)
  rw [wp_X5_inQueue] at h
  show G x g 6 0 0 (modW g a o) 0 [(0, .ref (a 0)), (1, .int p0), (2, .int p1)] []
  refine g_iconst hC (0 : Int32) dX5_inQueue_0 1 rfl iconst_0 ?_
  refine g_istore_n (lv2 := [(3, .int (0 : Int32)), (0, .ref (a 0)), (1, .int p0), (2, .int p1)]) hC dX5_inQueue_1 2 rfl rfl (by decide) rfl ?_
  refine g_lv (lv2 := [(0, .ref (a 0)), (1, .int p0), (2, .int p1), (3, .int (0 : Int32))]) [1, 2, 3, 0] rfl ?_
  obtain ⟨m, h⟩ := h
  exact lp_X5_inQueue_2 hC hZ m p0 p1 (0 : Int32) h
def wj_X5_decides_89 (post : Int32 → Off → Prop) (K2 : Off → Int32 → Int32 → Prop) (o : Off) (x1 : Int32) (x2 : Int32) (x3 : Int32) : Prop := wp_X5_set (fun o5 => (vp_in (3 : Int32) 160 ∧ (vp_in (3 : Int32) 160 ∧ (∀ o6 : Off, o6 = st o5 1 (3 : Int32).toNatClampNeg ((o5 1 (3 : Int32).toNatClampNeg) + (1 : Int32)) → K2 o6 x1 x2)))) o x3 (2 : Int32) (2 : Int32)
def wl_X5_decides_2 (post : Int32 → Off → Prop) : Nat → Off → Int32 → Int32 → Prop
  | 0, _, _, _ => False
  | n + 1, o, x1, x2 => wp_X5_askingFor (fun v1 => ((v1 ≤ 0 → (vp_in (2 : Int32) 160 ∧ (vp_in (2 : Int32) 160 ∧ (∀ o2 : Off, o2 = st o 1 (2 : Int32).toNatClampNeg ((o 1 (2 : Int32).toNatClampNeg) + x2) → post x2 o2)))) ∧ (¬ v1 ≤ 0 → wp_X5_inQueue (fun v3 => wp_X5_livingIn (fun v4 => (vp_in ((120 : Int32) + x1) 160 ∧ (((o 1 ((120 : Int32) + x1).toNatClampNeg) ≤ v4 → wj_X5_decides_89 post (fun o x1 x2 => wl_X5_decides_2 post n o x1 x2) o x1 x2 v3) ∧ (¬ (o 1 ((120 : Int32) + x1).toNatClampNeg) ≤ v4 → wp_X5_s (fun v7 => wp_X5_isShut (fun v8 => ((¬ v8 = 0 → wj_X5_decides_89 post (fun o x1 x2 => wl_X5_decides_2 post n o x1 x2) o x1 x2 v3) ∧ (v8 = 0 → wp_X5_sendsAway (fun o9 => wp_X5_set (fun o10 => wp_X5_set (fun o11 => (vp_in (1 : Int32) 160 ∧ wp_X5_set (fun o12 => (∀ v13 : Int32, v13 = x2 + (1 : Int32) → wl_X5_decides_2 post n o12 x1 v13)) o11 v3 (6 : Int32) ((o11 1 (1 : Int32).toNatClampNeg) + (10 : Int32)))) o10 v3 (3 : Int32) x1) o9 v3 (2 : Int32) (3 : Int32)) o v3))) o x1 v7) o v3 (0 : Int32))))) o x1) o x1 (0 : Int32)))) o x1
def wp_X5_decides (post : Int32 → Off → Prop) (o : Off) (p0 : Int32) : Prop := (∃ m : Nat, wl_X5_decides_2 post m o p0 (0 : Int32))
set_option maxRecDepth 100000 in
set_option maxHeartbeats 4000000 in
theorem jn_X5_decides_89 {x : gX} {l : Launch} {g : gE} {a : Nat → Nat} {o0 : Off} {post : Int32 → Off → Prop} (hC : gC x l cX5_decides 4 RX5 g 4 91 0 0) (hZ : gZ x g (some .int) (modW g a o0) (pI (modW g a) post) 0 0) {K2 : Off → Int32 → Int32 → Prop} (hK2 : ∀ (o : Off) (x1 : Int32) (x2 : Int32) , K2 o x1 x2 → G x g 4 0 0 (modW g a o) 2 [(0, .ref (a 0)), (1, .int x1), (2, .int x2)] []) : ∀ (o : Off) (x1 : Int32) (x2 : Int32) (x3 : Int32) , wj_X5_decides_89 post K2 o x1 x2 x3 → G x g 4 0 0 (modW g a o) 89 [(0, .ref (a 0)), (1, .int x1), (2, .int x2), (3, .int x3)] [] := by
  intro o x1 x2 x3 h
  rw [wj_X5_decides_89] at h
  refine g_aload_n hC dX5_decides_89 90 rfl rfl 0 rfl ?_
  refine g_iload_n hC dX5_decides_90 91 rfl rfl 3 rfl ?_
  refine g_iconst hC (2 : Int32) dX5_decides_91 92 rfl iconst_2 ?_
  refine g_iconst hC (2 : Int32) dX5_decides_92 93 rfl iconst_2 ?_
  refine g_ownV hC (ct_X5_set l g a o x3 (2 : Int32) (2 : Int32) _ h) gY_X5_set dX5_decides_93 96 rfl ml_X5_117 [] rfl rfl rfl 0 9 rfl rfl ⟨Nat.le_of_ble_eq_true rfl, Nat.le_of_ble_eq_true rfl⟩ (Nat.le_of_ble_eq_true rfl) ⟨Nat.le_refl _, Nat.le_refl _⟩ (fun o5 h => ?_)
  refine g_aload_n hC dX5_decides_96 97 rfl rfl 0 rfl ?_
  refine g_get hC fl_X5_7 dX5_decides_97 100 rfl 0 rfl rfl ?_
  refine g_iconst hC (3 : Int32) dX5_decides_100 101 rfl iconst_3 ?_
  refine g_dup2 hC dX5_decides_101 102 rfl rfl rfl ?_
  obtain ⟨hi, h⟩ := h
  refine g_iald hC dX5_decides_102 103 rfl 1 rfl hi ?_
  refine g_iconst hC (1 : Int32) dX5_decides_103 104 rfl iconst_1 ?_
  refine g_iadd hC dX5_decides_104 105 rfl ?_
  obtain ⟨hi, h⟩ := h
  obtain ⟨o6, eo6⟩ : ∃ y : Off, y = st o5 1 (3 : Int32).toNatClampNeg ((o5 1 (3 : Int32).toNatClampNeg) + (1 : Int32)) := ⟨_, rfl⟩
  have h := h o6 eo6
  refine g_iast hC dX5_decides_105 106 rfl 1 rfl hi (modW_s1 eo6) ?_
  refine g_goto hC dX5_decides_106 2 (by decide) ?_
  refine g_lv (lv2 := [(0, .ref (a 0)), (1, .int x1), (2, .int x2)]) [0, 1, 2] rfl ?_
  exact hK2 o6 x1 x2 h
set_option maxRecDepth 100000 in
set_option maxHeartbeats 4000000 in
theorem lp_X5_decides_2 {x : gX} {l : Launch} {g : gE} {a : Nat → Nat} {o0 : Off} {post : Int32 → Off → Prop} (hC : gC x l cX5_decides 4 RX5 g 4 91 0 0) (hZ : gZ x g (some .int) (modW g a o0) (pI (modW g a) post) 0 0) : ∀ (n : Nat) (o : Off) (x1 : Int32) (x2 : Int32) , wl_X5_decides_2 post n o x1 x2 → G x g 4 0 0 (modW g a o) 2 [(0, .ref (a 0)), (1, .int x1), (2, .int x2)] [] := by
  intro n
  induction n with
  | zero =>
    intro o x1 x2 h
    exact h.elim
  | succ n ih =>
    intro o x1 x2 h
    rw [wl_X5_decides_2] at h
    refine g_aload_n hC dX5_decides_2 3 rfl rfl 0 rfl ?_
    refine g_iload_n hC dX5_decides_3 4 rfl rfl 1 rfl ?_
    refine g_readV hC (ct_X5_askingFor l g a o x1 _ h) gY_X5_askingFor dX5_decides_4 7 rfl ml_X5_165 [] [] (by simp only [List.nil_append, List.append_nil]) [] rfl rfl rfl 0 9 rfl rfl ⟨Nat.le_of_ble_eq_true rfl, Nat.le_of_ble_eq_true rfl⟩ (Nat.le_of_ble_eq_true rfl) ⟨Nat.le_refl _, Nat.le_refl _⟩ (fun v1 h => ?_)
    refine g_if_le hC dX5_decides_7 109 (by decide) 10 rfl (fun c => ?_) (fun c => ?_)
    · have h := h.1 c
      refine g_aload_n hC dX5_decides_109 110 rfl rfl 0 rfl ?_
      refine g_get hC fl_X5_7 dX5_decides_110 113 rfl 0 rfl rfl ?_
      refine g_iconst hC (2 : Int32) dX5_decides_113 114 rfl iconst_2 ?_
      refine g_dup2 hC dX5_decides_114 115 rfl rfl rfl ?_
      obtain ⟨hi, h⟩ := h
      refine g_iald hC dX5_decides_115 116 rfl 1 rfl hi ?_
      refine g_iload_n hC dX5_decides_116 117 rfl rfl 2 rfl ?_
      refine g_iadd hC dX5_decides_117 118 rfl ?_
      obtain ⟨hi, h⟩ := h
      obtain ⟨o2, eo2⟩ : ∃ y : Off, y = st o 1 (2 : Int32).toNatClampNeg ((o 1 (2 : Int32).toNatClampNeg) + x2) := ⟨_, rfl⟩
      have h := h o2 eo2
      refine g_iast hC dX5_decides_118 119 rfl 1 rfl hi (modW_s1 eo2) ?_
      refine g_iload_n hC dX5_decides_119 120 rfl rfl 2 rfl ?_
      exact g_iret hC hZ dX5_decides_120 ⟨_, _, rfl, rfl, h⟩
    · have h := h.2 c
      refine g_aload_n hC dX5_decides_10 11 rfl rfl 0 rfl ?_
      refine g_iload_n hC dX5_decides_11 12 rfl rfl 1 rfl ?_
      refine g_iconst hC (0 : Int32) dX5_decides_12 13 rfl iconst_0 ?_
      refine g_readV hC (ct_X5_inQueue l g a o x1 (0 : Int32) _ h) gY_X5_inQueue dX5_decides_13 16 rfl ml_X5_192 [] [] (by simp only [List.nil_append, List.append_nil]) [] rfl rfl rfl 0 9 rfl rfl ⟨Nat.le_of_ble_eq_true rfl, Nat.le_of_ble_eq_true rfl⟩ (Nat.le_of_ble_eq_true rfl) ⟨Nat.le_refl _, Nat.le_refl _⟩ (fun v3 h => ?_)
      refine g_istore_n (lv2 := [(3, .int v3), (0, .ref (a 0)), (1, .int x1), (2, .int x2)]) hC dX5_decides_16 17 rfl rfl (by decide) rfl ?_
      refine g_aload_n hC dX5_decides_17 18 rfl rfl 1 rfl ?_
      refine g_iload_n hC dX5_decides_18 19 rfl rfl 2 rfl ?_
      refine g_readV hC (ct_X5_livingIn l g a o x1 _ h) gY_X5_livingIn dX5_decides_19 22 rfl ml_X5_195 [] [] (by simp only [List.nil_append, List.append_nil]) [] rfl rfl rfl 0 9 rfl rfl ⟨Nat.le_of_ble_eq_true rfl, Nat.le_of_ble_eq_true rfl⟩ (Nat.le_of_ble_eq_true rfl) ⟨Nat.le_refl _, Nat.le_refl _⟩ (fun v4 h => ?_)
      refine g_aload_n hC dX5_decides_22 23 rfl rfl 1 rfl ?_
      refine g_get hC fl_X5_7 dX5_decides_23 26 rfl 0 rfl rfl ?_
      refine g_bipush hC (120 : Int32) dX5_decides_26 28 rfl bipush_120 ?_
      refine g_iload_n hC dX5_decides_28 29 rfl rfl 2 rfl ?_
      refine g_iadd hC dX5_decides_29 30 rfl ?_
      obtain ⟨hi, h⟩ := h
      refine g_iald hC dX5_decides_30 31 rfl 1 rfl hi ?_
      refine g_icmp_ge hC dX5_decides_31 89 (by decide) 34 rfl (fun c => ?_) (fun c => ?_)
      · have h := h.1 c
        refine g_lv (lv2 := [(0, .ref (a 0)), (1, .int x1), (2, .int x2), (3, .int v3)]) [1, 2, 3, 0] rfl ?_
        exact jn_X5_decides_89 hC hZ ih o x1 x2 v3 h
      · have h := h.2 c
        refine g_aload_n hC dX5_decides_34 35 rfl rfl 1 rfl ?_
        refine g_iload_n hC dX5_decides_35 36 rfl rfl 2 rfl ?_
        refine g_aload_n hC dX5_decides_36 37 rfl rfl 1 rfl ?_
        refine g_iload_n hC dX5_decides_37 38 rfl rfl 0 rfl ?_
        refine g_iconst hC (0 : Int32) dX5_decides_38 39 rfl iconst_0 ?_
        refine g_readV hC (ct_X5_s l g a o v3 (0 : Int32) _ h) gY_X5_s dX5_decides_39 42 rfl ml_X5_96 [] [] (by simp only [List.nil_append, List.append_nil]) [.int x1, .ref (a 0)] rfl rfl rfl 0 9 rfl rfl ⟨Nat.le_of_ble_eq_true rfl, Nat.le_of_ble_eq_true rfl⟩ (Nat.le_of_ble_eq_true rfl) ⟨Nat.le_refl _, Nat.le_refl _⟩ (fun v7 h => ?_)
        refine g_readV hC (ct_X5_isShut l g a o x1 v7 _ h) gY_X5_isShut dX5_decides_42 45 rfl ml_X5_198 [] [] (by simp only [List.nil_append, List.append_nil]) [] rfl rfl rfl 0 9 rfl rfl ⟨Nat.le_of_ble_eq_true rfl, Nat.le_of_ble_eq_true rfl⟩ (Nat.le_of_ble_eq_true rfl) ⟨Nat.le_refl _, Nat.le_refl _⟩ (fun v8 h => ?_)
        refine g_if_ne hC dX5_decides_45 89 (by decide) 48 rfl (fun c => ?_) (fun c => ?_)
        · have h := h.1 c
          refine g_lv (lv2 := [(0, .ref (a 0)), (1, .int x1), (2, .int x2), (3, .int v3)]) [1, 2, 3, 0] rfl ?_
          exact jn_X5_decides_89 hC hZ ih o x1 x2 v3 h
        · have h := h.2 c
          refine g_aload_n hC dX5_decides_48 49 rfl rfl 1 rfl ?_
          refine g_iload_n hC dX5_decides_49 50 rfl rfl 0 rfl ?_
          refine g_ownV hC (ct_X5_sendsAway l g a o v3 _ h) gY_X5_sendsAway dX5_decides_50 53 rfl ml_X5_125 [] rfl rfl rfl 0 9 rfl rfl ⟨Nat.le_of_ble_eq_true rfl, Nat.le_of_ble_eq_true rfl⟩ (Nat.le_of_ble_eq_true rfl) ⟨Nat.le_refl _, Nat.le_refl _⟩ (fun o9 h => ?_)
          refine g_aload_n hC dX5_decides_53 54 rfl rfl 1 rfl ?_
          refine g_iload_n hC dX5_decides_54 55 rfl rfl 0 rfl ?_
          refine g_iconst hC (2 : Int32) dX5_decides_55 56 rfl iconst_2 ?_
          refine g_iconst hC (3 : Int32) dX5_decides_56 57 rfl iconst_3 ?_
          refine g_ownV hC (ct_X5_set l g a o9 v3 (2 : Int32) (3 : Int32) _ h) gY_X5_set dX5_decides_57 60 rfl ml_X5_117 [] rfl rfl rfl 0 9 rfl rfl ⟨Nat.le_of_ble_eq_true rfl, Nat.le_of_ble_eq_true rfl⟩ (Nat.le_of_ble_eq_true rfl) ⟨Nat.le_refl _, Nat.le_refl _⟩ (fun o10 h => ?_)
          refine g_aload_n hC dX5_decides_60 61 rfl rfl 1 rfl ?_
          refine g_iload_n hC dX5_decides_61 62 rfl rfl 0 rfl ?_
          refine g_iconst hC (3 : Int32) dX5_decides_62 63 rfl iconst_3 ?_
          refine g_iload_n hC dX5_decides_63 64 rfl rfl 2 rfl ?_
          refine g_ownV hC (ct_X5_set l g a o10 v3 (3 : Int32) x1 _ h) gY_X5_set dX5_decides_64 67 rfl ml_X5_117 [] rfl rfl rfl 0 9 rfl rfl ⟨Nat.le_of_ble_eq_true rfl, Nat.le_of_ble_eq_true rfl⟩ (Nat.le_of_ble_eq_true rfl) ⟨Nat.le_refl _, Nat.le_refl _⟩ (fun o11 h => ?_)
          refine g_aload_n hC dX5_decides_67 68 rfl rfl 1 rfl ?_
          refine g_iload_n hC dX5_decides_68 69 rfl rfl 0 rfl ?_
          refine g_bipush hC (6 : Int32) dX5_decides_69 71 rfl bipush_6 ?_
          refine g_aload_n hC dX5_decides_71 72 rfl rfl 1 rfl ?_
          refine g_get hC fl_X5_7 dX5_decides_72 75 rfl 0 rfl rfl ?_
          refine g_iconst hC (1 : Int32) dX5_decides_75 76 rfl iconst_1 ?_
          obtain ⟨hi, h⟩ := h
          refine g_iald hC dX5_decides_76 77 rfl 1 rfl hi ?_
          refine g_bipush hC (10 : Int32) dX5_decides_77 79 rfl bipush_10 ?_
          refine g_iadd hC dX5_decides_79 80 rfl ?_
          refine g_ownV hC (ct_X5_set l g a o11 v3 (6 : Int32) ((o11 1 (1 : Int32).toNatClampNeg) + (10 : Int32)) _ h) gY_X5_set dX5_decides_80 83 rfl ml_X5_117 [] rfl rfl rfl 0 9 rfl rfl ⟨Nat.le_of_ble_eq_true rfl, Nat.le_of_ble_eq_true rfl⟩ (Nat.le_of_ble_eq_true rfl) ⟨Nat.le_refl _, Nat.le_refl _⟩ (fun o12 h => ?_)
          obtain ⟨v13, ev13⟩ : ∃ y : Int32, y = x2 + (1 : Int32) := ⟨_, rfl⟩
          have h := h v13 ev13
          refine g_iinc (v2 := v13) (lv2 := [(2, .int v13), (3, .int v3), (0, .ref (a 0)), (1, .int x1)]) hC dX5_decides_83 86 rfl 3 rfl (by rw [iconst_1, ev13]) (by decide) rfl ?_
          refine g_goto hC dX5_decides_86 106 (by decide) ?_
          refine g_goto hC dX5_decides_106 2 (by decide) ?_
          refine g_lv (lv2 := [(0, .ref (a 0)), (1, .int x1), (2, .int v13)]) [2, 3, 0] rfl ?_
          exact ih o12 x1 v13 h
set_option maxRecDepth 100000 in
set_option maxHeartbeats 4000000 in
theorem ct_X5_decides (l : Launch) (g : gE) (a : Nat → Nat) (o : Off) (p0 : Int32) (post : Int32 → Off → Prop) (h : wp_X5_decides post o p0) : Fn l g yX5_decides cX5_decides 4 (some .int) 4 91 0 0 (modW g a o) [.ref (a 0), .int p0] (pI (modW g a) post) := by
  refine Fn.of (by decide) (Nat.le_of_ble_eq_true rfl) (fun x hC hZ => ?_)
  rw [wp_X5_decides] at h
  show G x g 4 0 0 (modW g a o) 0 [(0, .ref (a 0)), (1, .int p0)] []
  refine g_iconst hC (0 : Int32) dX5_decides_0 1 rfl iconst_0 ?_
  refine g_istore_n (lv2 := [(2, .int (0 : Int32)), (0, .ref (a 0)), (1, .int p0)]) hC dX5_decides_1 2 rfl rfl (by decide) rfl ?_
  refine g_lv (lv2 := [(0, .ref (a 0)), (1, .int p0), (2, .int (0 : Int32))]) [1, 2, 0] rfl ?_
  obtain ⟨m, h⟩ := h
  exact lp_X5_decides_2 hC hZ m o p0 (0 : Int32) h
def wp_X5_decide (post : Int32 → Off → Prop) (o : Off) (p0 : Int32) : Prop := wp_X5_begin (fun o1 => wp_X5_isDrawer (fun v2 => ((v2 = 0 → wp_X5_fail (fun v4 o3 => post v4 o3) o1 (1 : Int32)) ∧ (¬ v2 = 0 → wp_X5_decides (fun v6 o5 => wp_X5_commit (fun v8 o7 => post v8 o7) o5 v6) o1 p0))) p0) o 
set_option maxRecDepth 100000 in
set_option maxHeartbeats 4000000 in
theorem ct_X5_decide (l : Launch) (g : gE) (a : Nat → Nat) (o : Off) (p0 : Int32) (post : Int32 → Off → Prop) (h : wp_X5_decide post o p0) : Fn l g yX5_decide cX5_decide 2 (some .int) 5 114 0 0 (modW g a o) [.ref (a 0), .int p0] (pI (modW g a) post) := by
  refine Fn.of (by decide) (Nat.le_of_ble_eq_true rfl) (fun x hC hZ => ?_)
  rw [wp_X5_decide] at h
  show G x g 2 0 0 (modW g a o) 0 [(0, .ref (a 0)), (1, .int p0)] []
  refine g_aload_n hC dX5_decide_0 1 rfl rfl 0 rfl ?_
  refine g_ownV hC (ct_X5_begin l g a o  _ h) gY_X5_begin dX5_decide_1 4 rfl ml_X5_129 [] rfl rfl rfl 0 9 rfl rfl ⟨Nat.le_of_ble_eq_true rfl, Nat.le_of_ble_eq_true rfl⟩ (Nat.le_of_ble_eq_true rfl) ⟨Nat.le_refl _, Nat.le_refl _⟩ (fun o1 h => ?_)
  refine g_iload_n hC dX5_decide_4 5 rfl rfl 1 rfl ?_
  refine g_readS hC (ct_X5_isDrawer l g p0 _ h) gY_X5_isDrawer dX5_decide_5 8 rfl ml_X5_168 [] _ rfl [] rfl rfl ⟨Nat.le_of_ble_eq_true rfl, Nat.le_of_ble_eq_true rfl⟩ (Nat.le_of_ble_eq_true rfl) ⟨Nat.le_refl _, Nat.le_refl _⟩ (fun v2 h => ?_)
  refine g_if_eq hC dX5_decide_8 23 (by decide) 11 rfl (fun c => ?_) (fun c => ?_)
  · have h := h.1 c
    refine g_aload_n hC dX5_decide_23 24 rfl rfl 0 rfl ?_
    refine g_iconst hC (1 : Int32) dX5_decide_24 25 rfl iconst_1 ?_
    refine g_ownI hC (ct_X5_fail l g a o1 (1 : Int32) _ h) gY_X5_fail dX5_decide_25 28 rfl ml_X5_88 [] rfl rfl rfl 0 9 rfl rfl ⟨Nat.le_of_ble_eq_true rfl, Nat.le_of_ble_eq_true rfl⟩ (Nat.le_of_ble_eq_true rfl) ⟨Nat.le_refl _, Nat.le_refl _⟩ (fun v4 o3 h => ?_)
    exact g_iret hC hZ dX5_decide_28 ⟨_, _, rfl, rfl, h⟩
  · have h := h.2 c
    refine g_aload_n hC dX5_decide_11 12 rfl rfl 0 rfl ?_
    refine g_aload_n hC dX5_decide_12 13 rfl rfl 0 rfl ?_
    refine g_iload_n hC dX5_decide_13 14 rfl rfl 1 rfl ?_
    refine g_ownI hC (ct_X5_decides l g a o1 p0 _ h) gY_X5_decides dX5_decide_14 17 rfl ml_X5_201 [.ref (a 0)] rfl rfl rfl 0 9 rfl rfl ⟨Nat.le_of_ble_eq_true rfl, Nat.le_of_ble_eq_true rfl⟩ (Nat.le_of_ble_eq_true rfl) ⟨Nat.le_refl _, Nat.le_refl _⟩ (fun v6 o5 h => ?_)
    refine g_ownI hC (ct_X5_commit l g a o5 v6 _ h) gY_X5_commit dX5_decide_17 20 rfl ml_X5_145 [] rfl rfl rfl 0 9 rfl rfl ⟨Nat.le_of_ble_eq_true rfl, Nat.le_of_ble_eq_true rfl⟩ (Nat.le_of_ble_eq_true rfl) ⟨Nat.le_refl _, Nat.le_refl _⟩ (fun v8 o7 h => ?_)
    refine g_goto hC dX5_decide_20 28 (by decide) ?_
    exact g_iret hC hZ dX5_decide_28 ⟨_, _, rfl, rfl, h⟩
def wp_X5_wouldAdmit (post : Int32 → Off → Prop) (o : Off) (p0 : Int32) : Prop := wp_X5_isDrawer (fun v1 => wp_X5_checked (fun v3 o2 => ((v3 ≤ 0 → wp_X5_copy (fun o4 => wp_X5_decides (fun v6 o5 => wp_X5_copy (fun o7 => post v6 o7) o5 3 1 (0 : Int32) (0 : Int32)) o4 p0) o2 1 3 (0 : Int32) (0 : Int32)) ∧ (¬ v3 ≤ 0 → post (0 : Int32) o2))) o v1) p0
set_option maxRecDepth 100000 in
set_option maxHeartbeats 4000000 in
theorem ct_X5_wouldAdmit (l : Launch) (g : gE) (a : Nat → Nat) (o : Off) (p0 : Int32) (post : Int32 → Off → Prop) (h : wp_X5_wouldAdmit post o p0) : Fn l g yX5_wouldAdmit cX5_wouldAdmit 3 (some .int) 5 114 0 0 (modW g a o) [.ref (a 0), .int p0] (pI (modW g a) post) := by
  refine Fn.of (by decide) (Nat.le_of_ble_eq_true rfl) (fun x hC hZ => ?_)
  rw [wp_X5_wouldAdmit] at h
  show G x g 3 0 0 (modW g a o) 0 [(0, .ref (a 0)), (1, .int p0)] []
  refine g_aload_n hC dX5_wouldAdmit_0 1 rfl rfl 0 rfl ?_
  refine g_iload_n hC dX5_wouldAdmit_1 2 rfl rfl 1 rfl ?_
  refine g_readS hC (ct_X5_isDrawer l g p0 _ h) gY_X5_isDrawer dX5_wouldAdmit_2 5 rfl ml_X5_168 [] _ rfl [.ref (a 0)] rfl rfl ⟨Nat.le_of_ble_eq_true rfl, Nat.le_of_ble_eq_true rfl⟩ (Nat.le_of_ble_eq_true rfl) ⟨Nat.le_refl _, Nat.le_refl _⟩ (fun v1 h => ?_)
  refine g_ownI hC (ct_X5_checked l g a o v1 _ h) gY_X5_checked dX5_wouldAdmit_5 8 rfl ml_X5_154 [] rfl rfl rfl 0 9 rfl rfl ⟨Nat.le_of_ble_eq_true rfl, Nat.le_of_ble_eq_true rfl⟩ (Nat.le_of_ble_eq_true rfl) ⟨Nat.le_refl _, Nat.le_refl _⟩ (fun v3 o2 h => ?_)
  refine g_if_le hC dX5_wouldAdmit_8 13 (by decide) 11 rfl (fun c => ?_) (fun c => ?_)
  · have h := h.1 c
    refine g_aload_n hC dX5_wouldAdmit_13 14 rfl rfl 0 rfl ?_
    refine g_get hC fl_X5_7 dX5_wouldAdmit_14 17 rfl 0 rfl rfl ?_
    refine g_iconst hC (0 : Int32) dX5_wouldAdmit_17 18 rfl iconst_0 ?_
    refine g_aload_n hC dX5_wouldAdmit_18 19 rfl rfl 0 rfl ?_
    refine g_get hC fl_X5_16 dX5_wouldAdmit_19 22 rfl 0 rfl rfl ?_
    refine g_iconst hC (0 : Int32) dX5_wouldAdmit_22 23 rfl iconst_0 ?_
    refine g_statV hC (ct_X5_copy l g a o2 1 3 (0 : Int32) (0 : Int32) _ h) gY_X5_copy dX5_wouldAdmit_23 26 rfl ml_X5_84 [] rfl rfl ⟨Nat.le_of_ble_eq_true rfl, Nat.le_of_ble_eq_true rfl⟩ (Nat.le_of_ble_eq_true rfl) ⟨Nat.le_refl _, Nat.le_refl _⟩ (fun o4 h => ?_)
    refine g_aload_n hC dX5_wouldAdmit_26 27 rfl rfl 0 rfl ?_
    refine g_iload_n hC dX5_wouldAdmit_27 28 rfl rfl 1 rfl ?_
    refine g_ownI hC (ct_X5_decides l g a o4 p0 _ h) gY_X5_decides dX5_wouldAdmit_28 31 rfl ml_X5_201 [] rfl rfl rfl 0 9 rfl rfl ⟨Nat.le_of_ble_eq_true rfl, Nat.le_of_ble_eq_true rfl⟩ (Nat.le_of_ble_eq_true rfl) ⟨Nat.le_refl _, Nat.le_refl _⟩ (fun v6 o5 h => ?_)
    refine g_istore_n (lv2 := [(2, .int v6), (0, .ref (a 0)), (1, .int p0)]) hC dX5_wouldAdmit_31 32 rfl rfl (by decide) rfl ?_
    refine g_aload_n hC dX5_wouldAdmit_32 33 rfl rfl 1 rfl ?_
    refine g_get hC fl_X5_16 dX5_wouldAdmit_33 36 rfl 0 rfl rfl ?_
    refine g_iconst hC (0 : Int32) dX5_wouldAdmit_36 37 rfl iconst_0 ?_
    refine g_aload_n hC dX5_wouldAdmit_37 38 rfl rfl 1 rfl ?_
    refine g_get hC fl_X5_7 dX5_wouldAdmit_38 41 rfl 0 rfl rfl ?_
    refine g_iconst hC (0 : Int32) dX5_wouldAdmit_41 42 rfl iconst_0 ?_
    refine g_statV hC (ct_X5_copy l g a o5 3 1 (0 : Int32) (0 : Int32) _ h) gY_X5_copy dX5_wouldAdmit_42 45 rfl ml_X5_84 [] rfl rfl ⟨Nat.le_of_ble_eq_true rfl, Nat.le_of_ble_eq_true rfl⟩ (Nat.le_of_ble_eq_true rfl) ⟨Nat.le_refl _, Nat.le_refl _⟩ (fun o7 h => ?_)
    refine g_iload_n hC dX5_wouldAdmit_45 46 rfl rfl 0 rfl ?_
    exact g_iret hC hZ dX5_wouldAdmit_46 ⟨_, _, rfl, rfl, h⟩
  · have h := h.2 c
    refine g_iconst hC (0 : Int32) dX5_wouldAdmit_11 12 rfl iconst_0 ?_
    exact g_iret hC hZ dX5_wouldAdmit_12 ⟨_, _, rfl, rfl, h⟩
def wp_X5_queueAt (post : Int32 → Off → Prop) (o : Off) (p0 : Int32) (p1 : Int32) : Prop := wp_X5_isDrawer (fun v1 => wp_X5_checked (fun v3 o2 => ((v3 ≤ 0 → wp_X5_inQueue (fun v4 => ((0 ≤ v4 → post v4 o2) ∧ (¬ 0 ≤ v4 → wp_X5_fail (fun v6 o5 => post v6 o5) o2 (2 : Int32)))) o2 p0 p1) ∧ (¬ v3 ≤ 0 → post (0 : Int32) o2))) o v1) p0
set_option maxRecDepth 100000 in
set_option maxHeartbeats 4000000 in
theorem ct_X5_queueAt (l : Launch) (g : gE) (a : Nat → Nat) (o : Off) (p0 : Int32) (p1 : Int32) (post : Int32 → Off → Prop) (h : wp_X5_queueAt post o p0 p1) : Fn l g yX5_queueAt cX5_queueAt 4 (some .int) 4 91 0 0 (modW g a o) [.ref (a 0), .int p0, .int p1] (pI (modW g a) post) := by
  refine Fn.of (by decide) (Nat.le_of_ble_eq_true rfl) (fun x hC hZ => ?_)
  rw [wp_X5_queueAt] at h
  show G x g 4 0 0 (modW g a o) 0 [(0, .ref (a 0)), (1, .int p0), (2, .int p1)] []
  refine g_aload_n hC dX5_queueAt_0 1 rfl rfl 0 rfl ?_
  refine g_iload_n hC dX5_queueAt_1 2 rfl rfl 1 rfl ?_
  refine g_readS hC (ct_X5_isDrawer l g p0 _ h) gY_X5_isDrawer dX5_queueAt_2 5 rfl ml_X5_168 [] _ rfl [.ref (a 0)] rfl rfl ⟨Nat.le_of_ble_eq_true rfl, Nat.le_of_ble_eq_true rfl⟩ (Nat.le_of_ble_eq_true rfl) ⟨Nat.le_refl _, Nat.le_refl _⟩ (fun v1 h => ?_)
  refine g_ownI hC (ct_X5_checked l g a o v1 _ h) gY_X5_checked dX5_queueAt_5 8 rfl ml_X5_154 [] rfl rfl rfl 0 9 rfl rfl ⟨Nat.le_of_ble_eq_true rfl, Nat.le_of_ble_eq_true rfl⟩ (Nat.le_of_ble_eq_true rfl) ⟨Nat.le_refl _, Nat.le_refl _⟩ (fun v3 o2 h => ?_)
  refine g_if_le hC dX5_queueAt_8 13 (by decide) 11 rfl (fun c => ?_) (fun c => ?_)
  · have h := h.1 c
    refine g_aload_n hC dX5_queueAt_13 14 rfl rfl 0 rfl ?_
    refine g_iload_n hC dX5_queueAt_14 15 rfl rfl 1 rfl ?_
    refine g_iload_n hC dX5_queueAt_15 16 rfl rfl 2 rfl ?_
    refine g_readV hC (ct_X5_inQueue l g a o2 p0 p1 _ h) gY_X5_inQueue dX5_queueAt_16 19 rfl ml_X5_192 [] [] (by simp only [List.nil_append, List.append_nil]) [] rfl rfl rfl 0 9 rfl rfl ⟨Nat.le_of_ble_eq_true rfl, Nat.le_of_ble_eq_true rfl⟩ (Nat.le_of_ble_eq_true rfl) ⟨Nat.le_refl _, Nat.le_refl _⟩ (fun v4 h => ?_)
    refine g_istore_n (lv2 := [(3, .int v4), (0, .ref (a 0)), (1, .int p0), (2, .int p1)]) hC dX5_queueAt_19 20 rfl rfl (by decide) rfl ?_
    refine g_iload_n hC dX5_queueAt_20 21 rfl rfl 0 rfl ?_
    refine g_if_ge hC dX5_queueAt_21 32 (by decide) 24 rfl (fun c => ?_) (fun c => ?_)
    · have h := h.1 c
      refine g_iload_n hC dX5_queueAt_32 33 rfl rfl 0 rfl ?_
      exact g_iret hC hZ dX5_queueAt_33 ⟨_, _, rfl, rfl, h⟩
    · have h := h.2 c
      refine g_aload_n hC dX5_queueAt_24 25 rfl rfl 1 rfl ?_
      refine g_iconst hC (2 : Int32) dX5_queueAt_25 26 rfl iconst_2 ?_
      refine g_ownI hC (ct_X5_fail l g a o2 (2 : Int32) _ h) gY_X5_fail dX5_queueAt_26 29 rfl ml_X5_88 [] rfl rfl rfl 0 9 rfl rfl ⟨Nat.le_of_ble_eq_true rfl, Nat.le_of_ble_eq_true rfl⟩ (Nat.le_of_ble_eq_true rfl) ⟨Nat.le_refl _, Nat.le_refl _⟩ (fun v6 o5 h => ?_)
      refine g_goto hC dX5_queueAt_29 33 (by decide) ?_
      exact g_iret hC hZ dX5_queueAt_33 ⟨_, _, rfl, rfl, h⟩
  · have h := h.2 c
    refine g_iconst hC (0 : Int32) dX5_queueAt_11 12 rfl iconst_0 ?_
    exact g_iret hC hZ dX5_queueAt_12 ⟨_, _, rfl, rfl, h⟩
def wp_X5_pendingCount (post : Int32 → Off → Prop) (o : Off) (p0 : Int32) : Prop := wp_X5_isDrawer (fun v1 => wp_X5_checked (fun v3 o2 => ((v3 ≤ 0 → wp_X5_askingFor (fun v4 => post v4 o2) o2 p0) ∧ (¬ v3 ≤ 0 → post (0 : Int32) o2))) o v1) p0
set_option maxRecDepth 100000 in
set_option maxHeartbeats 4000000 in
theorem ct_X5_pendingCount (l : Launch) (g : gE) (a : Nat → Nat) (o : Off) (p0 : Int32) (post : Int32 → Off → Prop) (h : wp_X5_pendingCount post o p0) : Fn l g yX5_pendingCount cX5_pendingCount 2 (some .int) 4 89 0 0 (modW g a o) [.ref (a 0), .int p0] (pI (modW g a) post) := by
  refine Fn.of (by decide) (Nat.le_of_ble_eq_true rfl) (fun x hC hZ => ?_)
  rw [wp_X5_pendingCount] at h
  show G x g 2 0 0 (modW g a o) 0 [(0, .ref (a 0)), (1, .int p0)] []
  refine g_aload_n hC dX5_pendingCount_0 1 rfl rfl 0 rfl ?_
  refine g_iload_n hC dX5_pendingCount_1 2 rfl rfl 1 rfl ?_
  refine g_readS hC (ct_X5_isDrawer l g p0 _ h) gY_X5_isDrawer dX5_pendingCount_2 5 rfl ml_X5_168 [] _ rfl [.ref (a 0)] rfl rfl ⟨Nat.le_of_ble_eq_true rfl, Nat.le_of_ble_eq_true rfl⟩ (Nat.le_of_ble_eq_true rfl) ⟨Nat.le_refl _, Nat.le_refl _⟩ (fun v1 h => ?_)
  refine g_ownI hC (ct_X5_checked l g a o v1 _ h) gY_X5_checked dX5_pendingCount_5 8 rfl ml_X5_154 [] rfl rfl rfl 0 9 rfl rfl ⟨Nat.le_of_ble_eq_true rfl, Nat.le_of_ble_eq_true rfl⟩ (Nat.le_of_ble_eq_true rfl) ⟨Nat.le_refl _, Nat.le_refl _⟩ (fun v3 o2 h => ?_)
  refine g_if_le hC dX5_pendingCount_8 15 (by decide) 11 rfl (fun c => ?_) (fun c => ?_)
  · have h := h.1 c
    refine g_aload_n hC dX5_pendingCount_15 16 rfl rfl 0 rfl ?_
    refine g_iload_n hC dX5_pendingCount_16 17 rfl rfl 1 rfl ?_
    refine g_readV hC (ct_X5_askingFor l g a o2 p0 _ h) gY_X5_askingFor dX5_pendingCount_17 20 rfl ml_X5_165 [] [] (by simp only [List.nil_append, List.append_nil]) [] rfl rfl rfl 0 9 rfl rfl ⟨Nat.le_of_ble_eq_true rfl, Nat.le_of_ble_eq_true rfl⟩ (Nat.le_of_ble_eq_true rfl) ⟨Nat.le_refl _, Nat.le_refl _⟩ (fun v4 h => ?_)
    exact g_iret hC hZ dX5_pendingCount_20 ⟨_, _, rfl, rfl, h⟩
  · have h := h.2 c
    refine g_iconst hC (0 : Int32) dX5_pendingCount_11 12 rfl iconst_0 ?_
    refine g_goto hC dX5_pendingCount_12 20 (by decide) ?_
    exact g_iret hC hZ dX5_pendingCount_20 ⟨_, _, rfl, rfl, h⟩
def wj_X5_isNoResident_15 (post : Int32 → Off → Prop) (o : Off) (x1 : Int32) (s0 : Int32) : Prop := wp_X5_notes (fun v3 o2 => (isB v3 ∧ post v3 o2)) o s0 (6 : Int32) x1
def wp_X5_isNoResident (post : Int32 → Off → Prop) (o : Off) (p0 : Int32) : Prop := wp_X5_is (fun v1 => ((¬ v1 = 0 → wj_X5_isNoResident_15 post o p0 (0 : Int32)) ∧ (v1 = 0 → wj_X5_isNoResident_15 post o p0 (1 : Int32)))) o p0 (3 : Int32)
set_option maxRecDepth 100000 in
set_option maxHeartbeats 4000000 in
theorem jn_X5_isNoResident_15 {x : gX} {l : Launch} {g : gE} {a : Nat → Nat} {o0 : Off} {post : Int32 → Off → Prop} (hC : gC x l cX5_isNoResident 2 RX5 g 2 44 0 0) (hZ : gZ x g (some .boolean) (modW g a o0) (pI (modW g a) post) 0 0) : ∀ (o : Off) (x1 : Int32) (s0 : Int32) , wj_X5_isNoResident_15 post o x1 s0 → G x g 2 0 0 (modW g a o) 15 [(1, .int x1)] [.int s0, .ref (a 0)] := by
  intro o x1 s0 h
  rw [wj_X5_isNoResident_15] at h
  refine g_bipush hC (6 : Int32) dX5_isNoResident_15 17 rfl bipush_6 ?_
  refine g_iload_n hC dX5_isNoResident_17 18 rfl rfl 0 rfl ?_
  refine g_ownI hC (ct_X5_notes l g a o s0 (6 : Int32) x1 _ h) gY_X5_notes dX5_isNoResident_18 21 rfl ml_X5_121 [] rfl rfl rfl 0 9 rfl rfl ⟨Nat.le_of_ble_eq_true rfl, Nat.le_of_ble_eq_true rfl⟩ (Nat.le_of_ble_eq_true rfl) ⟨Nat.le_refl _, Nat.le_refl _⟩ (fun v3 o2 h => ?_)
  obtain ⟨hb, h⟩ := h
  exact g_zret hC hZ (isB_n hb) dX5_isNoResident_21 ⟨_, _, rfl, rfl, h⟩
set_option maxRecDepth 100000 in
set_option maxHeartbeats 4000000 in
theorem ct_X5_isNoResident (l : Launch) (g : gE) (a : Nat → Nat) (o : Off) (p0 : Int32) (post : Int32 → Off → Prop) (h : wp_X5_isNoResident post o p0) : Fn l g yX5_isNoResident cX5_isNoResident 2 (some .boolean) 2 44 0 0 (modW g a o) [.ref (a 0), .int p0] (pI (modW g a) post) := by
  refine Fn.of (by decide) (Nat.le_of_ble_eq_true rfl) (fun x hC hZ => ?_)
  rw [wp_X5_isNoResident] at h
  show G x g 2 0 0 (modW g a o) 0 [(0, .ref (a 0)), (1, .int p0)] []
  refine g_aload_n hC dX5_isNoResident_0 1 rfl rfl 0 rfl ?_
  refine g_aload_n hC dX5_isNoResident_1 2 rfl rfl 0 rfl ?_
  refine g_iload_n hC dX5_isNoResident_2 3 rfl rfl 1 rfl ?_
  refine g_iconst hC (3 : Int32) dX5_isNoResident_3 4 rfl iconst_3 ?_
  refine g_readV hC (ct_X5_is l g a o p0 (3 : Int32) _ h) gY_X5_is dX5_isNoResident_4 7 rfl ml_X5_100 [] [] (by simp only [List.nil_append, List.append_nil]) [.ref (a 0)] rfl rfl rfl 0 9 rfl rfl ⟨Nat.le_of_ble_eq_true rfl, Nat.le_of_ble_eq_true rfl⟩ (Nat.le_of_ble_eq_true rfl) ⟨Nat.le_refl _, Nat.le_refl _⟩ (fun v1 h => ?_)
  refine g_if_ne hC dX5_isNoResident_7 14 (by decide) 10 rfl (fun c => ?_) (fun c => ?_)
  · have h := h.1 c
    refine g_iconst hC (0 : Int32) dX5_isNoResident_14 15 rfl iconst_0 ?_
    refine g_lv (lv2 := [(1, .int p0)]) [1] rfl ?_
    exact jn_X5_isNoResident_15 hC hZ o p0 (0 : Int32) h
  · have h := h.2 c
    refine g_iconst hC (1 : Int32) dX5_isNoResident_10 11 rfl iconst_1 ?_
    refine g_goto hC dX5_isNoResident_11 15 (by decide) ?_
    refine g_lv (lv2 := [(1, .int p0)]) [1] rfl ?_
    exact jn_X5_isNoResident_15 hC hZ o p0 (1 : Int32) h
def wj_X5_cannotRenew_35 (post : Int32 → Off → Prop) (o : Off) (x1 : Int32) (s0 : Int32) : Prop := wp_X5_s (fun v4 => wp_X5_notes (fun v6 o5 => ((v6 = 0 → post (0 : Int32) o5) ∧ (¬ v6 = 0 → post (1 : Int32) o5))) o s0 (7 : Int32) v4) o x1 (6 : Int32)
def wp_X5_cannotRenew (post : Int32 → Off → Prop) (o : Off) (p0 : Int32) (p1 : Int32) : Prop := wp_X5_isNoResident (fun v2 o1 => ((¬ v2 = 0 → post (1 : Int32) o1) ∧ (v2 = 0 → wp_X5_s (fun v3 => (vp_in (1 : Int32) 160 ∧ (((v3 + p1) ≤ ((o1 1 (1 : Int32).toNatClampNeg) + (20 : Int32)) → wj_X5_cannotRenew_35 post o1 p0 (0 : Int32)) ∧ (¬ (v3 + p1) ≤ ((o1 1 (1 : Int32).toNatClampNeg) + (20 : Int32)) → wj_X5_cannotRenew_35 post o1 p0 (1 : Int32))))) o1 p0 (6 : Int32)))) o p0
set_option maxRecDepth 100000 in
set_option maxHeartbeats 4000000 in
theorem jn_X5_cannotRenew_35 {x : gX} {l : Launch} {g : gE} {a : Nat → Nat} {o0 : Off} {post : Int32 → Off → Prop} (hC : gC x l cX5_cannotRenew 3 RX5 g 3 65 0 0) (hZ : gZ x g (some .boolean) (modW g a o0) (pI (modW g a) post) 0 0) : ∀ (o : Off) (x1 : Int32) (s0 : Int32) , wj_X5_cannotRenew_35 post o x1 s0 → G x g 3 0 0 (modW g a o) 35 [(0, .ref (a 0)), (1, .int x1)] [.int s0, .ref (a 0)] := by
  intro o x1 s0 h
  rw [wj_X5_cannotRenew_35] at h
  refine g_bipush hC (7 : Int32) dX5_cannotRenew_35 37 rfl bipush_7 ?_
  refine g_aload_n hC dX5_cannotRenew_37 38 rfl rfl 0 rfl ?_
  refine g_iload_n hC dX5_cannotRenew_38 39 rfl rfl 1 rfl ?_
  refine g_bipush hC (6 : Int32) dX5_cannotRenew_39 41 rfl bipush_6 ?_
  refine g_readV hC (ct_X5_s l g a o x1 (6 : Int32) _ h) gY_X5_s dX5_cannotRenew_41 44 rfl ml_X5_96 [] [] (by simp only [List.nil_append, List.append_nil]) [.int (7 : Int32), .int s0, .ref (a 0)] rfl rfl rfl 0 9 rfl rfl ⟨Nat.le_of_ble_eq_true rfl, Nat.le_of_ble_eq_true rfl⟩ (Nat.le_of_ble_eq_true rfl) ⟨Nat.le_refl _, Nat.le_refl _⟩ (fun v4 h => ?_)
  refine g_ownI hC (ct_X5_notes l g a o s0 (7 : Int32) v4 _ h) gY_X5_notes dX5_cannotRenew_44 47 rfl ml_X5_121 [] rfl rfl rfl 0 9 rfl rfl ⟨Nat.le_of_ble_eq_true rfl, Nat.le_of_ble_eq_true rfl⟩ (Nat.le_of_ble_eq_true rfl) ⟨Nat.le_refl _, Nat.le_refl _⟩ (fun v6 o5 h => ?_)
  refine g_if_eq hC dX5_cannotRenew_47 54 (by decide) 50 rfl (fun c => ?_) (fun c => ?_)
  · have h := h.1 c
    refine g_iconst hC (0 : Int32) dX5_cannotRenew_54 55 rfl iconst_0 ?_
    exact g_zret hC hZ rfl dX5_cannotRenew_55 ⟨_, _, rfl, rfl, h⟩
  · have h := h.2 c
    refine g_iconst hC (1 : Int32) dX5_cannotRenew_50 51 rfl iconst_1 ?_
    refine g_goto hC dX5_cannotRenew_51 55 (by decide) ?_
    exact g_zret hC hZ rfl dX5_cannotRenew_55 ⟨_, _, rfl, rfl, h⟩
set_option maxRecDepth 100000 in
set_option maxHeartbeats 4000000 in
theorem ct_X5_cannotRenew (l : Launch) (g : gE) (a : Nat → Nat) (o : Off) (p0 : Int32) (p1 : Int32) (post : Int32 → Off → Prop) (h : wp_X5_cannotRenew post o p0 p1) : Fn l g yX5_cannotRenew cX5_cannotRenew 3 (some .boolean) 3 65 0 0 (modW g a o) [.ref (a 0), .int p0, .int p1] (pI (modW g a) post) := by
  refine Fn.of (by decide) (Nat.le_of_ble_eq_true rfl) (fun x hC hZ => ?_)
  rw [wp_X5_cannotRenew] at h
  show G x g 3 0 0 (modW g a o) 0 [(0, .ref (a 0)), (1, .int p0), (2, .int p1)] []
  refine g_aload_n hC dX5_cannotRenew_0 1 rfl rfl 0 rfl ?_
  refine g_iload_n hC dX5_cannotRenew_1 2 rfl rfl 1 rfl ?_
  refine g_ownI hC (ct_X5_isNoResident l g a o p0 _ h) gY_X5_isNoResident dX5_cannotRenew_2 5 rfl ml_X5_204 [] rfl rfl rfl 0 9 rfl rfl ⟨Nat.le_of_ble_eq_true rfl, Nat.le_of_ble_eq_true rfl⟩ (Nat.le_of_ble_eq_true rfl) ⟨Nat.le_refl _, Nat.le_refl _⟩ (fun v2 o1 h => ?_)
  refine g_if_ne hC dX5_cannotRenew_5 50 (by decide) 8 rfl (fun c => ?_) (fun c => ?_)
  · have h := h.1 c
    refine g_iconst hC (1 : Int32) dX5_cannotRenew_50 51 rfl iconst_1 ?_
    refine g_goto hC dX5_cannotRenew_51 55 (by decide) ?_
    exact g_zret hC hZ rfl dX5_cannotRenew_55 ⟨_, _, rfl, rfl, h⟩
  · have h := h.2 c
    refine g_aload_n hC dX5_cannotRenew_8 9 rfl rfl 0 rfl ?_
    refine g_aload_n hC dX5_cannotRenew_9 10 rfl rfl 0 rfl ?_
    refine g_iload_n hC dX5_cannotRenew_10 11 rfl rfl 1 rfl ?_
    refine g_bipush hC (6 : Int32) dX5_cannotRenew_11 13 rfl bipush_6 ?_
    refine g_readV hC (ct_X5_s l g a o1 p0 (6 : Int32) _ h) gY_X5_s dX5_cannotRenew_13 16 rfl ml_X5_96 [] [] (by simp only [List.nil_append, List.append_nil]) [.ref (a 0)] rfl rfl rfl 0 9 rfl rfl ⟨Nat.le_of_ble_eq_true rfl, Nat.le_of_ble_eq_true rfl⟩ (Nat.le_of_ble_eq_true rfl) ⟨Nat.le_refl _, Nat.le_refl _⟩ (fun v3 h => ?_)
    refine g_iload_n hC dX5_cannotRenew_16 17 rfl rfl 2 rfl ?_
    refine g_iadd hC dX5_cannotRenew_17 18 rfl ?_
    refine g_aload_n hC dX5_cannotRenew_18 19 rfl rfl 0 rfl ?_
    refine g_get hC fl_X5_7 dX5_cannotRenew_19 22 rfl 0 rfl rfl ?_
    refine g_iconst hC (1 : Int32) dX5_cannotRenew_22 23 rfl iconst_1 ?_
    obtain ⟨hi, h⟩ := h
    refine g_iald hC dX5_cannotRenew_23 24 rfl 1 rfl hi ?_
    refine g_bipush hC (20 : Int32) dX5_cannotRenew_24 26 rfl bipush_20 ?_
    refine g_iadd hC dX5_cannotRenew_26 27 rfl ?_
    refine g_icmp_le hC dX5_cannotRenew_27 34 (by decide) 30 rfl (fun c => ?_) (fun c => ?_)
    · have h := h.1 c
      refine g_iconst hC (0 : Int32) dX5_cannotRenew_34 35 rfl iconst_0 ?_
      refine g_lv (lv2 := [(0, .ref (a 0)), (1, .int p0)]) [0, 1] rfl ?_
      exact jn_X5_cannotRenew_35 hC hZ o1 p0 (0 : Int32) h
    · have h := h.2 c
      refine g_iconst hC (1 : Int32) dX5_cannotRenew_30 31 rfl iconst_1 ?_
      refine g_goto hC dX5_cannotRenew_31 35 (by decide) ?_
      refine g_lv (lv2 := [(0, .ref (a 0)), (1, .int p0)]) [0, 1] rfl ?_
      exact jn_X5_cannotRenew_35 hC hZ o1 p0 (1 : Int32) h
def wp_X5_renews (post : Int32 → Off → Prop) (o : Off) (p0 : Int32) (p1 : Int32) : Prop := wp_X5_s (fun v1 => wp_X5_set (fun o2 => wp_X5_s (fun v3 => post v3 o2) o2 p0 (6 : Int32)) o p0 (6 : Int32) (v1 + p1)) o p0 (6 : Int32)
set_option maxRecDepth 100000 in
set_option maxHeartbeats 4000000 in
theorem ct_X5_renews (l : Launch) (g : gE) (a : Nat → Nat) (o : Off) (p0 : Int32) (p1 : Int32) (post : Int32 → Off → Prop) (h : wp_X5_renews post o p0 p1) : Fn l g yX5_renews cX5_renews 3 (some .int) 1 23 0 0 (modW g a o) [.ref (a 0), .int p0, .int p1] (pI (modW g a) post) := by
  refine Fn.of (by decide) (Nat.le_of_ble_eq_true rfl) (fun x hC hZ => ?_)
  rw [wp_X5_renews] at h
  show G x g 3 0 0 (modW g a o) 0 [(0, .ref (a 0)), (1, .int p0), (2, .int p1)] []
  refine g_aload_n hC dX5_renews_0 1 rfl rfl 0 rfl ?_
  refine g_iload_n hC dX5_renews_1 2 rfl rfl 1 rfl ?_
  refine g_bipush hC (6 : Int32) dX5_renews_2 4 rfl bipush_6 ?_
  refine g_aload_n hC dX5_renews_4 5 rfl rfl 0 rfl ?_
  refine g_iload_n hC dX5_renews_5 6 rfl rfl 1 rfl ?_
  refine g_bipush hC (6 : Int32) dX5_renews_6 8 rfl bipush_6 ?_
  refine g_readV hC (ct_X5_s l g a o p0 (6 : Int32) _ h) gY_X5_s dX5_renews_8 11 rfl ml_X5_96 [] [] (by simp only [List.nil_append, List.append_nil]) [.int (6 : Int32), .int p0, .ref (a 0)] rfl rfl rfl 0 9 rfl rfl ⟨Nat.le_of_ble_eq_true rfl, Nat.le_of_ble_eq_true rfl⟩ (Nat.le_of_ble_eq_true rfl) ⟨Nat.le_refl _, Nat.le_refl _⟩ (fun v1 h => ?_)
  refine g_iload_n hC dX5_renews_11 12 rfl rfl 2 rfl ?_
  refine g_iadd hC dX5_renews_12 13 rfl ?_
  refine g_ownV hC (ct_X5_set l g a o p0 (6 : Int32) (v1 + p1) _ h) gY_X5_set dX5_renews_13 16 rfl ml_X5_117 [] rfl rfl rfl 0 9 rfl rfl ⟨Nat.le_of_ble_eq_true rfl, Nat.le_of_ble_eq_true rfl⟩ (Nat.le_of_ble_eq_true rfl) ⟨Nat.le_refl _, Nat.le_refl _⟩ (fun o2 h => ?_)
  refine g_aload_n hC dX5_renews_16 17 rfl rfl 0 rfl ?_
  refine g_iload_n hC dX5_renews_17 18 rfl rfl 1 rfl ?_
  refine g_bipush hC (6 : Int32) dX5_renews_18 20 rfl bipush_6 ?_
  refine g_readV hC (ct_X5_s l g a o2 p0 (6 : Int32) _ h) gY_X5_s dX5_renews_20 23 rfl ml_X5_96 [] [] (by simp only [List.nil_append, List.append_nil]) [] rfl rfl rfl 0 9 rfl rfl ⟨Nat.le_of_ble_eq_true rfl, Nat.le_of_ble_eq_true rfl⟩ (Nat.le_of_ble_eq_true rfl) ⟨Nat.le_refl _, Nat.le_refl _⟩ (fun v3 h => ?_)
  exact g_iret hC hZ dX5_renews_23 ⟨_, _, rfl, rfl, h⟩
def wp_X5_renew (post : Int32 → Off → Prop) (o : Off) (p0 : Int32) (p1 : Int32) : Prop := wp_X5_begin (fun o1 => wp_X5_isSock (fun v2 => ((¬ v2 = 0 → wp_X5_in (fun v3 => ((¬ v3 = 0 → wp_X5_cannotRenew (fun v5 o4 => ((v5 = 0 → wp_X5_renews (fun v7 o6 => wp_X5_commit (fun v9 o8 => post v9 o8) o6 v7) o4 p0 p1) ∧ (¬ v5 = 0 → wp_X5_reject (fun v11 o10 => post v11 o10) o4 (3 : Int32)))) o1 p0 p1) ∧ (v3 = 0 → wp_X5_fail (fun v13 o12 => post v13 o12) o1 (2 : Int32)))) p1 (1 : Int32) (9 : Int32)) ∧ (v2 = 0 → wp_X5_fail (fun v15 o14 => post v15 o14) o1 (1 : Int32)))) o1 p0) o 
set_option maxRecDepth 100000 in
set_option maxHeartbeats 4000000 in
theorem ct_X5_renew (l : Launch) (g : gE) (a : Nat → Nat) (o : Off) (p0 : Int32) (p1 : Int32) (post : Int32 → Off → Prop) (h : wp_X5_renew post o p0 p1) : Fn l g yX5_renew cX5_renew 3 (some .int) 4 87 0 0 (modW g a o) [.ref (a 0), .int p0, .int p1] (pI (modW g a) post) := by
  refine Fn.of (by decide) (Nat.le_of_ble_eq_true rfl) (fun x hC hZ => ?_)
  rw [wp_X5_renew] at h
  show G x g 3 0 0 (modW g a o) 0 [(0, .ref (a 0)), (1, .int p0), (2, .int p1)] []
  refine g_aload_n hC dX5_renew_0 1 rfl rfl 0 rfl ?_
  refine g_ownV hC (ct_X5_begin l g a o  _ h) gY_X5_begin dX5_renew_1 4 rfl ml_X5_129 [] rfl rfl rfl 0 9 rfl rfl ⟨Nat.le_of_ble_eq_true rfl, Nat.le_of_ble_eq_true rfl⟩ (Nat.le_of_ble_eq_true rfl) ⟨Nat.le_refl _, Nat.le_refl _⟩ (fun o1 h => ?_)
  refine g_aload_n hC dX5_renew_4 5 rfl rfl 0 rfl ?_
  refine g_iload_n hC dX5_renew_5 6 rfl rfl 1 rfl ?_
  refine g_readV hC (ct_X5_isSock l g a o1 p0 _ h) gY_X5_isSock dX5_renew_6 9 rfl ml_X5_151 [] [] (by simp only [List.nil_append, List.append_nil]) [] rfl rfl rfl 0 9 rfl rfl ⟨Nat.le_of_ble_eq_true rfl, Nat.le_of_ble_eq_true rfl⟩ (Nat.le_of_ble_eq_true rfl) ⟨Nat.le_refl _, Nat.le_refl _⟩ (fun v2 h => ?_)
  refine g_if_ne hC dX5_renew_9 18 (by decide) 12 rfl (fun c => ?_) (fun c => ?_)
  · have h := h.1 c
    refine g_iload_n hC dX5_renew_18 19 rfl rfl 2 rfl ?_
    refine g_iconst hC (1 : Int32) dX5_renew_19 20 rfl iconst_1 ?_
    refine g_bipush hC (9 : Int32) dX5_renew_20 22 rfl bipush_9 ?_
    refine g_readS hC (ct_X5_in l g p1 (1 : Int32) (9 : Int32) _ h) gY_X5_in dX5_renew_22 25 rfl ml_X5_92 [] _ rfl [] rfl rfl ⟨Nat.le_of_ble_eq_true rfl, Nat.le_of_ble_eq_true rfl⟩ (Nat.le_of_ble_eq_true rfl) ⟨Nat.le_refl _, Nat.le_refl _⟩ (fun v3 h => ?_)
    refine g_if_ne hC dX5_renew_25 34 (by decide) 28 rfl (fun c => ?_) (fun c => ?_)
    · have h := h.1 c
      refine g_aload_n hC dX5_renew_34 35 rfl rfl 0 rfl ?_
      refine g_iload_n hC dX5_renew_35 36 rfl rfl 1 rfl ?_
      refine g_iload_n hC dX5_renew_36 37 rfl rfl 2 rfl ?_
      refine g_ownI hC (ct_X5_cannotRenew l g a o1 p0 p1 _ h) gY_X5_cannotRenew dX5_renew_37 40 rfl ml_X5_207 [] rfl rfl rfl 0 9 rfl rfl ⟨Nat.le_of_ble_eq_true rfl, Nat.le_of_ble_eq_true rfl⟩ (Nat.le_of_ble_eq_true rfl) ⟨Nat.le_refl _, Nat.le_refl _⟩ (fun v5 o4 h => ?_)
      refine g_if_eq hC dX5_renew_40 51 (by decide) 43 rfl (fun c => ?_) (fun c => ?_)
      · have h := h.1 c
        refine g_aload_n hC dX5_renew_51 52 rfl rfl 0 rfl ?_
        refine g_aload_n hC dX5_renew_52 53 rfl rfl 0 rfl ?_
        refine g_iload_n hC dX5_renew_53 54 rfl rfl 1 rfl ?_
        refine g_iload_n hC dX5_renew_54 55 rfl rfl 2 rfl ?_
        refine g_ownI hC (ct_X5_renews l g a o4 p0 p1 _ h) gY_X5_renews dX5_renew_55 58 rfl ml_X5_210 [.ref (a 0)] rfl rfl rfl 0 9 rfl rfl ⟨Nat.le_of_ble_eq_true rfl, Nat.le_of_ble_eq_true rfl⟩ (Nat.le_of_ble_eq_true rfl) ⟨Nat.le_refl _, Nat.le_refl _⟩ (fun v7 o6 h => ?_)
        refine g_ownI hC (ct_X5_commit l g a o6 v7 _ h) gY_X5_commit dX5_renew_58 61 rfl ml_X5_145 [] rfl rfl rfl 0 9 rfl rfl ⟨Nat.le_of_ble_eq_true rfl, Nat.le_of_ble_eq_true rfl⟩ (Nat.le_of_ble_eq_true rfl) ⟨Nat.le_refl _, Nat.le_refl _⟩ (fun v9 o8 h => ?_)
        exact g_iret hC hZ dX5_renew_61 ⟨_, _, rfl, rfl, h⟩
      · have h := h.2 c
        refine g_aload_n hC dX5_renew_43 44 rfl rfl 0 rfl ?_
        refine g_iconst hC (3 : Int32) dX5_renew_44 45 rfl iconst_3 ?_
        refine g_ownI hC (ct_X5_reject l g a o4 (3 : Int32) _ h) gY_X5_reject dX5_renew_45 48 rfl ml_X5_139 [] rfl rfl rfl 0 9 rfl rfl ⟨Nat.le_of_ble_eq_true rfl, Nat.le_of_ble_eq_true rfl⟩ (Nat.le_of_ble_eq_true rfl) ⟨Nat.le_refl _, Nat.le_refl _⟩ (fun v11 o10 h => ?_)
        refine g_goto hC dX5_renew_48 61 (by decide) ?_
        exact g_iret hC hZ dX5_renew_61 ⟨_, _, rfl, rfl, h⟩
    · have h := h.2 c
      refine g_aload_n hC dX5_renew_28 29 rfl rfl 0 rfl ?_
      refine g_iconst hC (2 : Int32) dX5_renew_29 30 rfl iconst_2 ?_
      refine g_ownI hC (ct_X5_fail l g a o1 (2 : Int32) _ h) gY_X5_fail dX5_renew_30 33 rfl ml_X5_88 [] rfl rfl rfl 0 9 rfl rfl ⟨Nat.le_of_ble_eq_true rfl, Nat.le_of_ble_eq_true rfl⟩ (Nat.le_of_ble_eq_true rfl) ⟨Nat.le_refl _, Nat.le_refl _⟩ (fun v13 o12 h => ?_)
      exact g_iret hC hZ dX5_renew_33 ⟨_, _, rfl, rfl, h⟩
  · have h := h.2 c
    refine g_aload_n hC dX5_renew_12 13 rfl rfl 0 rfl ?_
    refine g_iconst hC (1 : Int32) dX5_renew_13 14 rfl iconst_1 ?_
    refine g_ownI hC (ct_X5_fail l g a o1 (1 : Int32) _ h) gY_X5_fail dX5_renew_14 17 rfl ml_X5_88 [] rfl rfl rfl 0 9 rfl rfl ⟨Nat.le_of_ble_eq_true rfl, Nat.le_of_ble_eq_true rfl⟩ (Nat.le_of_ble_eq_true rfl) ⟨Nat.le_refl _, Nat.le_refl _⟩ (fun v15 o14 h => ?_)
    exact g_iret hC hZ dX5_renew_17 ⟨_, _, rfl, rfl, h⟩
def wp_X5_isBound (post : Int32 → Off → Prop) (o : Off) (p0 : Int32) : Prop := wp_X5_isPaired (fun v1 => wp_X5_s (fun v2 => wp_X5_notes (fun v4 o3 => (isB v4 ∧ post v4 o3)) o v1 (8 : Int32) v2) o p0 (7 : Int32)) o p0
set_option maxRecDepth 100000 in
set_option maxHeartbeats 4000000 in
theorem ct_X5_isBound (l : Launch) (g : gE) (a : Nat → Nat) (o : Off) (p0 : Int32) (post : Int32 → Off → Prop) (h : wp_X5_isBound post o p0) : Fn l g yX5_isBound cX5_isBound 2 (some .boolean) 2 43 0 0 (modW g a o) [.ref (a 0), .int p0] (pI (modW g a) post) := by
  refine Fn.of (by decide) (Nat.le_of_ble_eq_true rfl) (fun x hC hZ => ?_)
  rw [wp_X5_isBound] at h
  show G x g 2 0 0 (modW g a o) 0 [(0, .ref (a 0)), (1, .int p0)] []
  refine g_aload_n hC dX5_isBound_0 1 rfl rfl 0 rfl ?_
  refine g_aload_n hC dX5_isBound_1 2 rfl rfl 0 rfl ?_
  refine g_iload_n hC dX5_isBound_2 3 rfl rfl 1 rfl ?_
  refine g_readV hC (ct_X5_isPaired l g a o p0 _ h) gY_X5_isPaired dX5_isBound_3 6 rfl ml_X5_110 [] [] (by simp only [List.nil_append, List.append_nil]) [.ref (a 0)] rfl rfl rfl 0 9 rfl rfl ⟨Nat.le_of_ble_eq_true rfl, Nat.le_of_ble_eq_true rfl⟩ (Nat.le_of_ble_eq_true rfl) ⟨Nat.le_refl _, Nat.le_refl _⟩ (fun v1 h => ?_)
  refine g_bipush hC (8 : Int32) dX5_isBound_6 8 rfl bipush_8 ?_
  refine g_aload_n hC dX5_isBound_8 9 rfl rfl 0 rfl ?_
  refine g_iload_n hC dX5_isBound_9 10 rfl rfl 1 rfl ?_
  refine g_bipush hC (7 : Int32) dX5_isBound_10 12 rfl bipush_7 ?_
  refine g_readV hC (ct_X5_s l g a o p0 (7 : Int32) _ h) gY_X5_s dX5_isBound_12 15 rfl ml_X5_96 [] [] (by simp only [List.nil_append, List.append_nil]) [.int (8 : Int32), .int v1, .ref (a 0)] rfl rfl rfl 0 9 rfl rfl ⟨Nat.le_of_ble_eq_true rfl, Nat.le_of_ble_eq_true rfl⟩ (Nat.le_of_ble_eq_true rfl) ⟨Nat.le_refl _, Nat.le_refl _⟩ (fun v2 h => ?_)
  refine g_ownI hC (ct_X5_notes l g a o v1 (8 : Int32) v2 _ h) gY_X5_notes dX5_isBound_15 18 rfl ml_X5_121 [] rfl rfl rfl 0 9 rfl rfl ⟨Nat.le_of_ble_eq_true rfl, Nat.le_of_ble_eq_true rfl⟩ (Nat.le_of_ble_eq_true rfl) ⟨Nat.le_refl _, Nat.le_refl _⟩ (fun v4 o3 h => ?_)
  obtain ⟨hb, h⟩ := h
  exact g_zret hC hZ (isB_n hb) dX5_isBound_18 ⟨_, _, rfl, rfl, h⟩
def wp_X5_cannotLeave (post : Int32 → Off → Prop) (o : Off) (p0 : Int32) : Prop := wp_X5_isNoResident (fun v2 o1 => ((¬ v2 = 0 → post (1 : Int32) o1) ∧ (v2 = 0 → wp_X5_isBound (fun v4 o3 => ((v4 = 0 → post (0 : Int32) o3) ∧ (¬ v4 = 0 → post (1 : Int32) o3))) o1 p0))) o p0
set_option maxRecDepth 100000 in
set_option maxHeartbeats 4000000 in
theorem ct_X5_cannotLeave (l : Launch) (g : gE) (a : Nat → Nat) (o : Off) (p0 : Int32) (post : Int32 → Off → Prop) (h : wp_X5_cannotLeave post o p0) : Fn l g yX5_cannotLeave cX5_cannotLeave 2 (some .boolean) 3 65 0 0 (modW g a o) [.ref (a 0), .int p0] (pI (modW g a) post) := by
  refine Fn.of (by decide) (Nat.le_of_ble_eq_true rfl) (fun x hC hZ => ?_)
  rw [wp_X5_cannotLeave] at h
  show G x g 2 0 0 (modW g a o) 0 [(0, .ref (a 0)), (1, .int p0)] []
  refine g_aload_n hC dX5_cannotLeave_0 1 rfl rfl 0 rfl ?_
  refine g_iload_n hC dX5_cannotLeave_1 2 rfl rfl 1 rfl ?_
  refine g_ownI hC (ct_X5_isNoResident l g a o p0 _ h) gY_X5_isNoResident dX5_cannotLeave_2 5 rfl ml_X5_204 [] rfl rfl rfl 0 9 rfl rfl ⟨Nat.le_of_ble_eq_true rfl, Nat.le_of_ble_eq_true rfl⟩ (Nat.le_of_ble_eq_true rfl) ⟨Nat.le_refl _, Nat.le_refl _⟩ (fun v2 o1 h => ?_)
  refine g_if_ne hC dX5_cannotLeave_5 16 (by decide) 8 rfl (fun c => ?_) (fun c => ?_)
  · have h := h.1 c
    refine g_iconst hC (1 : Int32) dX5_cannotLeave_16 17 rfl iconst_1 ?_
    refine g_goto hC dX5_cannotLeave_17 21 (by decide) ?_
    exact g_zret hC hZ rfl dX5_cannotLeave_21 ⟨_, _, rfl, rfl, h⟩
  · have h := h.2 c
    refine g_aload_n hC dX5_cannotLeave_8 9 rfl rfl 0 rfl ?_
    refine g_iload_n hC dX5_cannotLeave_9 10 rfl rfl 1 rfl ?_
    refine g_ownI hC (ct_X5_isBound l g a o1 p0 _ h) gY_X5_isBound dX5_cannotLeave_10 13 rfl ml_X5_213 [] rfl rfl rfl 0 9 rfl rfl ⟨Nat.le_of_ble_eq_true rfl, Nat.le_of_ble_eq_true rfl⟩ (Nat.le_of_ble_eq_true rfl) ⟨Nat.le_refl _, Nat.le_refl _⟩ (fun v4 o3 h => ?_)
    refine g_if_eq hC dX5_cannotLeave_13 20 (by decide) 16 rfl (fun c => ?_) (fun c => ?_)
    · have h := h.1 c
      refine g_iconst hC (0 : Int32) dX5_cannotLeave_20 21 rfl iconst_0 ?_
      exact g_zret hC hZ rfl dX5_cannotLeave_21 ⟨_, _, rfl, rfl, h⟩
    · have h := h.2 c
      refine g_iconst hC (1 : Int32) dX5_cannotLeave_16 17 rfl iconst_1 ?_
      refine g_goto hC dX5_cannotLeave_17 21 (by decide) ?_
      exact g_zret hC hZ rfl dX5_cannotLeave_21 ⟨_, _, rfl, rfl, h⟩
def wp_X5_leaves (post : Int32 → Off → Prop) (o : Off) (p0 : Int32) : Prop := wp_X5_s (fun v1 => (vp_in (1 : Int32) 160 ∧ (∀ v2 : Int32, v2 = (v1 - (o 1 (1 : Int32).toNatClampNeg)) → wp_X5_sendsAway (fun o3 => post v2 o3) o p0))) o p0 (6 : Int32)
set_option maxRecDepth 100000 in
set_option maxHeartbeats 4000000 in
theorem ct_X5_leaves (l : Launch) (g : gE) (a : Nat → Nat) (o : Off) (p0 : Int32) (post : Int32 → Off → Prop) (h : wp_X5_leaves post o p0) : Fn l g yX5_leaves cX5_leaves 3 (some .int) 2 44 0 0 (modW g a o) [.ref (a 0), .int p0] (pI (modW g a) post) := by
  refine Fn.of (by decide) (Nat.le_of_ble_eq_true rfl) (fun x hC hZ => ?_)
  rw [wp_X5_leaves] at h
  show G x g 3 0 0 (modW g a o) 0 [(0, .ref (a 0)), (1, .int p0)] []
  refine g_aload_n hC dX5_leaves_0 1 rfl rfl 0 rfl ?_
  refine g_iload_n hC dX5_leaves_1 2 rfl rfl 1 rfl ?_
  refine g_bipush hC (6 : Int32) dX5_leaves_2 4 rfl bipush_6 ?_
  refine g_readV hC (ct_X5_s l g a o p0 (6 : Int32) _ h) gY_X5_s dX5_leaves_4 7 rfl ml_X5_96 [] [] (by simp only [List.nil_append, List.append_nil]) [] rfl rfl rfl 0 9 rfl rfl ⟨Nat.le_of_ble_eq_true rfl, Nat.le_of_ble_eq_true rfl⟩ (Nat.le_of_ble_eq_true rfl) ⟨Nat.le_refl _, Nat.le_refl _⟩ (fun v1 h => ?_)
  refine g_aload_n hC dX5_leaves_7 8 rfl rfl 0 rfl ?_
  refine g_get hC fl_X5_7 dX5_leaves_8 11 rfl 0 rfl rfl ?_
  refine g_iconst hC (1 : Int32) dX5_leaves_11 12 rfl iconst_1 ?_
  obtain ⟨hi, h⟩ := h
  refine g_iald hC dX5_leaves_12 13 rfl 1 rfl hi ?_
  refine g_isub hC dX5_leaves_13 14 rfl ?_
  refine g_topi (fun v2 ev2 => ?_)
  have h := h v2 ev2
  refine g_istore_n (lv2 := [(2, .int v2), (0, .ref (a 0)), (1, .int p0)]) hC dX5_leaves_14 15 rfl rfl (by decide) rfl ?_
  refine g_aload_n hC dX5_leaves_15 16 rfl rfl 1 rfl ?_
  refine g_iload_n hC dX5_leaves_16 17 rfl rfl 2 rfl ?_
  refine g_ownV hC (ct_X5_sendsAway l g a o p0 _ h) gY_X5_sendsAway dX5_leaves_17 20 rfl ml_X5_125 [] rfl rfl rfl 0 9 rfl rfl ⟨Nat.le_of_ble_eq_true rfl, Nat.le_of_ble_eq_true rfl⟩ (Nat.le_of_ble_eq_true rfl) ⟨Nat.le_refl _, Nat.le_refl _⟩ (fun o3 h => ?_)
  refine g_iload_n hC dX5_leaves_20 21 rfl rfl 0 rfl ?_
  exact g_iret hC hZ dX5_leaves_21 ⟨_, _, rfl, rfl, h⟩
def wp_X5_leave (post : Int32 → Off → Prop) (o : Off) (p0 : Int32) : Prop := wp_X5_begin (fun o1 => wp_X5_isSock (fun v2 => ((¬ v2 = 0 → wp_X5_cannotLeave (fun v4 o3 => ((v4 = 0 → wp_X5_leaves (fun v6 o5 => wp_X5_commit (fun v8 o7 => post v8 o7) o5 v6) o3 p0) ∧ (¬ v4 = 0 → wp_X5_reject (fun v10 o9 => post v10 o9) o3 (2 : Int32)))) o1 p0) ∧ (v2 = 0 → wp_X5_fail (fun v12 o11 => post v12 o11) o1 (1 : Int32)))) o1 p0) o 
set_option maxRecDepth 100000 in
set_option maxHeartbeats 4000000 in
theorem ct_X5_leave (l : Launch) (g : gE) (a : Nat → Nat) (o : Off) (p0 : Int32) (post : Int32 → Off → Prop) (h : wp_X5_leave post o p0) : Fn l g yX5_leave cX5_leave 2 (some .int) 4 86 0 0 (modW g a o) [.ref (a 0), .int p0] (pI (modW g a) post) := by
  refine Fn.of (by decide) (Nat.le_of_ble_eq_true rfl) (fun x hC hZ => ?_)
  rw [wp_X5_leave] at h
  show G x g 2 0 0 (modW g a o) 0 [(0, .ref (a 0)), (1, .int p0)] []
  refine g_aload_n hC dX5_leave_0 1 rfl rfl 0 rfl ?_
  refine g_ownV hC (ct_X5_begin l g a o  _ h) gY_X5_begin dX5_leave_1 4 rfl ml_X5_129 [] rfl rfl rfl 0 9 rfl rfl ⟨Nat.le_of_ble_eq_true rfl, Nat.le_of_ble_eq_true rfl⟩ (Nat.le_of_ble_eq_true rfl) ⟨Nat.le_refl _, Nat.le_refl _⟩ (fun o1 h => ?_)
  refine g_aload_n hC dX5_leave_4 5 rfl rfl 0 rfl ?_
  refine g_iload_n hC dX5_leave_5 6 rfl rfl 1 rfl ?_
  refine g_readV hC (ct_X5_isSock l g a o1 p0 _ h) gY_X5_isSock dX5_leave_6 9 rfl ml_X5_151 [] [] (by simp only [List.nil_append, List.append_nil]) [] rfl rfl rfl 0 9 rfl rfl ⟨Nat.le_of_ble_eq_true rfl, Nat.le_of_ble_eq_true rfl⟩ (Nat.le_of_ble_eq_true rfl) ⟨Nat.le_refl _, Nat.le_refl _⟩ (fun v2 h => ?_)
  refine g_if_ne hC dX5_leave_9 18 (by decide) 12 rfl (fun c => ?_) (fun c => ?_)
  · have h := h.1 c
    refine g_aload_n hC dX5_leave_18 19 rfl rfl 0 rfl ?_
    refine g_iload_n hC dX5_leave_19 20 rfl rfl 1 rfl ?_
    refine g_ownI hC (ct_X5_cannotLeave l g a o1 p0 _ h) gY_X5_cannotLeave dX5_leave_20 23 rfl ml_X5_216 [] rfl rfl rfl 0 9 rfl rfl ⟨Nat.le_of_ble_eq_true rfl, Nat.le_of_ble_eq_true rfl⟩ (Nat.le_of_ble_eq_true rfl) ⟨Nat.le_refl _, Nat.le_refl _⟩ (fun v4 o3 h => ?_)
    refine g_if_eq hC dX5_leave_23 34 (by decide) 26 rfl (fun c => ?_) (fun c => ?_)
    · have h := h.1 c
      refine g_aload_n hC dX5_leave_34 35 rfl rfl 0 rfl ?_
      refine g_aload_n hC dX5_leave_35 36 rfl rfl 0 rfl ?_
      refine g_iload_n hC dX5_leave_36 37 rfl rfl 1 rfl ?_
      refine g_ownI hC (ct_X5_leaves l g a o3 p0 _ h) gY_X5_leaves dX5_leave_37 40 rfl ml_X5_219 [.ref (a 0)] rfl rfl rfl 0 9 rfl rfl ⟨Nat.le_of_ble_eq_true rfl, Nat.le_of_ble_eq_true rfl⟩ (Nat.le_of_ble_eq_true rfl) ⟨Nat.le_refl _, Nat.le_refl _⟩ (fun v6 o5 h => ?_)
      refine g_ownI hC (ct_X5_commit l g a o5 v6 _ h) gY_X5_commit dX5_leave_40 43 rfl ml_X5_145 [] rfl rfl rfl 0 9 rfl rfl ⟨Nat.le_of_ble_eq_true rfl, Nat.le_of_ble_eq_true rfl⟩ (Nat.le_of_ble_eq_true rfl) ⟨Nat.le_refl _, Nat.le_refl _⟩ (fun v8 o7 h => ?_)
      exact g_iret hC hZ dX5_leave_43 ⟨_, _, rfl, rfl, h⟩
    · have h := h.2 c
      refine g_aload_n hC dX5_leave_26 27 rfl rfl 0 rfl ?_
      refine g_iconst hC (2 : Int32) dX5_leave_27 28 rfl iconst_2 ?_
      refine g_ownI hC (ct_X5_reject l g a o3 (2 : Int32) _ h) gY_X5_reject dX5_leave_28 31 rfl ml_X5_139 [] rfl rfl rfl 0 9 rfl rfl ⟨Nat.le_of_ble_eq_true rfl, Nat.le_of_ble_eq_true rfl⟩ (Nat.le_of_ble_eq_true rfl) ⟨Nat.le_refl _, Nat.le_refl _⟩ (fun v10 o9 h => ?_)
      refine g_goto hC dX5_leave_31 43 (by decide) ?_
      exact g_iret hC hZ dX5_leave_43 ⟨_, _, rfl, rfl, h⟩
  · have h := h.2 c
    refine g_aload_n hC dX5_leave_12 13 rfl rfl 0 rfl ?_
    refine g_iconst hC (1 : Int32) dX5_leave_13 14 rfl iconst_1 ?_
    refine g_ownI hC (ct_X5_fail l g a o1 (1 : Int32) _ h) gY_X5_fail dX5_leave_14 17 rfl ml_X5_88 [] rfl rfl rfl 0 9 rfl rfl ⟨Nat.le_of_ble_eq_true rfl, Nat.le_of_ble_eq_true rfl⟩ (Nat.le_of_ble_eq_true rfl) ⟨Nat.le_refl _, Nat.le_refl _⟩ (fun v12 o11 h => ?_)
    exact g_iret hC hZ dX5_leave_17 ⟨_, _, rfl, rfl, h⟩
def wp_X5_treatyOf (post : Int32 → Prop) (p0 : Int32) (p1 : Int32) : Prop := ((p1 ≤ p0 → post ((130 : Int32) + (((5 : Int32) * p1) + p0))) ∧ (¬ p1 ≤ p0 → post ((130 : Int32) + (((5 : Int32) * p0) + p1))))
set_option maxRecDepth 100000 in
set_option maxHeartbeats 4000000 in
theorem ct_X5_treatyOf (l : Launch) (g : gE) (p0 : Int32) (p1 : Int32) (post : Int32 → Prop) (h : wp_X5_treatyOf post p0 p1) : Fn l g yX5_treatyOf cX5_treatyOf 2 (some .int) 0 0 0 0 [] [.int p0, .int p1] (pR [] post) := by
  refine Fn.of (by decide) (Nat.le_of_ble_eq_true rfl) (fun x hC hZ => ?_)
  rw [wp_X5_treatyOf] at h
  show G x g 2 0 0 [] 0 [(0, .int p0), (1, .int p1)] []
  refine g_sipush hC (130 : Int32) dX5_treatyOf_0 3 rfl sipush_130 ?_
  refine g_iload_n hC dX5_treatyOf_3 4 rfl rfl 0 rfl ?_
  refine g_iload_n hC dX5_treatyOf_4 5 rfl rfl 1 rfl ?_
  refine g_icmp_ge hC dX5_treatyOf_5 16 (by decide) 8 rfl (fun c => ?_) (fun c => ?_)
  · have h := h.1 c
    refine g_iconst hC (5 : Int32) dX5_treatyOf_16 17 rfl iconst_5 ?_
    refine g_iload_n hC dX5_treatyOf_17 18 rfl rfl 1 rfl ?_
    refine g_imul hC dX5_treatyOf_18 19 rfl ?_
    refine g_iload_n hC dX5_treatyOf_19 20 rfl rfl 0 rfl ?_
    refine g_iadd hC dX5_treatyOf_20 21 rfl ?_
    refine g_iadd hC dX5_treatyOf_21 22 rfl ?_
    exact g_iret hC hZ dX5_treatyOf_22 ⟨_, rfl, rfl, h⟩
  · have h := h.2 c
    refine g_iconst hC (5 : Int32) dX5_treatyOf_8 9 rfl iconst_5 ?_
    refine g_iload_n hC dX5_treatyOf_9 10 rfl rfl 0 rfl ?_
    refine g_imul hC dX5_treatyOf_10 11 rfl ?_
    refine g_iload_n hC dX5_treatyOf_11 12 rfl rfl 1 rfl ?_
    refine g_iadd hC dX5_treatyOf_12 13 rfl ?_
    refine g_goto hC dX5_treatyOf_13 21 (by decide) ?_
    refine g_iadd hC dX5_treatyOf_21 22 rfl ?_
    exact g_iret hC hZ dX5_treatyOf_22 ⟨_, rfl, rfl, h⟩
def wj_X5_cannotMove_130 (post : Int32 → Off → Prop) (o : Off) (x1 : Int32) (x2 : Int32) (s0 : Int32) : Prop := (vp_in ((120 : Int32) + x2) 160 ∧ wp_X5_notes (fun v14 o13 => ((¬ v14 = 0 → post (1 : Int32) o13) ∧ (v14 = 0 → wp_X5_s (fun v15 => wp_X5_isShut (fun v16 => wp_X5_notes (fun v18 o17 => ((v18 = 0 → post (0 : Int32) o17) ∧ (¬ v18 = 0 → post (1 : Int32) o17))) o13 v16 (15 : Int32) x1) o13 x2 v15) o13 x1 (0 : Int32)))) o s0 (14 : Int32) (o 1 ((120 : Int32) + x2).toNatClampNeg))
def wj_X5_cannotMove_92 (post : Int32 → Off → Prop) (o : Off) (x1 : Int32) (x2 : Int32) (x3 : Int32) (s0 : Int32) : Prop := wp_X5_livingIn (fun v9 => wp_X5_notes (fun v11 o10 => ((v11 = 0 → wp_X5_livingIn (fun v12 => (vp_in ((120 : Int32) + x2) 160 ∧ ((v12 < (o10 1 ((120 : Int32) + x2).toNatClampNeg) → wj_X5_cannotMove_130 post o10 x1 x2 (0 : Int32)) ∧ (¬ v12 < (o10 1 ((120 : Int32) + x2).toNatClampNeg) → wj_X5_cannotMove_130 post o10 x1 x2 (1 : Int32))))) o10 x2) ∧ (¬ v11 = 0 → post (1 : Int32) o10))) o s0 (13 : Int32) v9) o x3
def wj_X5_cannotMove_91 (post : Int32 → Off → Prop) (o : Off) (x1 : Int32) (x2 : Int32) (x3 : Int32) : Prop := wj_X5_cannotMove_92 post o x1 x2 x3 (0 : Int32)
def wj_X5_cannotMove_57 (post : Int32 → Off → Prop) (o : Off) (x1 : Int32) (x2 : Int32) (x3 : Int32) (x4 : Int32) (s0 : Int32) : Prop := wp_X5_notes (fun v8 o7 => ((¬ v8 = 0 → post (1 : Int32) o7) ∧ (v8 = 0 → ((¬ x4 = (120 : Int32) → wj_X5_cannotMove_91 post o7 x1 x2 x3) ∧ (x4 = (120 : Int32) → wp_X5_livingIn (fun v19 => wp_X5_livingIn (fun v20 => ((v19 < v20 → wj_X5_cannotMove_91 post o7 x1 x2 x3) ∧ (¬ v19 < v20 → wj_X5_cannotMove_92 post o7 x1 x2 x3 (1 : Int32)))) o7 x3) o7 x2))))) o s0 (12 : Int32) x3
def wj_X5_cannotMove_44 (post : Int32 → Off → Prop) (o : Off) (x1 : Int32) (x2 : Int32) (x3 : Int32) (s0 : Int32) : Prop := ((¬ s0 = 0 → wj_X5_cannotMove_57 post o x1 x2 x3 s0 (0 : Int32)) ∧ (s0 = 0 → wj_X5_cannotMove_57 post o x1 x2 x3 s0 (1 : Int32)))
def wp_X5_cannotMove (post : Int32 → Off → Prop) (o : Off) (p0 : Int32) (p1 : Int32) : Prop := wp_X5_isNoResident (fun v2 o1 => ((¬ v2 = 0 → post (1 : Int32) o1) ∧ (v2 = 0 → wp_X5_isBound (fun v4 o3 => ((v4 = 0 → wp_X5_s (fun v5 => ((¬ v5 = p1 → wp_X5_treatyOf (fun v6 => (vp_in v6 160 ∧ wj_X5_cannotMove_44 post o3 p0 p1 v5 (o3 1 v6.toNatClampNeg))) v5 p1) ∧ (v5 = p1 → wj_X5_cannotMove_44 post o3 p0 p1 v5 (0 : Int32)))) o3 p0 (3 : Int32)) ∧ (¬ v4 = 0 → post (1 : Int32) o3))) o1 p0))) o p0
set_option maxRecDepth 100000 in
set_option maxHeartbeats 4000000 in
theorem jn_X5_cannotMove_130 {x : gX} {l : Launch} {g : gE} {a : Nat → Nat} {o0 : Off} {post : Int32 → Off → Prop} (hC : gC x l cX5_cannotMove 5 RX5 g 4 89 0 0) (hZ : gZ x g (some .boolean) (modW g a o0) (pI (modW g a) post) 0 0) : ∀ (o : Off) (x1 : Int32) (x2 : Int32) (s0 : Int32) , wj_X5_cannotMove_130 post o x1 x2 s0 → G x g 5 0 0 (modW g a o) 130 [(0, .ref (a 0)), (1, .int x1), (2, .int x2)] [.int s0, .ref (a 0)] := by
  intro o x1 x2 s0 h
  rw [wj_X5_cannotMove_130] at h
  refine g_bipush hC (14 : Int32) dX5_cannotMove_130 132 rfl bipush_14 ?_
  refine g_aload_n hC dX5_cannotMove_132 133 rfl rfl 0 rfl ?_
  refine g_get hC fl_X5_7 dX5_cannotMove_133 136 rfl 0 rfl rfl ?_
  refine g_bipush hC (120 : Int32) dX5_cannotMove_136 138 rfl bipush_120 ?_
  refine g_iload_n hC dX5_cannotMove_138 139 rfl rfl 2 rfl ?_
  refine g_iadd hC dX5_cannotMove_139 140 rfl ?_
  obtain ⟨hi, h⟩ := h
  refine g_iald hC dX5_cannotMove_140 141 rfl 1 rfl hi ?_
  refine g_ownI hC (ct_X5_notes l g a o s0 (14 : Int32) (o 1 ((120 : Int32) + x2).toNatClampNeg) _ h) gY_X5_notes dX5_cannotMove_141 144 rfl ml_X5_121 [] rfl rfl rfl 0 9 rfl rfl ⟨Nat.le_of_ble_eq_true rfl, Nat.le_of_ble_eq_true rfl⟩ (Nat.le_of_ble_eq_true rfl) ⟨Nat.le_refl _, Nat.le_refl _⟩ (fun v14 o13 h => ?_)
  refine g_if_ne hC dX5_cannotMove_144 168 (by decide) 147 rfl (fun c => ?_) (fun c => ?_)
  · have h := h.1 c
    refine g_iconst hC (1 : Int32) dX5_cannotMove_168 169 rfl iconst_1 ?_
    refine g_goto hC dX5_cannotMove_169 173 (by decide) ?_
    exact g_zret hC hZ rfl dX5_cannotMove_173 ⟨_, _, rfl, rfl, h⟩
  · have h := h.2 c
    refine g_aload_n hC dX5_cannotMove_147 148 rfl rfl 0 rfl ?_
    refine g_aload_n hC dX5_cannotMove_148 149 rfl rfl 0 rfl ?_
    refine g_iload_n hC dX5_cannotMove_149 150 rfl rfl 2 rfl ?_
    refine g_aload_n hC dX5_cannotMove_150 151 rfl rfl 0 rfl ?_
    refine g_iload_n hC dX5_cannotMove_151 152 rfl rfl 1 rfl ?_
    refine g_iconst hC (0 : Int32) dX5_cannotMove_152 153 rfl iconst_0 ?_
    refine g_readV hC (ct_X5_s l g a o13 x1 (0 : Int32) _ h) gY_X5_s dX5_cannotMove_153 156 rfl ml_X5_96 [] [] (by simp only [List.nil_append, List.append_nil]) [.int x2, .ref (a 0), .ref (a 0)] rfl rfl rfl 0 9 rfl rfl ⟨Nat.le_of_ble_eq_true rfl, Nat.le_of_ble_eq_true rfl⟩ (Nat.le_of_ble_eq_true rfl) ⟨Nat.le_refl _, Nat.le_refl _⟩ (fun v15 h => ?_)
    refine g_readV hC (ct_X5_isShut l g a o13 x2 v15 _ h) gY_X5_isShut dX5_cannotMove_156 159 rfl ml_X5_198 [] [] (by simp only [List.nil_append, List.append_nil]) [.ref (a 0)] rfl rfl rfl 0 9 rfl rfl ⟨Nat.le_of_ble_eq_true rfl, Nat.le_of_ble_eq_true rfl⟩ (Nat.le_of_ble_eq_true rfl) ⟨Nat.le_refl _, Nat.le_refl _⟩ (fun v16 h => ?_)
    refine g_bipush hC (15 : Int32) dX5_cannotMove_159 161 rfl bipush_15 ?_
    refine g_iload_n hC dX5_cannotMove_161 162 rfl rfl 1 rfl ?_
    refine g_ownI hC (ct_X5_notes l g a o13 v16 (15 : Int32) x1 _ h) gY_X5_notes dX5_cannotMove_162 165 rfl ml_X5_121 [] rfl rfl rfl 0 9 rfl rfl ⟨Nat.le_of_ble_eq_true rfl, Nat.le_of_ble_eq_true rfl⟩ (Nat.le_of_ble_eq_true rfl) ⟨Nat.le_refl _, Nat.le_refl _⟩ (fun v18 o17 h => ?_)
    refine g_if_eq hC dX5_cannotMove_165 172 (by decide) 168 rfl (fun c => ?_) (fun c => ?_)
    · have h := h.1 c
      refine g_iconst hC (0 : Int32) dX5_cannotMove_172 173 rfl iconst_0 ?_
      exact g_zret hC hZ rfl dX5_cannotMove_173 ⟨_, _, rfl, rfl, h⟩
    · have h := h.2 c
      refine g_iconst hC (1 : Int32) dX5_cannotMove_168 169 rfl iconst_1 ?_
      refine g_goto hC dX5_cannotMove_169 173 (by decide) ?_
      exact g_zret hC hZ rfl dX5_cannotMove_173 ⟨_, _, rfl, rfl, h⟩
set_option maxRecDepth 100000 in
set_option maxHeartbeats 4000000 in
theorem jn_X5_cannotMove_92 {x : gX} {l : Launch} {g : gE} {a : Nat → Nat} {o0 : Off} {post : Int32 → Off → Prop} (hC : gC x l cX5_cannotMove 5 RX5 g 4 89 0 0) (hZ : gZ x g (some .boolean) (modW g a o0) (pI (modW g a) post) 0 0) : ∀ (o : Off) (x1 : Int32) (x2 : Int32) (x3 : Int32) (s0 : Int32) , wj_X5_cannotMove_92 post o x1 x2 x3 s0 → G x g 5 0 0 (modW g a o) 92 [(0, .ref (a 0)), (1, .int x1), (2, .int x2), (3, .int x3)] [.int s0, .ref (a 0)] := by
  intro o x1 x2 x3 s0 h
  rw [wj_X5_cannotMove_92] at h
  refine g_bipush hC (13 : Int32) dX5_cannotMove_92 94 rfl bipush_13 ?_
  refine g_aload_n hC dX5_cannotMove_94 95 rfl rfl 0 rfl ?_
  refine g_iload_n hC dX5_cannotMove_95 96 rfl rfl 3 rfl ?_
  refine g_readV hC (ct_X5_livingIn l g a o x3 _ h) gY_X5_livingIn dX5_cannotMove_96 99 rfl ml_X5_195 [] [] (by simp only [List.nil_append, List.append_nil]) [.int (13 : Int32), .int s0, .ref (a 0)] rfl rfl rfl 0 9 rfl rfl ⟨Nat.le_of_ble_eq_true rfl, Nat.le_of_ble_eq_true rfl⟩ (Nat.le_of_ble_eq_true rfl) ⟨Nat.le_refl _, Nat.le_refl _⟩ (fun v9 h => ?_)
  refine g_ownI hC (ct_X5_notes l g a o s0 (13 : Int32) v9 _ h) gY_X5_notes dX5_cannotMove_99 102 rfl ml_X5_121 [] rfl rfl rfl 0 9 rfl rfl ⟨Nat.le_of_ble_eq_true rfl, Nat.le_of_ble_eq_true rfl⟩ (Nat.le_of_ble_eq_true rfl) ⟨Nat.le_refl _, Nat.le_refl _⟩ (fun v11 o10 h => ?_)
  refine g_if_eq hC dX5_cannotMove_102 107 (by decide) 105 rfl (fun c => ?_) (fun c => ?_)
  · have h := h.1 c
    refine g_aload_n hC dX5_cannotMove_107 108 rfl rfl 0 rfl ?_
    refine g_aload_n hC dX5_cannotMove_108 109 rfl rfl 0 rfl ?_
    refine g_iload_n hC dX5_cannotMove_109 110 rfl rfl 2 rfl ?_
    refine g_readV hC (ct_X5_livingIn l g a o10 x2 _ h) gY_X5_livingIn dX5_cannotMove_110 113 rfl ml_X5_195 [] [] (by simp only [List.nil_append, List.append_nil]) [.ref (a 0)] rfl rfl rfl 0 9 rfl rfl ⟨Nat.le_of_ble_eq_true rfl, Nat.le_of_ble_eq_true rfl⟩ (Nat.le_of_ble_eq_true rfl) ⟨Nat.le_refl _, Nat.le_refl _⟩ (fun v12 h => ?_)
    refine g_aload_n hC dX5_cannotMove_113 114 rfl rfl 0 rfl ?_
    refine g_get hC fl_X5_7 dX5_cannotMove_114 117 rfl 0 rfl rfl ?_
    refine g_bipush hC (120 : Int32) dX5_cannotMove_117 119 rfl bipush_120 ?_
    refine g_iload_n hC dX5_cannotMove_119 120 rfl rfl 2 rfl ?_
    refine g_iadd hC dX5_cannotMove_120 121 rfl ?_
    obtain ⟨hi, h⟩ := h
    refine g_iald hC dX5_cannotMove_121 122 rfl 1 rfl hi ?_
    refine g_icmp_lt hC dX5_cannotMove_122 129 (by decide) 125 rfl (fun c => ?_) (fun c => ?_)
    · have h := h.1 c
      refine g_iconst hC (0 : Int32) dX5_cannotMove_129 130 rfl iconst_0 ?_
      refine g_lv (lv2 := [(0, .ref (a 0)), (1, .int x1), (2, .int x2)]) [0, 1, 2] rfl ?_
      exact jn_X5_cannotMove_130 hC hZ o10 x1 x2 (0 : Int32) h
    · have h := h.2 c
      refine g_iconst hC (1 : Int32) dX5_cannotMove_125 126 rfl iconst_1 ?_
      refine g_goto hC dX5_cannotMove_126 130 (by decide) ?_
      refine g_lv (lv2 := [(0, .ref (a 0)), (1, .int x1), (2, .int x2)]) [0, 1, 2] rfl ?_
      exact jn_X5_cannotMove_130 hC hZ o10 x1 x2 (1 : Int32) h
  · have h := h.2 c
    refine g_iconst hC (1 : Int32) dX5_cannotMove_105 106 rfl iconst_1 ?_
    exact g_zret hC hZ rfl dX5_cannotMove_106 ⟨_, _, rfl, rfl, h⟩
set_option maxRecDepth 100000 in
set_option maxHeartbeats 4000000 in
theorem jn_X5_cannotMove_91 {x : gX} {l : Launch} {g : gE} {a : Nat → Nat} {o0 : Off} {post : Int32 → Off → Prop} (hC : gC x l cX5_cannotMove 5 RX5 g 4 89 0 0) (hZ : gZ x g (some .boolean) (modW g a o0) (pI (modW g a) post) 0 0) : ∀ (o : Off) (x1 : Int32) (x2 : Int32) (x3 : Int32) , wj_X5_cannotMove_91 post o x1 x2 x3 → G x g 5 0 0 (modW g a o) 91 [(0, .ref (a 0)), (1, .int x1), (2, .int x2), (3, .int x3)] [.ref (a 0)] := by
  intro o x1 x2 x3 h
  rw [wj_X5_cannotMove_91] at h
  refine g_iconst hC (0 : Int32) dX5_cannotMove_91 92 rfl iconst_0 ?_
  exact jn_X5_cannotMove_92 hC hZ o x1 x2 x3 (0 : Int32) h
set_option maxRecDepth 100000 in
set_option maxHeartbeats 4000000 in
theorem jn_X5_cannotMove_57 {x : gX} {l : Launch} {g : gE} {a : Nat → Nat} {o0 : Off} {post : Int32 → Off → Prop} (hC : gC x l cX5_cannotMove 5 RX5 g 4 89 0 0) (hZ : gZ x g (some .boolean) (modW g a o0) (pI (modW g a) post) 0 0) : ∀ (o : Off) (x1 : Int32) (x2 : Int32) (x3 : Int32) (x4 : Int32) (s0 : Int32) , wj_X5_cannotMove_57 post o x1 x2 x3 x4 s0 → G x g 5 0 0 (modW g a o) 57 [(0, .ref (a 0)), (1, .int x1), (2, .int x2), (3, .int x3), (4, .int x4)] [.int s0, .ref (a 0)] := by
  intro o x1 x2 x3 x4 s0 h
  rw [wj_X5_cannotMove_57] at h
  refine g_bipush hC (12 : Int32) dX5_cannotMove_57 59 rfl bipush_12 ?_
  refine g_iload_n hC dX5_cannotMove_59 60 rfl rfl 3 rfl ?_
  refine g_ownI hC (ct_X5_notes l g a o s0 (12 : Int32) x3 _ h) gY_X5_notes dX5_cannotMove_60 63 rfl ml_X5_121 [] rfl rfl rfl 0 9 rfl rfl ⟨Nat.le_of_ble_eq_true rfl, Nat.le_of_ble_eq_true rfl⟩ (Nat.le_of_ble_eq_true rfl) ⟨Nat.le_refl _, Nat.le_refl _⟩ (fun v8 o7 h => ?_)
  refine g_if_ne hC dX5_cannotMove_63 105 (by decide) 66 rfl (fun c => ?_) (fun c => ?_)
  · have h := h.1 c
    refine g_iconst hC (1 : Int32) dX5_cannotMove_105 106 rfl iconst_1 ?_
    exact g_zret hC hZ rfl dX5_cannotMove_106 ⟨_, _, rfl, rfl, h⟩
  · have h := h.2 c
    refine g_aload_n hC dX5_cannotMove_66 67 rfl rfl 0 rfl ?_
    refine g_iload hC dX5_cannotMove_67 69 rfl 4 rfl ?_
    refine g_bipush hC (120 : Int32) dX5_cannotMove_69 71 rfl bipush_120 ?_
    refine g_icmp_ne hC dX5_cannotMove_71 91 (by decide) 74 rfl (fun c => ?_) (fun c => ?_)
    · have h := h.1 c
      refine g_lv (lv2 := [(0, .ref (a 0)), (1, .int x1), (2, .int x2), (3, .int x3)]) [0, 1, 2, 3] rfl ?_
      exact jn_X5_cannotMove_91 hC hZ o7 x1 x2 x3 h
    · have h := h.2 c
      refine g_aload_n hC dX5_cannotMove_74 75 rfl rfl 0 rfl ?_
      refine g_iload_n hC dX5_cannotMove_75 76 rfl rfl 2 rfl ?_
      refine g_readV hC (ct_X5_livingIn l g a o7 x2 _ h) gY_X5_livingIn dX5_cannotMove_76 79 rfl ml_X5_195 [] [] (by simp only [List.nil_append, List.append_nil]) [.ref (a 0)] rfl rfl rfl 0 9 rfl rfl ⟨Nat.le_of_ble_eq_true rfl, Nat.le_of_ble_eq_true rfl⟩ (Nat.le_of_ble_eq_true rfl) ⟨Nat.le_refl _, Nat.le_refl _⟩ (fun v19 h => ?_)
      refine g_aload_n hC dX5_cannotMove_79 80 rfl rfl 0 rfl ?_
      refine g_iload_n hC dX5_cannotMove_80 81 rfl rfl 3 rfl ?_
      refine g_readV hC (ct_X5_livingIn l g a o7 x3 _ h) gY_X5_livingIn dX5_cannotMove_81 84 rfl ml_X5_195 [] [] (by simp only [List.nil_append, List.append_nil]) [.int v19, .ref (a 0)] rfl rfl rfl 0 9 rfl rfl ⟨Nat.le_of_ble_eq_true rfl, Nat.le_of_ble_eq_true rfl⟩ (Nat.le_of_ble_eq_true rfl) ⟨Nat.le_refl _, Nat.le_refl _⟩ (fun v20 h => ?_)
      refine g_icmp_lt hC dX5_cannotMove_84 91 (by decide) 87 rfl (fun c => ?_) (fun c => ?_)
      · have h := h.1 c
        refine g_lv (lv2 := [(0, .ref (a 0)), (1, .int x1), (2, .int x2), (3, .int x3)]) [0, 1, 2, 3] rfl ?_
        exact jn_X5_cannotMove_91 hC hZ o7 x1 x2 x3 h
      · have h := h.2 c
        refine g_iconst hC (1 : Int32) dX5_cannotMove_87 88 rfl iconst_1 ?_
        refine g_goto hC dX5_cannotMove_88 92 (by decide) ?_
        refine g_lv (lv2 := [(0, .ref (a 0)), (1, .int x1), (2, .int x2), (3, .int x3)]) [0, 1, 2, 3] rfl ?_
        exact jn_X5_cannotMove_92 hC hZ o7 x1 x2 x3 (1 : Int32) h
set_option maxRecDepth 100000 in
set_option maxHeartbeats 4000000 in
theorem jn_X5_cannotMove_44 {x : gX} {l : Launch} {g : gE} {a : Nat → Nat} {o0 : Off} {post : Int32 → Off → Prop} (hC : gC x l cX5_cannotMove 5 RX5 g 4 89 0 0) (hZ : gZ x g (some .boolean) (modW g a o0) (pI (modW g a) post) 0 0) : ∀ (o : Off) (x1 : Int32) (x2 : Int32) (x3 : Int32) (s0 : Int32) , wj_X5_cannotMove_44 post o x1 x2 x3 s0 → G x g 5 0 0 (modW g a o) 44 [(0, .ref (a 0)), (1, .int x1), (2, .int x2), (3, .int x3)] [.int s0] := by
  intro o x1 x2 x3 s0 h
  rw [wj_X5_cannotMove_44] at h
  refine g_istore (lv2 := [(4, .int s0), (0, .ref (a 0)), (1, .int x1), (2, .int x2), (3, .int x3)]) hC dX5_cannotMove_44 46 rfl (by decide) rfl ?_
  refine g_aload_n hC dX5_cannotMove_46 47 rfl rfl 1 rfl ?_
  refine g_iload hC dX5_cannotMove_47 49 rfl 0 rfl ?_
  refine g_if_ne hC dX5_cannotMove_49 56 (by decide) 52 rfl (fun c => ?_) (fun c => ?_)
  · have h := h.1 c
    refine g_iconst hC (0 : Int32) dX5_cannotMove_56 57 rfl iconst_0 ?_
    refine g_lv (lv2 := [(0, .ref (a 0)), (1, .int x1), (2, .int x2), (3, .int x3), (4, .int s0)]) [1, 2, 3, 4, 0] rfl ?_
    exact jn_X5_cannotMove_57 hC hZ o x1 x2 x3 s0 (0 : Int32) h
  · have h := h.2 c
    refine g_iconst hC (1 : Int32) dX5_cannotMove_52 53 rfl iconst_1 ?_
    refine g_goto hC dX5_cannotMove_53 57 (by decide) ?_
    refine g_lv (lv2 := [(0, .ref (a 0)), (1, .int x1), (2, .int x2), (3, .int x3), (4, .int s0)]) [1, 2, 3, 4, 0] rfl ?_
    exact jn_X5_cannotMove_57 hC hZ o x1 x2 x3 s0 (1 : Int32) h
set_option maxRecDepth 100000 in
set_option maxHeartbeats 4000000 in
theorem ct_X5_cannotMove (l : Launch) (g : gE) (a : Nat → Nat) (o : Off) (p0 : Int32) (p1 : Int32) (post : Int32 → Off → Prop) (h : wp_X5_cannotMove post o p0 p1) : Fn l g yX5_cannotMove cX5_cannotMove 5 (some .boolean) 4 89 0 0 (modW g a o) [.ref (a 0), .int p0, .int p1] (pI (modW g a) post) := by
  refine Fn.of (by decide) (Nat.le_of_ble_eq_true rfl) (fun x hC hZ => ?_)
  rw [wp_X5_cannotMove] at h
  show G x g 5 0 0 (modW g a o) 0 [(0, .ref (a 0)), (1, .int p0), (2, .int p1)] []
  refine g_aload_n hC dX5_cannotMove_0 1 rfl rfl 0 rfl ?_
  refine g_iload_n hC dX5_cannotMove_1 2 rfl rfl 1 rfl ?_
  refine g_ownI hC (ct_X5_isNoResident l g a o p0 _ h) gY_X5_isNoResident dX5_cannotMove_2 5 rfl ml_X5_204 [] rfl rfl rfl 0 9 rfl rfl ⟨Nat.le_of_ble_eq_true rfl, Nat.le_of_ble_eq_true rfl⟩ (Nat.le_of_ble_eq_true rfl) ⟨Nat.le_refl _, Nat.le_refl _⟩ (fun v2 o1 h => ?_)
  refine g_if_ne hC dX5_cannotMove_5 16 (by decide) 8 rfl (fun c => ?_) (fun c => ?_)
  · have h := h.1 c
    refine g_iconst hC (1 : Int32) dX5_cannotMove_16 17 rfl iconst_1 ?_
    exact g_zret hC hZ rfl dX5_cannotMove_17 ⟨_, _, rfl, rfl, h⟩
  · have h := h.2 c
    refine g_aload_n hC dX5_cannotMove_8 9 rfl rfl 0 rfl ?_
    refine g_iload_n hC dX5_cannotMove_9 10 rfl rfl 1 rfl ?_
    refine g_ownI hC (ct_X5_isBound l g a o1 p0 _ h) gY_X5_isBound dX5_cannotMove_10 13 rfl ml_X5_213 [] rfl rfl rfl 0 9 rfl rfl ⟨Nat.le_of_ble_eq_true rfl, Nat.le_of_ble_eq_true rfl⟩ (Nat.le_of_ble_eq_true rfl) ⟨Nat.le_refl _, Nat.le_refl _⟩ (fun v4 o3 h => ?_)
    refine g_if_eq hC dX5_cannotMove_13 18 (by decide) 16 rfl (fun c => ?_) (fun c => ?_)
    · have h := h.1 c
      refine g_aload_n hC dX5_cannotMove_18 19 rfl rfl 0 rfl ?_
      refine g_iload_n hC dX5_cannotMove_19 20 rfl rfl 1 rfl ?_
      refine g_iconst hC (3 : Int32) dX5_cannotMove_20 21 rfl iconst_3 ?_
      refine g_readV hC (ct_X5_s l g a o3 p0 (3 : Int32) _ h) gY_X5_s dX5_cannotMove_21 24 rfl ml_X5_96 [] [] (by simp only [List.nil_append, List.append_nil]) [] rfl rfl rfl 0 9 rfl rfl ⟨Nat.le_of_ble_eq_true rfl, Nat.le_of_ble_eq_true rfl⟩ (Nat.le_of_ble_eq_true rfl) ⟨Nat.le_refl _, Nat.le_refl _⟩ (fun v5 h => ?_)
      refine g_istore_n (lv2 := [(3, .int v5), (0, .ref (a 0)), (1, .int p0), (2, .int p1)]) hC dX5_cannotMove_24 25 rfl rfl (by decide) rfl ?_
      refine g_iload_n hC dX5_cannotMove_25 26 rfl rfl 0 rfl ?_
      refine g_iload_n hC dX5_cannotMove_26 27 rfl rfl 3 rfl ?_
      refine g_icmp_ne hC dX5_cannotMove_27 34 (by decide) 30 rfl (fun c => ?_) (fun c => ?_)
      · have h := h.1 c
        refine g_aload_n hC dX5_cannotMove_34 35 rfl rfl 1 rfl ?_
        refine g_get hC fl_X5_7 dX5_cannotMove_35 38 rfl 0 rfl rfl ?_
        refine g_iload_n hC dX5_cannotMove_38 39 rfl rfl 0 rfl ?_
        refine g_iload_n hC dX5_cannotMove_39 40 rfl rfl 3 rfl ?_
        refine g_readS hC (ct_X5_treatyOf l g v5 p1 _ h) gY_X5_treatyOf dX5_cannotMove_40 43 rfl ml_X5_222 [] _ rfl [.ref (a 1)] rfl rfl ⟨Nat.le_of_ble_eq_true rfl, Nat.le_of_ble_eq_true rfl⟩ (Nat.le_of_ble_eq_true rfl) ⟨Nat.le_refl _, Nat.le_refl _⟩ (fun v6 h => ?_)
        obtain ⟨hi, h⟩ := h
        refine g_iald hC dX5_cannotMove_43 44 rfl 1 rfl hi ?_
        refine g_lv (lv2 := [(0, .ref (a 0)), (1, .int p0), (2, .int p1), (3, .int v5)]) [1, 2, 3, 0] rfl ?_
        exact jn_X5_cannotMove_44 hC hZ o3 p0 p1 v5 (o3 1 v6.toNatClampNeg) h
      · have h := h.2 c
        refine g_iconst hC (0 : Int32) dX5_cannotMove_30 31 rfl iconst_0 ?_
        refine g_goto hC dX5_cannotMove_31 44 (by decide) ?_
        refine g_lv (lv2 := [(0, .ref (a 0)), (1, .int p0), (2, .int p1), (3, .int v5)]) [1, 2, 3, 0] rfl ?_
        exact jn_X5_cannotMove_44 hC hZ o3 p0 p1 v5 (0 : Int32) h
    · have h := h.2 c
      refine g_iconst hC (1 : Int32) dX5_cannotMove_16 17 rfl iconst_1 ?_
      exact g_zret hC hZ rfl dX5_cannotMove_17 ⟨_, _, rfl, rfl, h⟩
def wj_X5_moves_48 (post : Int32 → Off → Prop) (o : Off) (x1 : Int32) (x2 : Int32) : Prop := wp_X5_set (fun o4 => wp_X5_s (fun v5 => post v5 o4) o4 x1 (6 : Int32)) o x1 (3 : Int32) x2
def wp_X5_moves (post : Int32 → Off → Prop) (o : Off) (p0 : Int32) (p1 : Int32) : Prop := (vp_in (1 : Int32) 160 ∧ (∀ v1 : Int32, v1 = ((o 1 (1 : Int32).toNatClampNeg) + (3 : Int32)) → wp_X5_s (fun v2 => wp_X5_treatyOf (fun v3 => (vp_in v3 160 ∧ ((¬ (o 1 v3.toNatClampNeg) = (115 : Int32) → wj_X5_moves_48 post o p0 p1) ∧ ((o 1 v3.toNatClampNeg) = (115 : Int32) → wp_X5_s (fun v6 => ((v6 ≤ v1 → wj_X5_moves_48 post o p0 p1) ∧ (¬ v6 ≤ v1 → wp_X5_set (fun o7 => wj_X5_moves_48 post o7 p0 p1) o p0 (6 : Int32) v1))) o p0 (6 : Int32))))) v2 p1) o p0 (3 : Int32)))
set_option maxRecDepth 100000 in
set_option maxHeartbeats 4000000 in
theorem jn_X5_moves_48 {x : gX} {l : Launch} {g : gE} {a : Nat → Nat} {o0 : Off} {post : Int32 → Off → Prop} (hC : gC x l cX5_moves 4 RX5 g 1 23 0 0) (hZ : gZ x g (some .int) (modW g a o0) (pI (modW g a) post) 0 0) : ∀ (o : Off) (x1 : Int32) (x2 : Int32) , wj_X5_moves_48 post o x1 x2 → G x g 4 0 0 (modW g a o) 48 [(0, .ref (a 0)), (1, .int x1), (2, .int x2)] [] := by
  intro o x1 x2 h
  rw [wj_X5_moves_48] at h
  refine g_aload_n hC dX5_moves_48 49 rfl rfl 0 rfl ?_
  refine g_iload_n hC dX5_moves_49 50 rfl rfl 1 rfl ?_
  refine g_iconst hC (3 : Int32) dX5_moves_50 51 rfl iconst_3 ?_
  refine g_iload_n hC dX5_moves_51 52 rfl rfl 2 rfl ?_
  refine g_ownV hC (ct_X5_set l g a o x1 (3 : Int32) x2 _ h) gY_X5_set dX5_moves_52 55 rfl ml_X5_117 [] rfl rfl rfl 0 9 rfl rfl ⟨Nat.le_of_ble_eq_true rfl, Nat.le_of_ble_eq_true rfl⟩ (Nat.le_of_ble_eq_true rfl) ⟨Nat.le_refl _, Nat.le_refl _⟩ (fun o4 h => ?_)
  refine g_aload_n hC dX5_moves_55 56 rfl rfl 0 rfl ?_
  refine g_iload_n hC dX5_moves_56 57 rfl rfl 1 rfl ?_
  refine g_bipush hC (6 : Int32) dX5_moves_57 59 rfl bipush_6 ?_
  refine g_readV hC (ct_X5_s l g a o4 x1 (6 : Int32) _ h) gY_X5_s dX5_moves_59 62 rfl ml_X5_96 [] [] (by simp only [List.nil_append, List.append_nil]) [] rfl rfl rfl 0 9 rfl rfl ⟨Nat.le_of_ble_eq_true rfl, Nat.le_of_ble_eq_true rfl⟩ (Nat.le_of_ble_eq_true rfl) ⟨Nat.le_refl _, Nat.le_refl _⟩ (fun v5 h => ?_)
  exact g_iret hC hZ dX5_moves_62 ⟨_, _, rfl, rfl, h⟩
set_option maxRecDepth 100000 in
set_option maxHeartbeats 4000000 in
theorem ct_X5_moves (l : Launch) (g : gE) (a : Nat → Nat) (o : Off) (p0 : Int32) (p1 : Int32) (post : Int32 → Off → Prop) (h : wp_X5_moves post o p0 p1) : Fn l g yX5_moves cX5_moves 4 (some .int) 1 23 0 0 (modW g a o) [.ref (a 0), .int p0, .int p1] (pI (modW g a) post) := by
  refine Fn.of (by decide) (Nat.le_of_ble_eq_true rfl) (fun x hC hZ => ?_)
  rw [wp_X5_moves] at h
  show G x g 4 0 0 (modW g a o) 0 [(0, .ref (a 0)), (1, .int p0), (2, .int p1)] []
  refine g_aload_n hC dX5_moves_0 1 rfl rfl 0 rfl ?_
  refine g_get hC fl_X5_7 dX5_moves_1 4 rfl 0 rfl rfl ?_
  refine g_iconst hC (1 : Int32) dX5_moves_4 5 rfl iconst_1 ?_
  obtain ⟨hi, h⟩ := h
  refine g_iald hC dX5_moves_5 6 rfl 1 rfl hi ?_
  refine g_iconst hC (3 : Int32) dX5_moves_6 7 rfl iconst_3 ?_
  refine g_iadd hC dX5_moves_7 8 rfl ?_
  refine g_topi (fun v1 ev1 => ?_)
  have h := h v1 ev1
  refine g_istore_n (lv2 := [(3, .int v1), (0, .ref (a 0)), (1, .int p0), (2, .int p1)]) hC dX5_moves_8 9 rfl rfl (by decide) rfl ?_
  refine g_aload_n hC dX5_moves_9 10 rfl rfl 1 rfl ?_
  refine g_get hC fl_X5_7 dX5_moves_10 13 rfl 0 rfl rfl ?_
  refine g_aload_n hC dX5_moves_13 14 rfl rfl 1 rfl ?_
  refine g_iload_n hC dX5_moves_14 15 rfl rfl 2 rfl ?_
  refine g_iconst hC (3 : Int32) dX5_moves_15 16 rfl iconst_3 ?_
  refine g_readV hC (ct_X5_s l g a o p0 (3 : Int32) _ h) gY_X5_s dX5_moves_16 19 rfl ml_X5_96 [] [] (by simp only [List.nil_append, List.append_nil]) [.ref (a 1)] rfl rfl rfl 0 9 rfl rfl ⟨Nat.le_of_ble_eq_true rfl, Nat.le_of_ble_eq_true rfl⟩ (Nat.le_of_ble_eq_true rfl) ⟨Nat.le_refl _, Nat.le_refl _⟩ (fun v2 h => ?_)
  refine g_iload_n hC dX5_moves_19 20 rfl rfl 3 rfl ?_
  refine g_readS hC (ct_X5_treatyOf l g v2 p1 _ h) gY_X5_treatyOf dX5_moves_20 23 rfl ml_X5_222 [] _ rfl [.ref (a 1)] rfl rfl ⟨Nat.le_of_ble_eq_true rfl, Nat.le_of_ble_eq_true rfl⟩ (Nat.le_of_ble_eq_true rfl) ⟨Nat.le_refl _, Nat.le_refl _⟩ (fun v3 h => ?_)
  obtain ⟨hi, h⟩ := h
  refine g_iald hC dX5_moves_23 24 rfl 1 rfl hi ?_
  refine g_bipush hC (115 : Int32) dX5_moves_24 26 rfl bipush_115 ?_
  refine g_icmp_ne hC dX5_moves_26 48 (by decide) 29 rfl (fun c => ?_) (fun c => ?_)
  · have h := h.1 c
    refine g_lv (lv2 := [(0, .ref (a 0)), (1, .int p0), (2, .int p1)]) [1, 2, 3] rfl ?_
    exact jn_X5_moves_48 hC hZ o p0 p1 h
  · have h := h.2 c
    refine g_aload_n hC dX5_moves_29 30 rfl rfl 1 rfl ?_
    refine g_iload_n hC dX5_moves_30 31 rfl rfl 2 rfl ?_
    refine g_bipush hC (6 : Int32) dX5_moves_31 33 rfl bipush_6 ?_
    refine g_readV hC (ct_X5_s l g a o p0 (6 : Int32) _ h) gY_X5_s dX5_moves_33 36 rfl ml_X5_96 [] [] (by simp only [List.nil_append, List.append_nil]) [] rfl rfl rfl 0 9 rfl rfl ⟨Nat.le_of_ble_eq_true rfl, Nat.le_of_ble_eq_true rfl⟩ (Nat.le_of_ble_eq_true rfl) ⟨Nat.le_refl _, Nat.le_refl _⟩ (fun v6 h => ?_)
    refine g_iload_n hC dX5_moves_36 37 rfl rfl 0 rfl ?_
    refine g_icmp_le hC dX5_moves_37 48 (by decide) 40 rfl (fun c => ?_) (fun c => ?_)
    · have h := h.1 c
      refine g_lv (lv2 := [(0, .ref (a 0)), (1, .int p0), (2, .int p1)]) [1, 2, 3] rfl ?_
      exact jn_X5_moves_48 hC hZ o p0 p1 h
    · have h := h.2 c
      refine g_aload_n hC dX5_moves_40 41 rfl rfl 1 rfl ?_
      refine g_iload_n hC dX5_moves_41 42 rfl rfl 2 rfl ?_
      refine g_bipush hC (6 : Int32) dX5_moves_42 44 rfl bipush_6 ?_
      refine g_iload_n hC dX5_moves_44 45 rfl rfl 0 rfl ?_
      refine g_ownV hC (ct_X5_set l g a o p0 (6 : Int32) v1 _ h) gY_X5_set dX5_moves_45 48 rfl ml_X5_117 [] rfl rfl rfl 0 9 rfl rfl ⟨Nat.le_of_ble_eq_true rfl, Nat.le_of_ble_eq_true rfl⟩ (Nat.le_of_ble_eq_true rfl) ⟨Nat.le_refl _, Nat.le_refl _⟩ (fun o7 h => ?_)
      refine g_lv (lv2 := [(0, .ref (a 0)), (1, .int p0), (2, .int p1)]) [1, 2, 3] rfl ?_
      exact jn_X5_moves_48 hC hZ o7 p0 p1 h
def wj_X5_move_19 (post : Int32 → Off → Prop) (o : Off) : Prop := wp_X5_fail (fun v4 o3 => post v4 o3) o (1 : Int32)
def wp_X5_move (post : Int32 → Off → Prop) (o : Off) (p0 : Int32) (p1 : Int32) : Prop := wp_X5_begin (fun o1 => wp_X5_isSock (fun v2 => ((v2 = 0 → wj_X5_move_19 post o1) ∧ (¬ v2 = 0 → wp_X5_isDrawer (fun v5 => ((¬ v5 = 0 → wp_X5_cannotMove (fun v7 o6 => ((v7 = 0 → wp_X5_moves (fun v9 o8 => wp_X5_commit (fun v11 o10 => post v11 o10) o8 v9) o6 p0 p1) ∧ (¬ v7 = 0 → wp_X5_reject (fun v13 o12 => post v13 o12) o6 (2 : Int32)))) o1 p0 p1) ∧ (v5 = 0 → wj_X5_move_19 post o1))) p1))) o1 p0) o 
set_option maxRecDepth 100000 in
set_option maxHeartbeats 4000000 in
theorem jn_X5_move_19 {x : gX} {l : Launch} {g : gE} {a : Nat → Nat} {o0 : Off} {post : Int32 → Off → Prop} (hC : gC x l cX5_move 3 RX5 g 5 113 0 0) (hZ : gZ x g (some .int) (modW g a o0) (pI (modW g a) post) 0 0) : ∀ (o : Off) , wj_X5_move_19 post o → G x g 3 0 0 (modW g a o) 19 [(0, .ref (a 0))] [] := by
  intro o h
  rw [wj_X5_move_19] at h
  refine g_aload_n hC dX5_move_19 20 rfl rfl 0 rfl ?_
  refine g_iconst hC (1 : Int32) dX5_move_20 21 rfl iconst_1 ?_
  refine g_ownI hC (ct_X5_fail l g a o (1 : Int32) _ h) gY_X5_fail dX5_move_21 24 rfl ml_X5_88 [] rfl rfl rfl 0 9 rfl rfl ⟨Nat.le_of_ble_eq_true rfl, Nat.le_of_ble_eq_true rfl⟩ (Nat.le_of_ble_eq_true rfl) ⟨Nat.le_refl _, Nat.le_refl _⟩ (fun v4 o3 h => ?_)
  exact g_iret hC hZ dX5_move_24 ⟨_, _, rfl, rfl, h⟩
set_option maxRecDepth 100000 in
set_option maxHeartbeats 4000000 in
theorem ct_X5_move (l : Launch) (g : gE) (a : Nat → Nat) (o : Off) (p0 : Int32) (p1 : Int32) (post : Int32 → Off → Prop) (h : wp_X5_move post o p0 p1) : Fn l g yX5_move cX5_move 3 (some .int) 5 113 0 0 (modW g a o) [.ref (a 0), .int p0, .int p1] (pI (modW g a) post) := by
  refine Fn.of (by decide) (Nat.le_of_ble_eq_true rfl) (fun x hC hZ => ?_)
  rw [wp_X5_move] at h
  show G x g 3 0 0 (modW g a o) 0 [(0, .ref (a 0)), (1, .int p0), (2, .int p1)] []
  refine g_aload_n hC dX5_move_0 1 rfl rfl 0 rfl ?_
  refine g_ownV hC (ct_X5_begin l g a o  _ h) gY_X5_begin dX5_move_1 4 rfl ml_X5_129 [] rfl rfl rfl 0 9 rfl rfl ⟨Nat.le_of_ble_eq_true rfl, Nat.le_of_ble_eq_true rfl⟩ (Nat.le_of_ble_eq_true rfl) ⟨Nat.le_refl _, Nat.le_refl _⟩ (fun o1 h => ?_)
  refine g_aload_n hC dX5_move_4 5 rfl rfl 0 rfl ?_
  refine g_iload_n hC dX5_move_5 6 rfl rfl 1 rfl ?_
  refine g_readV hC (ct_X5_isSock l g a o1 p0 _ h) gY_X5_isSock dX5_move_6 9 rfl ml_X5_151 [] [] (by simp only [List.nil_append, List.append_nil]) [] rfl rfl rfl 0 9 rfl rfl ⟨Nat.le_of_ble_eq_true rfl, Nat.le_of_ble_eq_true rfl⟩ (Nat.le_of_ble_eq_true rfl) ⟨Nat.le_refl _, Nat.le_refl _⟩ (fun v2 h => ?_)
  refine g_if_eq hC dX5_move_9 19 (by decide) 12 rfl (fun c => ?_) (fun c => ?_)
  · have h := h.1 c
    refine g_lv (lv2 := [(0, .ref (a 0))]) [0] rfl ?_
    exact jn_X5_move_19 hC hZ o1 h
  · have h := h.2 c
    refine g_iload_n hC dX5_move_12 13 rfl rfl 2 rfl ?_
    refine g_readS hC (ct_X5_isDrawer l g p1 _ h) gY_X5_isDrawer dX5_move_13 16 rfl ml_X5_168 [] _ rfl [] rfl rfl ⟨Nat.le_of_ble_eq_true rfl, Nat.le_of_ble_eq_true rfl⟩ (Nat.le_of_ble_eq_true rfl) ⟨Nat.le_refl _, Nat.le_refl _⟩ (fun v5 h => ?_)
    refine g_if_ne hC dX5_move_16 25 (by decide) 19 rfl (fun c => ?_) (fun c => ?_)
    · have h := h.1 c
      refine g_aload_n hC dX5_move_25 26 rfl rfl 0 rfl ?_
      refine g_iload_n hC dX5_move_26 27 rfl rfl 1 rfl ?_
      refine g_iload_n hC dX5_move_27 28 rfl rfl 2 rfl ?_
      refine g_ownI hC (ct_X5_cannotMove l g a o1 p0 p1 _ h) gY_X5_cannotMove dX5_move_28 31 rfl ml_X5_225 [] rfl rfl rfl 0 9 rfl rfl ⟨Nat.le_of_ble_eq_true rfl, Nat.le_of_ble_eq_true rfl⟩ (Nat.le_of_ble_eq_true rfl) ⟨Nat.le_refl _, Nat.le_refl _⟩ (fun v7 o6 h => ?_)
      refine g_if_eq hC dX5_move_31 42 (by decide) 34 rfl (fun c => ?_) (fun c => ?_)
      · have h := h.1 c
        refine g_aload_n hC dX5_move_42 43 rfl rfl 0 rfl ?_
        refine g_aload_n hC dX5_move_43 44 rfl rfl 0 rfl ?_
        refine g_iload_n hC dX5_move_44 45 rfl rfl 1 rfl ?_
        refine g_iload_n hC dX5_move_45 46 rfl rfl 2 rfl ?_
        refine g_ownI hC (ct_X5_moves l g a o6 p0 p1 _ h) gY_X5_moves dX5_move_46 49 rfl ml_X5_228 [.ref (a 0)] rfl rfl rfl 0 9 rfl rfl ⟨Nat.le_of_ble_eq_true rfl, Nat.le_of_ble_eq_true rfl⟩ (Nat.le_of_ble_eq_true rfl) ⟨Nat.le_refl _, Nat.le_refl _⟩ (fun v9 o8 h => ?_)
        refine g_ownI hC (ct_X5_commit l g a o8 v9 _ h) gY_X5_commit dX5_move_49 52 rfl ml_X5_145 [] rfl rfl rfl 0 9 rfl rfl ⟨Nat.le_of_ble_eq_true rfl, Nat.le_of_ble_eq_true rfl⟩ (Nat.le_of_ble_eq_true rfl) ⟨Nat.le_refl _, Nat.le_refl _⟩ (fun v11 o10 h => ?_)
        exact g_iret hC hZ dX5_move_52 ⟨_, _, rfl, rfl, h⟩
      · have h := h.2 c
        refine g_aload_n hC dX5_move_34 35 rfl rfl 0 rfl ?_
        refine g_iconst hC (2 : Int32) dX5_move_35 36 rfl iconst_2 ?_
        refine g_ownI hC (ct_X5_reject l g a o6 (2 : Int32) _ h) gY_X5_reject dX5_move_36 39 rfl ml_X5_139 [] rfl rfl rfl 0 9 rfl rfl ⟨Nat.le_of_ble_eq_true rfl, Nat.le_of_ble_eq_true rfl⟩ (Nat.le_of_ble_eq_true rfl) ⟨Nat.le_refl _, Nat.le_refl _⟩ (fun v13 o12 h => ?_)
        refine g_goto hC dX5_move_39 52 (by decide) ?_
        exact g_iret hC hZ dX5_move_52 ⟨_, _, rfl, rfl, h⟩
    · have h := h.2 c
      refine g_lv (lv2 := [(0, .ref (a 0))]) [0] rfl ?_
      exact jn_X5_move_19 hC hZ o1 h
def wj_X5_cannotPair_84 (post : Int32 → Off → Prop) (o : Off) (x2 : Int32) (s0 : Int32) : Prop := wp_X5_s (fun v15 => wp_X5_notes (fun v17 o16 => ((v17 = 0 → post (0 : Int32) o16) ∧ (¬ v17 = 0 → post (1 : Int32) o16))) o s0 (11 : Int32) v15) o x2 (1 : Int32)
def wj_X5_cannotPair_37 (post : Int32 → Off → Prop) (o : Off) (x1 : Int32) (x2 : Int32) (s0 : Int32) : Prop := wp_X5_s (fun v7 => wp_X5_notes (fun v9 o8 => ((v9 = 0 → wp_X5_isBound (fun v11 o10 => ((¬ v11 = 0 → post (1 : Int32) o10) ∧ (v11 = 0 → wp_X5_isBound (fun v13 o12 => ((¬ v13 = 0 → post (1 : Int32) o12) ∧ (v13 = 0 → wp_X5_fits (fun v14 => ((¬ v14 = 0 → wj_X5_cannotPair_84 post o12 x2 (0 : Int32)) ∧ (v14 = 0 → wj_X5_cannotPair_84 post o12 x2 (1 : Int32)))) o12 x1 x2))) o10 x2))) o8 x1) ∧ (¬ v9 = 0 → post (1 : Int32) o8))) o s0 (10 : Int32) v7) o x2 (3 : Int32)
def wp_X5_cannotPair (post : Int32 → Off → Prop) (o : Off) (p0 : Int32) (p1 : Int32) : Prop := wp_X5_isNoResident (fun v2 o1 => ((¬ v2 = 0 → post (1 : Int32) o1) ∧ (v2 = 0 → wp_X5_isNoResident (fun v4 o3 => ((¬ v4 = 0 → post (1 : Int32) o3) ∧ (v4 = 0 → wp_X5_s (fun v5 => wp_X5_s (fun v6 => ((v5 = v6 → wj_X5_cannotPair_37 post o3 p0 p1 (0 : Int32)) ∧ (¬ v5 = v6 → wj_X5_cannotPair_37 post o3 p0 p1 (1 : Int32)))) o3 p1 (3 : Int32)) o3 p0 (3 : Int32)))) o1 p1))) o p0
set_option maxRecDepth 100000 in
set_option maxHeartbeats 4000000 in
theorem jn_X5_cannotPair_84 {x : gX} {l : Launch} {g : gE} {a : Nat → Nat} {o0 : Off} {post : Int32 → Off → Prop} (hC : gC x l cX5_cannotPair 3 RX5 g 3 65 0 0) (hZ : gZ x g (some .boolean) (modW g a o0) (pI (modW g a) post) 0 0) : ∀ (o : Off) (x2 : Int32) (s0 : Int32) , wj_X5_cannotPair_84 post o x2 s0 → G x g 3 0 0 (modW g a o) 84 [(0, .ref (a 0)), (2, .int x2)] [.int s0, .ref (a 0)] := by
  intro o x2 s0 h
  rw [wj_X5_cannotPair_84] at h
  refine g_bipush hC (11 : Int32) dX5_cannotPair_84 86 rfl bipush_11 ?_
  refine g_aload_n hC dX5_cannotPair_86 87 rfl rfl 0 rfl ?_
  refine g_iload_n hC dX5_cannotPair_87 88 rfl rfl 1 rfl ?_
  refine g_iconst hC (1 : Int32) dX5_cannotPair_88 89 rfl iconst_1 ?_
  refine g_readV hC (ct_X5_s l g a o x2 (1 : Int32) _ h) gY_X5_s dX5_cannotPair_89 92 rfl ml_X5_96 [] [] (by simp only [List.nil_append, List.append_nil]) [.int (11 : Int32), .int s0, .ref (a 0)] rfl rfl rfl 0 9 rfl rfl ⟨Nat.le_of_ble_eq_true rfl, Nat.le_of_ble_eq_true rfl⟩ (Nat.le_of_ble_eq_true rfl) ⟨Nat.le_refl _, Nat.le_refl _⟩ (fun v15 h => ?_)
  refine g_ownI hC (ct_X5_notes l g a o s0 (11 : Int32) v15 _ h) gY_X5_notes dX5_cannotPair_92 95 rfl ml_X5_121 [] rfl rfl rfl 0 9 rfl rfl ⟨Nat.le_of_ble_eq_true rfl, Nat.le_of_ble_eq_true rfl⟩ (Nat.le_of_ble_eq_true rfl) ⟨Nat.le_refl _, Nat.le_refl _⟩ (fun v17 o16 h => ?_)
  refine g_if_eq hC dX5_cannotPair_95 102 (by decide) 98 rfl (fun c => ?_) (fun c => ?_)
  · have h := h.1 c
    refine g_iconst hC (0 : Int32) dX5_cannotPair_102 103 rfl iconst_0 ?_
    exact g_zret hC hZ rfl dX5_cannotPair_103 ⟨_, _, rfl, rfl, h⟩
  · have h := h.2 c
    refine g_iconst hC (1 : Int32) dX5_cannotPair_98 99 rfl iconst_1 ?_
    refine g_goto hC dX5_cannotPair_99 103 (by decide) ?_
    exact g_zret hC hZ rfl dX5_cannotPair_103 ⟨_, _, rfl, rfl, h⟩
set_option maxRecDepth 100000 in
set_option maxHeartbeats 4000000 in
theorem jn_X5_cannotPair_37 {x : gX} {l : Launch} {g : gE} {a : Nat → Nat} {o0 : Off} {post : Int32 → Off → Prop} (hC : gC x l cX5_cannotPair 3 RX5 g 3 65 0 0) (hZ : gZ x g (some .boolean) (modW g a o0) (pI (modW g a) post) 0 0) : ∀ (o : Off) (x1 : Int32) (x2 : Int32) (s0 : Int32) , wj_X5_cannotPair_37 post o x1 x2 s0 → G x g 3 0 0 (modW g a o) 37 [(0, .ref (a 0)), (1, .int x1), (2, .int x2)] [.int s0, .ref (a 0)] := by
  intro o x1 x2 s0 h
  rw [wj_X5_cannotPair_37] at h
  refine g_bipush hC (10 : Int32) dX5_cannotPair_37 39 rfl bipush_10 ?_
  refine g_aload_n hC dX5_cannotPair_39 40 rfl rfl 0 rfl ?_
  refine g_iload_n hC dX5_cannotPair_40 41 rfl rfl 2 rfl ?_
  refine g_iconst hC (3 : Int32) dX5_cannotPair_41 42 rfl iconst_3 ?_
  refine g_readV hC (ct_X5_s l g a o x2 (3 : Int32) _ h) gY_X5_s dX5_cannotPair_42 45 rfl ml_X5_96 [] [] (by simp only [List.nil_append, List.append_nil]) [.int (10 : Int32), .int s0, .ref (a 0)] rfl rfl rfl 0 9 rfl rfl ⟨Nat.le_of_ble_eq_true rfl, Nat.le_of_ble_eq_true rfl⟩ (Nat.le_of_ble_eq_true rfl) ⟨Nat.le_refl _, Nat.le_refl _⟩ (fun v7 h => ?_)
  refine g_ownI hC (ct_X5_notes l g a o s0 (10 : Int32) v7 _ h) gY_X5_notes dX5_cannotPair_45 48 rfl ml_X5_121 [] rfl rfl rfl 0 9 rfl rfl ⟨Nat.le_of_ble_eq_true rfl, Nat.le_of_ble_eq_true rfl⟩ (Nat.le_of_ble_eq_true rfl) ⟨Nat.le_refl _, Nat.le_refl _⟩ (fun v9 o8 h => ?_)
  refine g_if_eq hC dX5_cannotPair_48 53 (by decide) 51 rfl (fun c => ?_) (fun c => ?_)
  · have h := h.1 c
    refine g_aload_n hC dX5_cannotPair_53 54 rfl rfl 0 rfl ?_
    refine g_iload_n hC dX5_cannotPair_54 55 rfl rfl 1 rfl ?_
    refine g_ownI hC (ct_X5_isBound l g a o8 x1 _ h) gY_X5_isBound dX5_cannotPair_55 58 rfl ml_X5_213 [] rfl rfl rfl 0 9 rfl rfl ⟨Nat.le_of_ble_eq_true rfl, Nat.le_of_ble_eq_true rfl⟩ (Nat.le_of_ble_eq_true rfl) ⟨Nat.le_refl _, Nat.le_refl _⟩ (fun v11 o10 h => ?_)
    refine g_if_ne hC dX5_cannotPair_58 98 (by decide) 61 rfl (fun c => ?_) (fun c => ?_)
    · have h := h.1 c
      refine g_iconst hC (1 : Int32) dX5_cannotPair_98 99 rfl iconst_1 ?_
      refine g_goto hC dX5_cannotPair_99 103 (by decide) ?_
      exact g_zret hC hZ rfl dX5_cannotPair_103 ⟨_, _, rfl, rfl, h⟩
    · have h := h.2 c
      refine g_aload_n hC dX5_cannotPair_61 62 rfl rfl 0 rfl ?_
      refine g_iload_n hC dX5_cannotPair_62 63 rfl rfl 2 rfl ?_
      refine g_ownI hC (ct_X5_isBound l g a o10 x2 _ h) gY_X5_isBound dX5_cannotPair_63 66 rfl ml_X5_213 [] rfl rfl rfl 0 9 rfl rfl ⟨Nat.le_of_ble_eq_true rfl, Nat.le_of_ble_eq_true rfl⟩ (Nat.le_of_ble_eq_true rfl) ⟨Nat.le_refl _, Nat.le_refl _⟩ (fun v13 o12 h => ?_)
      refine g_if_ne hC dX5_cannotPair_66 98 (by decide) 69 rfl (fun c => ?_) (fun c => ?_)
      · have h := h.1 c
        refine g_iconst hC (1 : Int32) dX5_cannotPair_98 99 rfl iconst_1 ?_
        refine g_goto hC dX5_cannotPair_99 103 (by decide) ?_
        exact g_zret hC hZ rfl dX5_cannotPair_103 ⟨_, _, rfl, rfl, h⟩
      · have h := h.2 c
        refine g_aload_n hC dX5_cannotPair_69 70 rfl rfl 0 rfl ?_
        refine g_aload_n hC dX5_cannotPair_70 71 rfl rfl 0 rfl ?_
        refine g_iload_n hC dX5_cannotPair_71 72 rfl rfl 1 rfl ?_
        refine g_iload_n hC dX5_cannotPair_72 73 rfl rfl 2 rfl ?_
        refine g_readV hC (ct_X5_fits l g a o12 x1 x2 _ h) gY_X5_fits dX5_cannotPair_73 76 rfl ml_X5_162 [] [] (by simp only [List.nil_append, List.append_nil]) [.ref (a 0)] rfl rfl rfl 0 9 rfl rfl ⟨Nat.le_of_ble_eq_true rfl, Nat.le_of_ble_eq_true rfl⟩ (Nat.le_of_ble_eq_true rfl) ⟨Nat.le_refl _, Nat.le_refl _⟩ (fun v14 h => ?_)
        refine g_if_ne hC dX5_cannotPair_76 83 (by decide) 79 rfl (fun c => ?_) (fun c => ?_)
        · have h := h.1 c
          refine g_iconst hC (0 : Int32) dX5_cannotPair_83 84 rfl iconst_0 ?_
          refine g_lv (lv2 := [(0, .ref (a 0)), (2, .int x2)]) [0, 2] rfl ?_
          exact jn_X5_cannotPair_84 hC hZ o12 x2 (0 : Int32) h
        · have h := h.2 c
          refine g_iconst hC (1 : Int32) dX5_cannotPair_79 80 rfl iconst_1 ?_
          refine g_goto hC dX5_cannotPair_80 84 (by decide) ?_
          refine g_lv (lv2 := [(0, .ref (a 0)), (2, .int x2)]) [0, 2] rfl ?_
          exact jn_X5_cannotPair_84 hC hZ o12 x2 (1 : Int32) h
  · have h := h.2 c
    refine g_iconst hC (1 : Int32) dX5_cannotPair_51 52 rfl iconst_1 ?_
    exact g_zret hC hZ rfl dX5_cannotPair_52 ⟨_, _, rfl, rfl, h⟩
set_option maxRecDepth 100000 in
set_option maxHeartbeats 4000000 in
theorem ct_X5_cannotPair (l : Launch) (g : gE) (a : Nat → Nat) (o : Off) (p0 : Int32) (p1 : Int32) (post : Int32 → Off → Prop) (h : wp_X5_cannotPair post o p0 p1) : Fn l g yX5_cannotPair cX5_cannotPair 3 (some .boolean) 3 65 0 0 (modW g a o) [.ref (a 0), .int p0, .int p1] (pI (modW g a) post) := by
  refine Fn.of (by decide) (Nat.le_of_ble_eq_true rfl) (fun x hC hZ => ?_)
  rw [wp_X5_cannotPair] at h
  show G x g 3 0 0 (modW g a o) 0 [(0, .ref (a 0)), (1, .int p0), (2, .int p1)] []
  refine g_aload_n hC dX5_cannotPair_0 1 rfl rfl 0 rfl ?_
  refine g_iload_n hC dX5_cannotPair_1 2 rfl rfl 1 rfl ?_
  refine g_ownI hC (ct_X5_isNoResident l g a o p0 _ h) gY_X5_isNoResident dX5_cannotPair_2 5 rfl ml_X5_204 [] rfl rfl rfl 0 9 rfl rfl ⟨Nat.le_of_ble_eq_true rfl, Nat.le_of_ble_eq_true rfl⟩ (Nat.le_of_ble_eq_true rfl) ⟨Nat.le_refl _, Nat.le_refl _⟩ (fun v2 o1 h => ?_)
  refine g_if_ne hC dX5_cannotPair_5 51 (by decide) 8 rfl (fun c => ?_) (fun c => ?_)
  · have h := h.1 c
    refine g_iconst hC (1 : Int32) dX5_cannotPair_51 52 rfl iconst_1 ?_
    exact g_zret hC hZ rfl dX5_cannotPair_52 ⟨_, _, rfl, rfl, h⟩
  · have h := h.2 c
    refine g_aload_n hC dX5_cannotPair_8 9 rfl rfl 0 rfl ?_
    refine g_iload_n hC dX5_cannotPair_9 10 rfl rfl 2 rfl ?_
    refine g_ownI hC (ct_X5_isNoResident l g a o1 p1 _ h) gY_X5_isNoResident dX5_cannotPair_10 13 rfl ml_X5_204 [] rfl rfl rfl 0 9 rfl rfl ⟨Nat.le_of_ble_eq_true rfl, Nat.le_of_ble_eq_true rfl⟩ (Nat.le_of_ble_eq_true rfl) ⟨Nat.le_refl _, Nat.le_refl _⟩ (fun v4 o3 h => ?_)
    refine g_if_ne hC dX5_cannotPair_13 51 (by decide) 16 rfl (fun c => ?_) (fun c => ?_)
    · have h := h.1 c
      refine g_iconst hC (1 : Int32) dX5_cannotPair_51 52 rfl iconst_1 ?_
      exact g_zret hC hZ rfl dX5_cannotPair_52 ⟨_, _, rfl, rfl, h⟩
    · have h := h.2 c
      refine g_aload_n hC dX5_cannotPair_16 17 rfl rfl 0 rfl ?_
      refine g_aload_n hC dX5_cannotPair_17 18 rfl rfl 0 rfl ?_
      refine g_iload_n hC dX5_cannotPair_18 19 rfl rfl 1 rfl ?_
      refine g_iconst hC (3 : Int32) dX5_cannotPair_19 20 rfl iconst_3 ?_
      refine g_readV hC (ct_X5_s l g a o3 p0 (3 : Int32) _ h) gY_X5_s dX5_cannotPair_20 23 rfl ml_X5_96 [] [] (by simp only [List.nil_append, List.append_nil]) [.ref (a 0)] rfl rfl rfl 0 9 rfl rfl ⟨Nat.le_of_ble_eq_true rfl, Nat.le_of_ble_eq_true rfl⟩ (Nat.le_of_ble_eq_true rfl) ⟨Nat.le_refl _, Nat.le_refl _⟩ (fun v5 h => ?_)
      refine g_aload_n hC dX5_cannotPair_23 24 rfl rfl 0 rfl ?_
      refine g_iload_n hC dX5_cannotPair_24 25 rfl rfl 2 rfl ?_
      refine g_iconst hC (3 : Int32) dX5_cannotPair_25 26 rfl iconst_3 ?_
      refine g_readV hC (ct_X5_s l g a o3 p1 (3 : Int32) _ h) gY_X5_s dX5_cannotPair_26 29 rfl ml_X5_96 [] [] (by simp only [List.nil_append, List.append_nil]) [.int v5, .ref (a 0)] rfl rfl rfl 0 9 rfl rfl ⟨Nat.le_of_ble_eq_true rfl, Nat.le_of_ble_eq_true rfl⟩ (Nat.le_of_ble_eq_true rfl) ⟨Nat.le_refl _, Nat.le_refl _⟩ (fun v6 h => ?_)
      refine g_icmp_eq hC dX5_cannotPair_29 36 (by decide) 32 rfl (fun c => ?_) (fun c => ?_)
      · have h := h.1 c
        refine g_iconst hC (0 : Int32) dX5_cannotPair_36 37 rfl iconst_0 ?_
        exact jn_X5_cannotPair_37 hC hZ o3 p0 p1 (0 : Int32) h
      · have h := h.2 c
        refine g_iconst hC (1 : Int32) dX5_cannotPair_32 33 rfl iconst_1 ?_
        refine g_goto hC dX5_cannotPair_33 37 (by decide) ?_
        exact jn_X5_cannotPair_37 hC hZ o3 p0 p1 (1 : Int32) h
def wp_X5_pairs (post : Int32 → Off → Prop) (o : Off) (p0 : Int32) (p1 : Int32) : Prop := wp_X5_set (fun o1 => wp_X5_set (fun o2 => wp_X5_s (fun v3 => wp_X5_pairsIn (fun v4 => post v4 o2) o2 v3) o2 p0 (3 : Int32)) o1 p1 (7 : Int32) p0) o p0 (7 : Int32) p1
set_option maxRecDepth 100000 in
set_option maxHeartbeats 4000000 in
theorem ct_X5_pairs (l : Launch) (g : gE) (a : Nat → Nat) (o : Off) (p0 : Int32) (p1 : Int32) (post : Int32 → Off → Prop) (h : wp_X5_pairs post o p0 p1) : Fn l g yX5_pairs cX5_pairs 3 (some .int) 4 89 0 0 (modW g a o) [.ref (a 0), .int p0, .int p1] (pI (modW g a) post) := by
  refine Fn.of (by decide) (Nat.le_of_ble_eq_true rfl) (fun x hC hZ => ?_)
  rw [wp_X5_pairs] at h
  show G x g 3 0 0 (modW g a o) 0 [(0, .ref (a 0)), (1, .int p0), (2, .int p1)] []
  refine g_aload_n hC dX5_pairs_0 1 rfl rfl 0 rfl ?_
  refine g_iload_n hC dX5_pairs_1 2 rfl rfl 1 rfl ?_
  refine g_bipush hC (7 : Int32) dX5_pairs_2 4 rfl bipush_7 ?_
  refine g_iload_n hC dX5_pairs_4 5 rfl rfl 2 rfl ?_
  refine g_ownV hC (ct_X5_set l g a o p0 (7 : Int32) p1 _ h) gY_X5_set dX5_pairs_5 8 rfl ml_X5_117 [] rfl rfl rfl 0 9 rfl rfl ⟨Nat.le_of_ble_eq_true rfl, Nat.le_of_ble_eq_true rfl⟩ (Nat.le_of_ble_eq_true rfl) ⟨Nat.le_refl _, Nat.le_refl _⟩ (fun o1 h => ?_)
  refine g_aload_n hC dX5_pairs_8 9 rfl rfl 0 rfl ?_
  refine g_iload_n hC dX5_pairs_9 10 rfl rfl 2 rfl ?_
  refine g_bipush hC (7 : Int32) dX5_pairs_10 12 rfl bipush_7 ?_
  refine g_iload_n hC dX5_pairs_12 13 rfl rfl 1 rfl ?_
  refine g_ownV hC (ct_X5_set l g a o1 p1 (7 : Int32) p0 _ h) gY_X5_set dX5_pairs_13 16 rfl ml_X5_117 [] rfl rfl rfl 0 9 rfl rfl ⟨Nat.le_of_ble_eq_true rfl, Nat.le_of_ble_eq_true rfl⟩ (Nat.le_of_ble_eq_true rfl) ⟨Nat.le_refl _, Nat.le_refl _⟩ (fun o2 h => ?_)
  refine g_aload_n hC dX5_pairs_16 17 rfl rfl 0 rfl ?_
  refine g_aload_n hC dX5_pairs_17 18 rfl rfl 0 rfl ?_
  refine g_iload_n hC dX5_pairs_18 19 rfl rfl 1 rfl ?_
  refine g_iconst hC (3 : Int32) dX5_pairs_19 20 rfl iconst_3 ?_
  refine g_readV hC (ct_X5_s l g a o2 p0 (3 : Int32) _ h) gY_X5_s dX5_pairs_20 23 rfl ml_X5_96 [] [] (by simp only [List.nil_append, List.append_nil]) [.ref (a 0)] rfl rfl rfl 0 9 rfl rfl ⟨Nat.le_of_ble_eq_true rfl, Nat.le_of_ble_eq_true rfl⟩ (Nat.le_of_ble_eq_true rfl) ⟨Nat.le_refl _, Nat.le_refl _⟩ (fun v3 h => ?_)
  refine g_readV hC (ct_X5_pairsIn l g a o2 v3 _ h) gY_X5_pairsIn dX5_pairs_23 26 rfl ml_X5_231 [] [] (by simp only [List.nil_append, List.append_nil]) [] rfl rfl rfl 0 9 rfl rfl ⟨Nat.le_of_ble_eq_true rfl, Nat.le_of_ble_eq_true rfl⟩ (Nat.le_of_ble_eq_true rfl) ⟨Nat.le_refl _, Nat.le_refl _⟩ (fun v4 h => ?_)
  exact g_iret hC hZ dX5_pairs_26 ⟨_, _, rfl, rfl, h⟩
def wj_X5_pair_20 (post : Int32 → Off → Prop) (o : Off) : Prop := wp_X5_fail (fun v4 o3 => post v4 o3) o (1 : Int32)
def wp_X5_pair (post : Int32 → Off → Prop) (o : Off) (p0 : Int32) (p1 : Int32) : Prop := wp_X5_begin (fun o1 => wp_X5_isSock (fun v2 => ((v2 = 0 → wj_X5_pair_20 post o1) ∧ (¬ v2 = 0 → wp_X5_isSock (fun v5 => ((¬ v5 = 0 → ((¬ p0 = p1 → wp_X5_cannotPair (fun v7 o6 => ((v7 = 0 → wp_X5_pairs (fun v9 o8 => wp_X5_commit (fun v11 o10 => post v11 o10) o8 v9) o6 p0 p1) ∧ (¬ v7 = 0 → wp_X5_reject (fun v13 o12 => post v13 o12) o6 (3 : Int32)))) o1 p0 p1) ∧ (p0 = p1 → wp_X5_fail (fun v15 o14 => post v15 o14) o1 (2 : Int32)))) ∧ (v5 = 0 → wj_X5_pair_20 post o1))) o1 p1))) o1 p0) o 
set_option maxRecDepth 100000 in
set_option maxHeartbeats 4000000 in
theorem jn_X5_pair_20 {x : gX} {l : Launch} {g : gE} {a : Nat → Nat} {o0 : Off} {post : Int32 → Off → Prop} (hC : gC x l cX5_pair 3 RX5 g 5 111 0 0) (hZ : gZ x g (some .int) (modW g a o0) (pI (modW g a) post) 0 0) : ∀ (o : Off) , wj_X5_pair_20 post o → G x g 3 0 0 (modW g a o) 20 [(0, .ref (a 0))] [] := by
  intro o h
  rw [wj_X5_pair_20] at h
  refine g_aload_n hC dX5_pair_20 21 rfl rfl 0 rfl ?_
  refine g_iconst hC (1 : Int32) dX5_pair_21 22 rfl iconst_1 ?_
  refine g_ownI hC (ct_X5_fail l g a o (1 : Int32) _ h) gY_X5_fail dX5_pair_22 25 rfl ml_X5_88 [] rfl rfl rfl 0 9 rfl rfl ⟨Nat.le_of_ble_eq_true rfl, Nat.le_of_ble_eq_true rfl⟩ (Nat.le_of_ble_eq_true rfl) ⟨Nat.le_refl _, Nat.le_refl _⟩ (fun v4 o3 h => ?_)
  exact g_iret hC hZ dX5_pair_25 ⟨_, _, rfl, rfl, h⟩
set_option maxRecDepth 100000 in
set_option maxHeartbeats 4000000 in
theorem ct_X5_pair (l : Launch) (g : gE) (a : Nat → Nat) (o : Off) (p0 : Int32) (p1 : Int32) (post : Int32 → Off → Prop) (h : wp_X5_pair post o p0 p1) : Fn l g yX5_pair cX5_pair 3 (some .int) 5 111 0 0 (modW g a o) [.ref (a 0), .int p0, .int p1] (pI (modW g a) post) := by
  refine Fn.of (by decide) (Nat.le_of_ble_eq_true rfl) (fun x hC hZ => ?_)
  rw [wp_X5_pair] at h
  show G x g 3 0 0 (modW g a o) 0 [(0, .ref (a 0)), (1, .int p0), (2, .int p1)] []
  refine g_aload_n hC dX5_pair_0 1 rfl rfl 0 rfl ?_
  refine g_ownV hC (ct_X5_begin l g a o  _ h) gY_X5_begin dX5_pair_1 4 rfl ml_X5_129 [] rfl rfl rfl 0 9 rfl rfl ⟨Nat.le_of_ble_eq_true rfl, Nat.le_of_ble_eq_true rfl⟩ (Nat.le_of_ble_eq_true rfl) ⟨Nat.le_refl _, Nat.le_refl _⟩ (fun o1 h => ?_)
  refine g_aload_n hC dX5_pair_4 5 rfl rfl 0 rfl ?_
  refine g_iload_n hC dX5_pair_5 6 rfl rfl 1 rfl ?_
  refine g_readV hC (ct_X5_isSock l g a o1 p0 _ h) gY_X5_isSock dX5_pair_6 9 rfl ml_X5_151 [] [] (by simp only [List.nil_append, List.append_nil]) [] rfl rfl rfl 0 9 rfl rfl ⟨Nat.le_of_ble_eq_true rfl, Nat.le_of_ble_eq_true rfl⟩ (Nat.le_of_ble_eq_true rfl) ⟨Nat.le_refl _, Nat.le_refl _⟩ (fun v2 h => ?_)
  refine g_if_eq hC dX5_pair_9 20 (by decide) 12 rfl (fun c => ?_) (fun c => ?_)
  · have h := h.1 c
    refine g_lv (lv2 := [(0, .ref (a 0))]) [0] rfl ?_
    exact jn_X5_pair_20 hC hZ o1 h
  · have h := h.2 c
    refine g_aload_n hC dX5_pair_12 13 rfl rfl 0 rfl ?_
    refine g_iload_n hC dX5_pair_13 14 rfl rfl 2 rfl ?_
    refine g_readV hC (ct_X5_isSock l g a o1 p1 _ h) gY_X5_isSock dX5_pair_14 17 rfl ml_X5_151 [] [] (by simp only [List.nil_append, List.append_nil]) [] rfl rfl rfl 0 9 rfl rfl ⟨Nat.le_of_ble_eq_true rfl, Nat.le_of_ble_eq_true rfl⟩ (Nat.le_of_ble_eq_true rfl) ⟨Nat.le_refl _, Nat.le_refl _⟩ (fun v5 h => ?_)
    refine g_if_ne hC dX5_pair_17 26 (by decide) 20 rfl (fun c => ?_) (fun c => ?_)
    · have h := h.1 c
      refine g_iload_n hC dX5_pair_26 27 rfl rfl 1 rfl ?_
      refine g_iload_n hC dX5_pair_27 28 rfl rfl 2 rfl ?_
      refine g_icmp_ne hC dX5_pair_28 37 (by decide) 31 rfl (fun c => ?_) (fun c => ?_)
      · have h := h.1 c
        refine g_aload_n hC dX5_pair_37 38 rfl rfl 0 rfl ?_
        refine g_iload_n hC dX5_pair_38 39 rfl rfl 1 rfl ?_
        refine g_iload_n hC dX5_pair_39 40 rfl rfl 2 rfl ?_
        refine g_ownI hC (ct_X5_cannotPair l g a o1 p0 p1 _ h) gY_X5_cannotPair dX5_pair_40 43 rfl ml_X5_234 [] rfl rfl rfl 0 9 rfl rfl ⟨Nat.le_of_ble_eq_true rfl, Nat.le_of_ble_eq_true rfl⟩ (Nat.le_of_ble_eq_true rfl) ⟨Nat.le_refl _, Nat.le_refl _⟩ (fun v7 o6 h => ?_)
        refine g_if_eq hC dX5_pair_43 54 (by decide) 46 rfl (fun c => ?_) (fun c => ?_)
        · have h := h.1 c
          refine g_aload_n hC dX5_pair_54 55 rfl rfl 0 rfl ?_
          refine g_aload_n hC dX5_pair_55 56 rfl rfl 0 rfl ?_
          refine g_iload_n hC dX5_pair_56 57 rfl rfl 1 rfl ?_
          refine g_iload_n hC dX5_pair_57 58 rfl rfl 2 rfl ?_
          refine g_ownI hC (ct_X5_pairs l g a o6 p0 p1 _ h) gY_X5_pairs dX5_pair_58 61 rfl ml_X5_237 [.ref (a 0)] rfl rfl rfl 0 9 rfl rfl ⟨Nat.le_of_ble_eq_true rfl, Nat.le_of_ble_eq_true rfl⟩ (Nat.le_of_ble_eq_true rfl) ⟨Nat.le_refl _, Nat.le_refl _⟩ (fun v9 o8 h => ?_)
          refine g_ownI hC (ct_X5_commit l g a o8 v9 _ h) gY_X5_commit dX5_pair_61 64 rfl ml_X5_145 [] rfl rfl rfl 0 9 rfl rfl ⟨Nat.le_of_ble_eq_true rfl, Nat.le_of_ble_eq_true rfl⟩ (Nat.le_of_ble_eq_true rfl) ⟨Nat.le_refl _, Nat.le_refl _⟩ (fun v11 o10 h => ?_)
          exact g_iret hC hZ dX5_pair_64 ⟨_, _, rfl, rfl, h⟩
        · have h := h.2 c
          refine g_aload_n hC dX5_pair_46 47 rfl rfl 0 rfl ?_
          refine g_iconst hC (3 : Int32) dX5_pair_47 48 rfl iconst_3 ?_
          refine g_ownI hC (ct_X5_reject l g a o6 (3 : Int32) _ h) gY_X5_reject dX5_pair_48 51 rfl ml_X5_139 [] rfl rfl rfl 0 9 rfl rfl ⟨Nat.le_of_ble_eq_true rfl, Nat.le_of_ble_eq_true rfl⟩ (Nat.le_of_ble_eq_true rfl) ⟨Nat.le_refl _, Nat.le_refl _⟩ (fun v13 o12 h => ?_)
          refine g_goto hC dX5_pair_51 64 (by decide) ?_
          exact g_iret hC hZ dX5_pair_64 ⟨_, _, rfl, rfl, h⟩
      · have h := h.2 c
        refine g_aload_n hC dX5_pair_31 32 rfl rfl 0 rfl ?_
        refine g_iconst hC (2 : Int32) dX5_pair_32 33 rfl iconst_2 ?_
        refine g_ownI hC (ct_X5_fail l g a o1 (2 : Int32) _ h) gY_X5_fail dX5_pair_33 36 rfl ml_X5_88 [] rfl rfl rfl 0 9 rfl rfl ⟨Nat.le_of_ble_eq_true rfl, Nat.le_of_ble_eq_true rfl⟩ (Nat.le_of_ble_eq_true rfl) ⟨Nat.le_refl _, Nat.le_refl _⟩ (fun v15 o14 h => ?_)
        exact g_iret hC hZ dX5_pair_36 ⟨_, _, rfl, rfl, h⟩
    · have h := h.2 c
      refine g_lv (lv2 := [(0, .ref (a 0))]) [0] rfl ?_
      exact jn_X5_pair_20 hC hZ o1 h
def wj_X5_cannotSeparate_14 (post : Int32 → Off → Prop) (o : Off) (x1 : Int32) (s0 : Int32) : Prop := wp_X5_notes (fun v3 o2 => (isB v3 ∧ post v3 o2)) o s0 (9 : Int32) x1
def wp_X5_cannotSeparate (post : Int32 → Off → Prop) (o : Off) (p0 : Int32) : Prop := wp_X5_isPaired (fun v1 => ((¬ v1 = 0 → wj_X5_cannotSeparate_14 post o p0 (0 : Int32)) ∧ (v1 = 0 → wj_X5_cannotSeparate_14 post o p0 (1 : Int32)))) o p0
set_option maxRecDepth 100000 in
set_option maxHeartbeats 4000000 in
theorem jn_X5_cannotSeparate_14 {x : gX} {l : Launch} {g : gE} {a : Nat → Nat} {o0 : Off} {post : Int32 → Off → Prop} (hC : gC x l cX5_cannotSeparate 2 RX5 g 2 43 0 0) (hZ : gZ x g (some .boolean) (modW g a o0) (pI (modW g a) post) 0 0) : ∀ (o : Off) (x1 : Int32) (s0 : Int32) , wj_X5_cannotSeparate_14 post o x1 s0 → G x g 2 0 0 (modW g a o) 14 [(1, .int x1)] [.int s0, .ref (a 0)] := by
  intro o x1 s0 h
  rw [wj_X5_cannotSeparate_14] at h
  refine g_bipush hC (9 : Int32) dX5_cannotSeparate_14 16 rfl bipush_9 ?_
  refine g_iload_n hC dX5_cannotSeparate_16 17 rfl rfl 0 rfl ?_
  refine g_ownI hC (ct_X5_notes l g a o s0 (9 : Int32) x1 _ h) gY_X5_notes dX5_cannotSeparate_17 20 rfl ml_X5_121 [] rfl rfl rfl 0 9 rfl rfl ⟨Nat.le_of_ble_eq_true rfl, Nat.le_of_ble_eq_true rfl⟩ (Nat.le_of_ble_eq_true rfl) ⟨Nat.le_refl _, Nat.le_refl _⟩ (fun v3 o2 h => ?_)
  obtain ⟨hb, h⟩ := h
  exact g_zret hC hZ (isB_n hb) dX5_cannotSeparate_20 ⟨_, _, rfl, rfl, h⟩
set_option maxRecDepth 100000 in
set_option maxHeartbeats 4000000 in
theorem ct_X5_cannotSeparate (l : Launch) (g : gE) (a : Nat → Nat) (o : Off) (p0 : Int32) (post : Int32 → Off → Prop) (h : wp_X5_cannotSeparate post o p0) : Fn l g yX5_cannotSeparate cX5_cannotSeparate 2 (some .boolean) 2 43 0 0 (modW g a o) [.ref (a 0), .int p0] (pI (modW g a) post) := by
  refine Fn.of (by decide) (Nat.le_of_ble_eq_true rfl) (fun x hC hZ => ?_)
  rw [wp_X5_cannotSeparate] at h
  show G x g 2 0 0 (modW g a o) 0 [(0, .ref (a 0)), (1, .int p0)] []
  refine g_aload_n hC dX5_cannotSeparate_0 1 rfl rfl 0 rfl ?_
  refine g_aload_n hC dX5_cannotSeparate_1 2 rfl rfl 0 rfl ?_
  refine g_iload_n hC dX5_cannotSeparate_2 3 rfl rfl 1 rfl ?_
  refine g_readV hC (ct_X5_isPaired l g a o p0 _ h) gY_X5_isPaired dX5_cannotSeparate_3 6 rfl ml_X5_110 [] [] (by simp only [List.nil_append, List.append_nil]) [.ref (a 0)] rfl rfl rfl 0 9 rfl rfl ⟨Nat.le_of_ble_eq_true rfl, Nat.le_of_ble_eq_true rfl⟩ (Nat.le_of_ble_eq_true rfl) ⟨Nat.le_refl _, Nat.le_refl _⟩ (fun v1 h => ?_)
  refine g_if_ne hC dX5_cannotSeparate_6 13 (by decide) 9 rfl (fun c => ?_) (fun c => ?_)
  · have h := h.1 c
    refine g_iconst hC (0 : Int32) dX5_cannotSeparate_13 14 rfl iconst_0 ?_
    refine g_lv (lv2 := [(1, .int p0)]) [1] rfl ?_
    exact jn_X5_cannotSeparate_14 hC hZ o p0 (0 : Int32) h
  · have h := h.2 c
    refine g_iconst hC (1 : Int32) dX5_cannotSeparate_9 10 rfl iconst_1 ?_
    refine g_goto hC dX5_cannotSeparate_10 14 (by decide) ?_
    refine g_lv (lv2 := [(1, .int p0)]) [1] rfl ?_
    exact jn_X5_cannotSeparate_14 hC hZ o p0 (1 : Int32) h
def wp_X5_separates (post : Int32 → Off → Prop) (o : Off) (p0 : Int32) : Prop := wp_X5_s (fun v1 => wp_X5_set (fun o2 => wp_X5_set (fun o3 => post v1 o3) o2 v1 (7 : Int32) (-1 : Int32)) o p0 (7 : Int32) (-1 : Int32)) o p0 (7 : Int32)
set_option maxRecDepth 100000 in
set_option maxHeartbeats 4000000 in
theorem ct_X5_separates (l : Launch) (g : gE) (a : Nat → Nat) (o : Off) (p0 : Int32) (post : Int32 → Off → Prop) (h : wp_X5_separates post o p0) : Fn l g yX5_separates cX5_separates 3 (some .int) 1 23 0 0 (modW g a o) [.ref (a 0), .int p0] (pI (modW g a) post) := by
  refine Fn.of (by decide) (Nat.le_of_ble_eq_true rfl) (fun x hC hZ => ?_)
  rw [wp_X5_separates] at h
  show G x g 3 0 0 (modW g a o) 0 [(0, .ref (a 0)), (1, .int p0)] []
  refine g_aload_n hC dX5_separates_0 1 rfl rfl 0 rfl ?_
  refine g_iload_n hC dX5_separates_1 2 rfl rfl 1 rfl ?_
  refine g_bipush hC (7 : Int32) dX5_separates_2 4 rfl bipush_7 ?_
  refine g_readV hC (ct_X5_s l g a o p0 (7 : Int32) _ h) gY_X5_s dX5_separates_4 7 rfl ml_X5_96 [] [] (by simp only [List.nil_append, List.append_nil]) [] rfl rfl rfl 0 9 rfl rfl ⟨Nat.le_of_ble_eq_true rfl, Nat.le_of_ble_eq_true rfl⟩ (Nat.le_of_ble_eq_true rfl) ⟨Nat.le_refl _, Nat.le_refl _⟩ (fun v1 h => ?_)
  refine g_istore_n (lv2 := [(2, .int v1), (0, .ref (a 0)), (1, .int p0)]) hC dX5_separates_7 8 rfl rfl (by decide) rfl ?_
  refine g_aload_n hC dX5_separates_8 9 rfl rfl 1 rfl ?_
  refine g_iload_n hC dX5_separates_9 10 rfl rfl 2 rfl ?_
  refine g_bipush hC (7 : Int32) dX5_separates_10 12 rfl bipush_7 ?_
  refine g_iconst hC (-1 : Int32) dX5_separates_12 13 rfl iconst_m1 ?_
  refine g_ownV hC (ct_X5_set l g a o p0 (7 : Int32) (-1 : Int32) _ h) gY_X5_set dX5_separates_13 16 rfl ml_X5_117 [] rfl rfl rfl 0 9 rfl rfl ⟨Nat.le_of_ble_eq_true rfl, Nat.le_of_ble_eq_true rfl⟩ (Nat.le_of_ble_eq_true rfl) ⟨Nat.le_refl _, Nat.le_refl _⟩ (fun o2 h => ?_)
  refine g_aload_n hC dX5_separates_16 17 rfl rfl 1 rfl ?_
  refine g_iload_n hC dX5_separates_17 18 rfl rfl 0 rfl ?_
  refine g_bipush hC (7 : Int32) dX5_separates_18 20 rfl bipush_7 ?_
  refine g_iconst hC (-1 : Int32) dX5_separates_20 21 rfl iconst_m1 ?_
  refine g_ownV hC (ct_X5_set l g a o2 v1 (7 : Int32) (-1 : Int32) _ h) gY_X5_set dX5_separates_21 24 rfl ml_X5_117 [] rfl rfl rfl 0 9 rfl rfl ⟨Nat.le_of_ble_eq_true rfl, Nat.le_of_ble_eq_true rfl⟩ (Nat.le_of_ble_eq_true rfl) ⟨Nat.le_refl _, Nat.le_refl _⟩ (fun o3 h => ?_)
  refine g_iload_n hC dX5_separates_24 25 rfl rfl 0 rfl ?_
  exact g_iret hC hZ dX5_separates_25 ⟨_, _, rfl, rfl, h⟩
def wp_X5_separate (post : Int32 → Off → Prop) (o : Off) (p0 : Int32) : Prop := wp_X5_begin (fun o1 => wp_X5_isSock (fun v2 => ((¬ v2 = 0 → wp_X5_cannotSeparate (fun v4 o3 => ((v4 = 0 → wp_X5_separates (fun v6 o5 => wp_X5_commit (fun v8 o7 => post v8 o7) o5 v6) o3 p0) ∧ (¬ v4 = 0 → wp_X5_reject (fun v10 o9 => post v10 o9) o3 (2 : Int32)))) o1 p0) ∧ (v2 = 0 → wp_X5_fail (fun v12 o11 => post v12 o11) o1 (1 : Int32)))) o1 p0) o 
set_option maxRecDepth 100000 in
set_option maxHeartbeats 4000000 in
theorem ct_X5_separate (l : Launch) (g : gE) (a : Nat → Nat) (o : Off) (p0 : Int32) (post : Int32 → Off → Prop) (h : wp_X5_separate post o p0) : Fn l g yX5_separate cX5_separate 2 (some .int) 3 64 0 0 (modW g a o) [.ref (a 0), .int p0] (pI (modW g a) post) := by
  refine Fn.of (by decide) (Nat.le_of_ble_eq_true rfl) (fun x hC hZ => ?_)
  rw [wp_X5_separate] at h
  show G x g 2 0 0 (modW g a o) 0 [(0, .ref (a 0)), (1, .int p0)] []
  refine g_aload_n hC dX5_separate_0 1 rfl rfl 0 rfl ?_
  refine g_ownV hC (ct_X5_begin l g a o  _ h) gY_X5_begin dX5_separate_1 4 rfl ml_X5_129 [] rfl rfl rfl 0 9 rfl rfl ⟨Nat.le_of_ble_eq_true rfl, Nat.le_of_ble_eq_true rfl⟩ (Nat.le_of_ble_eq_true rfl) ⟨Nat.le_refl _, Nat.le_refl _⟩ (fun o1 h => ?_)
  refine g_aload_n hC dX5_separate_4 5 rfl rfl 0 rfl ?_
  refine g_iload_n hC dX5_separate_5 6 rfl rfl 1 rfl ?_
  refine g_readV hC (ct_X5_isSock l g a o1 p0 _ h) gY_X5_isSock dX5_separate_6 9 rfl ml_X5_151 [] [] (by simp only [List.nil_append, List.append_nil]) [] rfl rfl rfl 0 9 rfl rfl ⟨Nat.le_of_ble_eq_true rfl, Nat.le_of_ble_eq_true rfl⟩ (Nat.le_of_ble_eq_true rfl) ⟨Nat.le_refl _, Nat.le_refl _⟩ (fun v2 h => ?_)
  refine g_if_ne hC dX5_separate_9 18 (by decide) 12 rfl (fun c => ?_) (fun c => ?_)
  · have h := h.1 c
    refine g_aload_n hC dX5_separate_18 19 rfl rfl 0 rfl ?_
    refine g_iload_n hC dX5_separate_19 20 rfl rfl 1 rfl ?_
    refine g_ownI hC (ct_X5_cannotSeparate l g a o1 p0 _ h) gY_X5_cannotSeparate dX5_separate_20 23 rfl ml_X5_240 [] rfl rfl rfl 0 9 rfl rfl ⟨Nat.le_of_ble_eq_true rfl, Nat.le_of_ble_eq_true rfl⟩ (Nat.le_of_ble_eq_true rfl) ⟨Nat.le_refl _, Nat.le_refl _⟩ (fun v4 o3 h => ?_)
    refine g_if_eq hC dX5_separate_23 34 (by decide) 26 rfl (fun c => ?_) (fun c => ?_)
    · have h := h.1 c
      refine g_aload_n hC dX5_separate_34 35 rfl rfl 0 rfl ?_
      refine g_aload_n hC dX5_separate_35 36 rfl rfl 0 rfl ?_
      refine g_iload_n hC dX5_separate_36 37 rfl rfl 1 rfl ?_
      refine g_ownI hC (ct_X5_separates l g a o3 p0 _ h) gY_X5_separates dX5_separate_37 40 rfl ml_X5_243 [.ref (a 0)] rfl rfl rfl 0 9 rfl rfl ⟨Nat.le_of_ble_eq_true rfl, Nat.le_of_ble_eq_true rfl⟩ (Nat.le_of_ble_eq_true rfl) ⟨Nat.le_refl _, Nat.le_refl _⟩ (fun v6 o5 h => ?_)
      refine g_ownI hC (ct_X5_commit l g a o5 v6 _ h) gY_X5_commit dX5_separate_40 43 rfl ml_X5_145 [] rfl rfl rfl 0 9 rfl rfl ⟨Nat.le_of_ble_eq_true rfl, Nat.le_of_ble_eq_true rfl⟩ (Nat.le_of_ble_eq_true rfl) ⟨Nat.le_refl _, Nat.le_refl _⟩ (fun v8 o7 h => ?_)
      exact g_iret hC hZ dX5_separate_43 ⟨_, _, rfl, rfl, h⟩
    · have h := h.2 c
      refine g_aload_n hC dX5_separate_26 27 rfl rfl 0 rfl ?_
      refine g_iconst hC (2 : Int32) dX5_separate_27 28 rfl iconst_2 ?_
      refine g_ownI hC (ct_X5_reject l g a o3 (2 : Int32) _ h) gY_X5_reject dX5_separate_28 31 rfl ml_X5_139 [] rfl rfl rfl 0 9 rfl rfl ⟨Nat.le_of_ble_eq_true rfl, Nat.le_of_ble_eq_true rfl⟩ (Nat.le_of_ble_eq_true rfl) ⟨Nat.le_refl _, Nat.le_refl _⟩ (fun v10 o9 h => ?_)
      refine g_goto hC dX5_separate_31 43 (by decide) ?_
      exact g_iret hC hZ dX5_separate_43 ⟨_, _, rfl, rfl, h⟩
  · have h := h.2 c
    refine g_aload_n hC dX5_separate_12 13 rfl rfl 0 rfl ?_
    refine g_iconst hC (1 : Int32) dX5_separate_13 14 rfl iconst_1 ?_
    refine g_ownI hC (ct_X5_fail l g a o1 (1 : Int32) _ h) gY_X5_fail dX5_separate_14 17 rfl ml_X5_88 [] rfl rfl rfl 0 9 rfl rfl ⟨Nat.le_of_ble_eq_true rfl, Nat.le_of_ble_eq_true rfl⟩ (Nat.le_of_ble_eq_true rfl) ⟨Nat.le_refl _, Nat.le_refl _⟩ (fun v12 o11 h => ?_)
    exact g_iret hC hZ dX5_separate_17 ⟨_, _, rfl, rfl, h⟩
def wp_X5_pairCount (post : Int32 → Off → Prop) (o : Off) (p0 : Int32) : Prop := wp_X5_isDrawer (fun v1 => wp_X5_checked (fun v3 o2 => ((v3 ≤ 0 → wp_X5_pairsIn (fun v4 => post v4 o2) o2 p0) ∧ (¬ v3 ≤ 0 → post (0 : Int32) o2))) o v1) p0
set_option maxRecDepth 100000 in
set_option maxHeartbeats 4000000 in
theorem ct_X5_pairCount (l : Launch) (g : gE) (a : Nat → Nat) (o : Off) (p0 : Int32) (post : Int32 → Off → Prop) (h : wp_X5_pairCount post o p0) : Fn l g yX5_pairCount cX5_pairCount 2 (some .int) 4 89 0 0 (modW g a o) [.ref (a 0), .int p0] (pI (modW g a) post) := by
  refine Fn.of (by decide) (Nat.le_of_ble_eq_true rfl) (fun x hC hZ => ?_)
  rw [wp_X5_pairCount] at h
  show G x g 2 0 0 (modW g a o) 0 [(0, .ref (a 0)), (1, .int p0)] []
  refine g_aload_n hC dX5_pairCount_0 1 rfl rfl 0 rfl ?_
  refine g_iload_n hC dX5_pairCount_1 2 rfl rfl 1 rfl ?_
  refine g_readS hC (ct_X5_isDrawer l g p0 _ h) gY_X5_isDrawer dX5_pairCount_2 5 rfl ml_X5_168 [] _ rfl [.ref (a 0)] rfl rfl ⟨Nat.le_of_ble_eq_true rfl, Nat.le_of_ble_eq_true rfl⟩ (Nat.le_of_ble_eq_true rfl) ⟨Nat.le_refl _, Nat.le_refl _⟩ (fun v1 h => ?_)
  refine g_ownI hC (ct_X5_checked l g a o v1 _ h) gY_X5_checked dX5_pairCount_5 8 rfl ml_X5_154 [] rfl rfl rfl 0 9 rfl rfl ⟨Nat.le_of_ble_eq_true rfl, Nat.le_of_ble_eq_true rfl⟩ (Nat.le_of_ble_eq_true rfl) ⟨Nat.le_refl _, Nat.le_refl _⟩ (fun v3 o2 h => ?_)
  refine g_if_le hC dX5_pairCount_8 15 (by decide) 11 rfl (fun c => ?_) (fun c => ?_)
  · have h := h.1 c
    refine g_aload_n hC dX5_pairCount_15 16 rfl rfl 0 rfl ?_
    refine g_iload_n hC dX5_pairCount_16 17 rfl rfl 1 rfl ?_
    refine g_readV hC (ct_X5_pairsIn l g a o2 p0 _ h) gY_X5_pairsIn dX5_pairCount_17 20 rfl ml_X5_231 [] [] (by simp only [List.nil_append, List.append_nil]) [] rfl rfl rfl 0 9 rfl rfl ⟨Nat.le_of_ble_eq_true rfl, Nat.le_of_ble_eq_true rfl⟩ (Nat.le_of_ble_eq_true rfl) ⟨Nat.le_refl _, Nat.le_refl _⟩ (fun v4 h => ?_)
    exact g_iret hC hZ dX5_pairCount_20 ⟨_, _, rfl, rfl, h⟩
  · have h := h.2 c
    refine g_iconst hC (0 : Int32) dX5_pairCount_11 12 rfl iconst_0 ?_
    refine g_goto hC dX5_pairCount_12 20 (by decide) ?_
    exact g_iret hC hZ dX5_pairCount_20 ⟨_, _, rfl, rfl, h⟩
def wl_X5_single_6 (post : Int32 → Prop) (o : Off) : Nat → Int32 → Int32 → Int32 → Int32 → Int32 → Prop
  | 0, _, _, _, _, _ => False
  | n + 1, x1, x2, x3, x4, x5 => (vp_in (0 : Int32) 160 ∧ (((o 1 (0 : Int32).toNatClampNeg) ≤ x5 → post x4) ∧ (¬ (o 1 (0 : Int32).toNatClampNeg) ≤ x5 → wp_X5_livesIn (fun v1 => ((v1 = 0 → (∀ v2 : Int32, v2 = (x4 + (0 : Int32)) → (∀ v3 : Int32, v3 = x5 + (1 : Int32) → wl_X5_single_6 post o n x1 x2 x3 v2 v3))) ∧ (¬ v1 = 0 → wp_X5_isPaired (fun v4 => ((¬ v4 = 0 → (∀ v5 : Int32, v5 = (x4 + (0 : Int32)) → (∀ v6 : Int32, v6 = x5 + (1 : Int32) → wl_X5_single_6 post o n x1 x2 x3 v5 v6))) ∧ (v4 = 0 → wp_X5_s (fun v7 => ((¬ v7 = x2 → (∀ v8 : Int32, v8 = (x4 + (0 : Int32)) → (∀ v9 : Int32, v9 = x5 + (1 : Int32) → wl_X5_single_6 post o n x1 x2 x3 v8 v9))) ∧ (v7 = x2 → wp_X5_s (fun v10 => ((¬ v10 = x3 → (∀ v11 : Int32, v11 = (x4 + (0 : Int32)) → (∀ v12 : Int32, v12 = x5 + (1 : Int32) → wl_X5_single_6 post o n x1 x2 x3 v11 v12))) ∧ (v10 = x3 → (∀ v13 : Int32, v13 = (x4 + (1 : Int32)) → (∀ v14 : Int32, v14 = x5 + (1 : Int32) → wl_X5_single_6 post o n x1 x2 x3 v13 v14))))) o x5 (0 : Int32)))) o x5 (1 : Int32)))) o x5))) o x5 x1)))
def wp_X5_single (post : Int32 → Prop) (o : Off) (p0 : Int32) (p1 : Int32) (p2 : Int32) : Prop := (∃ m : Nat, wl_X5_single_6 post o m p0 p1 p2 (0 : Int32) (0 : Int32))
set_option maxRecDepth 100000 in
set_option maxHeartbeats 4000000 in
theorem lp_X5_single_6 {x : gX} {l : Launch} {g : gE} {a : Nat → Nat} {o : Off} {post : Int32 → Prop} (hC : gC x l cX5_single 6 RX5 g 3 66 0 0) (hZ : gZ x g (some .int) (modW g a o) (pR (modW g a o) post) 0 0) : ∀ (n : Nat) (x1 : Int32) (x2 : Int32) (x3 : Int32) (x4 : Int32) (x5 : Int32) , wl_X5_single_6 post o n x1 x2 x3 x4 x5 → G x g 6 0 0 (modW g a o) 6 [(0, .ref (a 0)), (1, .int x1), (2, .int x2), (3, .int x3), (4, .int x4), (5, .int x5)] [] := by
  intro n
  induction n with
  | zero =>
    intro x1 x2 x3 x4 x5 h
    exact h.elim
  | succ n ih =>
    intro x1 x2 x3 x4 x5 h
    rw [wl_X5_single_6] at h
    refine g_iload hC dX5_single_6 8 rfl 5 rfl ?_
    refine g_aload_n hC dX5_single_8 9 rfl rfl 0 rfl ?_
    refine g_get hC fl_X5_7 dX5_single_9 12 rfl 0 rfl rfl ?_
    refine g_iconst hC (0 : Int32) dX5_single_12 13 rfl iconst_0 ?_
    obtain ⟨hi, h⟩ := h
    refine g_iald hC dX5_single_13 14 rfl 1 rfl hi ?_
    refine g_icmp_ge hC dX5_single_14 74 (by decide) 17 rfl (fun c => ?_) (fun c => ?_)
    · have h := h.1 c
      refine g_iload hC dX5_single_74 76 rfl 4 rfl ?_
      exact g_iret hC hZ dX5_single_76 ⟨_, rfl, rfl, h⟩
    · have h := h.2 c
      refine g_iload hC dX5_single_17 19 rfl 4 rfl ?_
      refine g_aload_n hC dX5_single_19 20 rfl rfl 0 rfl ?_
      refine g_iload hC dX5_single_20 22 rfl 5 rfl ?_
      refine g_iload_n hC dX5_single_22 23 rfl rfl 1 rfl ?_
      refine g_readV hC (ct_X5_livesIn l g a o x5 x1 _ h) gY_X5_livesIn dX5_single_23 26 rfl ml_X5_104 [] [] (by simp only [List.nil_append, List.append_nil]) [.int x4] rfl rfl rfl 0 9 rfl rfl ⟨Nat.le_of_ble_eq_true rfl, Nat.le_of_ble_eq_true rfl⟩ (Nat.le_of_ble_eq_true rfl) ⟨Nat.le_refl _, Nat.le_refl _⟩ (fun v1 h => ?_)
      refine g_if_eq hC dX5_single_26 64 (by decide) 29 rfl (fun c => ?_) (fun c => ?_)
      · have h := h.1 c
        refine g_iconst hC (0 : Int32) dX5_single_64 65 rfl iconst_0 ?_
        refine g_iadd hC dX5_single_65 66 rfl ?_
        refine g_topi (fun v2 ev2 => ?_)
        have h := h v2 ev2
        refine g_istore (lv2 := [(4, .int v2), (0, .ref (a 0)), (1, .int x1), (2, .int x2), (3, .int x3), (5, .int x5)]) hC dX5_single_66 68 rfl (by decide) rfl ?_
        obtain ⟨v3, ev3⟩ : ∃ y : Int32, y = x5 + (1 : Int32) := ⟨_, rfl⟩
        have h := h v3 ev3
        refine g_iinc (v2 := v3) (lv2 := [(5, .int v3), (4, .int v2), (0, .ref (a 0)), (1, .int x1), (2, .int x2), (3, .int x3)]) hC dX5_single_68 71 rfl 5 rfl (by rw [iconst_1, ev3]) (by decide) rfl ?_
        refine g_goto hC dX5_single_71 6 (by decide) ?_
        refine g_lv (lv2 := [(0, .ref (a 0)), (1, .int x1), (2, .int x2), (3, .int x3), (4, .int v2), (5, .int v3)]) [2, 3, 4, 5, 1, 0] rfl ?_
        exact ih x1 x2 x3 v2 v3 h
      · have h := h.2 c
        refine g_aload_n hC dX5_single_29 30 rfl rfl 0 rfl ?_
        refine g_iload hC dX5_single_30 32 rfl 5 rfl ?_
        refine g_readV hC (ct_X5_isPaired l g a o x5 _ h) gY_X5_isPaired dX5_single_32 35 rfl ml_X5_110 [] [] (by simp only [List.nil_append, List.append_nil]) [.int x4] rfl rfl rfl 0 9 rfl rfl ⟨Nat.le_of_ble_eq_true rfl, Nat.le_of_ble_eq_true rfl⟩ (Nat.le_of_ble_eq_true rfl) ⟨Nat.le_refl _, Nat.le_refl _⟩ (fun v4 h => ?_)
        refine g_if_ne hC dX5_single_35 64 (by decide) 38 rfl (fun c => ?_) (fun c => ?_)
        · have h := h.1 c
          refine g_iconst hC (0 : Int32) dX5_single_64 65 rfl iconst_0 ?_
          refine g_iadd hC dX5_single_65 66 rfl ?_
          refine g_topi (fun v5 ev5 => ?_)
          have h := h v5 ev5
          refine g_istore (lv2 := [(4, .int v5), (0, .ref (a 0)), (1, .int x1), (2, .int x2), (3, .int x3), (5, .int x5)]) hC dX5_single_66 68 rfl (by decide) rfl ?_
          obtain ⟨v6, ev6⟩ : ∃ y : Int32, y = x5 + (1 : Int32) := ⟨_, rfl⟩
          have h := h v6 ev6
          refine g_iinc (v2 := v6) (lv2 := [(5, .int v6), (4, .int v5), (0, .ref (a 0)), (1, .int x1), (2, .int x2), (3, .int x3)]) hC dX5_single_68 71 rfl 5 rfl (by rw [iconst_1, ev6]) (by decide) rfl ?_
          refine g_goto hC dX5_single_71 6 (by decide) ?_
          refine g_lv (lv2 := [(0, .ref (a 0)), (1, .int x1), (2, .int x2), (3, .int x3), (4, .int v5), (5, .int v6)]) [2, 3, 4, 5, 1, 0] rfl ?_
          exact ih x1 x2 x3 v5 v6 h
        · have h := h.2 c
          refine g_aload_n hC dX5_single_38 39 rfl rfl 0 rfl ?_
          refine g_iload hC dX5_single_39 41 rfl 5 rfl ?_
          refine g_iconst hC (1 : Int32) dX5_single_41 42 rfl iconst_1 ?_
          refine g_readV hC (ct_X5_s l g a o x5 (1 : Int32) _ h) gY_X5_s dX5_single_42 45 rfl ml_X5_96 [] [] (by simp only [List.nil_append, List.append_nil]) [.int x4] rfl rfl rfl 0 9 rfl rfl ⟨Nat.le_of_ble_eq_true rfl, Nat.le_of_ble_eq_true rfl⟩ (Nat.le_of_ble_eq_true rfl) ⟨Nat.le_refl _, Nat.le_refl _⟩ (fun v7 h => ?_)
          refine g_iload_n hC dX5_single_45 46 rfl rfl 2 rfl ?_
          refine g_icmp_ne hC dX5_single_46 64 (by decide) 49 rfl (fun c => ?_) (fun c => ?_)
          · have h := h.1 c
            refine g_iconst hC (0 : Int32) dX5_single_64 65 rfl iconst_0 ?_
            refine g_iadd hC dX5_single_65 66 rfl ?_
            refine g_topi (fun v8 ev8 => ?_)
            have h := h v8 ev8
            refine g_istore (lv2 := [(4, .int v8), (0, .ref (a 0)), (1, .int x1), (2, .int x2), (3, .int x3), (5, .int x5)]) hC dX5_single_66 68 rfl (by decide) rfl ?_
            obtain ⟨v9, ev9⟩ : ∃ y : Int32, y = x5 + (1 : Int32) := ⟨_, rfl⟩
            have h := h v9 ev9
            refine g_iinc (v2 := v9) (lv2 := [(5, .int v9), (4, .int v8), (0, .ref (a 0)), (1, .int x1), (2, .int x2), (3, .int x3)]) hC dX5_single_68 71 rfl 5 rfl (by rw [iconst_1, ev9]) (by decide) rfl ?_
            refine g_goto hC dX5_single_71 6 (by decide) ?_
            refine g_lv (lv2 := [(0, .ref (a 0)), (1, .int x1), (2, .int x2), (3, .int x3), (4, .int v8), (5, .int v9)]) [2, 3, 4, 5, 1, 0] rfl ?_
            exact ih x1 x2 x3 v8 v9 h
          · have h := h.2 c
            refine g_aload_n hC dX5_single_49 50 rfl rfl 0 rfl ?_
            refine g_iload hC dX5_single_50 52 rfl 5 rfl ?_
            refine g_iconst hC (0 : Int32) dX5_single_52 53 rfl iconst_0 ?_
            refine g_readV hC (ct_X5_s l g a o x5 (0 : Int32) _ h) gY_X5_s dX5_single_53 56 rfl ml_X5_96 [] [] (by simp only [List.nil_append, List.append_nil]) [.int x4] rfl rfl rfl 0 9 rfl rfl ⟨Nat.le_of_ble_eq_true rfl, Nat.le_of_ble_eq_true rfl⟩ (Nat.le_of_ble_eq_true rfl) ⟨Nat.le_refl _, Nat.le_refl _⟩ (fun v10 h => ?_)
            refine g_iload_n hC dX5_single_56 57 rfl rfl 3 rfl ?_
            refine g_icmp_ne hC dX5_single_57 64 (by decide) 60 rfl (fun c => ?_) (fun c => ?_)
            · have h := h.1 c
              refine g_iconst hC (0 : Int32) dX5_single_64 65 rfl iconst_0 ?_
              refine g_iadd hC dX5_single_65 66 rfl ?_
              refine g_topi (fun v11 ev11 => ?_)
              have h := h v11 ev11
              refine g_istore (lv2 := [(4, .int v11), (0, .ref (a 0)), (1, .int x1), (2, .int x2), (3, .int x3), (5, .int x5)]) hC dX5_single_66 68 rfl (by decide) rfl ?_
              obtain ⟨v12, ev12⟩ : ∃ y : Int32, y = x5 + (1 : Int32) := ⟨_, rfl⟩
              have h := h v12 ev12
              refine g_iinc (v2 := v12) (lv2 := [(5, .int v12), (4, .int v11), (0, .ref (a 0)), (1, .int x1), (2, .int x2), (3, .int x3)]) hC dX5_single_68 71 rfl 5 rfl (by rw [iconst_1, ev12]) (by decide) rfl ?_
              refine g_goto hC dX5_single_71 6 (by decide) ?_
              refine g_lv (lv2 := [(0, .ref (a 0)), (1, .int x1), (2, .int x2), (3, .int x3), (4, .int v11), (5, .int v12)]) [2, 3, 4, 5, 1, 0] rfl ?_
              exact ih x1 x2 x3 v11 v12 h
            · have h := h.2 c
              refine g_iconst hC (1 : Int32) dX5_single_60 61 rfl iconst_1 ?_
              refine g_goto hC dX5_single_61 65 (by decide) ?_
              refine g_iadd hC dX5_single_65 66 rfl ?_
              refine g_topi (fun v13 ev13 => ?_)
              have h := h v13 ev13
              refine g_istore (lv2 := [(4, .int v13), (0, .ref (a 0)), (1, .int x1), (2, .int x2), (3, .int x3), (5, .int x5)]) hC dX5_single_66 68 rfl (by decide) rfl ?_
              obtain ⟨v14, ev14⟩ : ∃ y : Int32, y = x5 + (1 : Int32) := ⟨_, rfl⟩
              have h := h v14 ev14
              refine g_iinc (v2 := v14) (lv2 := [(5, .int v14), (4, .int v13), (0, .ref (a 0)), (1, .int x1), (2, .int x2), (3, .int x3)]) hC dX5_single_68 71 rfl 5 rfl (by rw [iconst_1, ev14]) (by decide) rfl ?_
              refine g_goto hC dX5_single_71 6 (by decide) ?_
              refine g_lv (lv2 := [(0, .ref (a 0)), (1, .int x1), (2, .int x2), (3, .int x3), (4, .int v13), (5, .int v14)]) [2, 3, 4, 5, 1, 0] rfl ?_
              exact ih x1 x2 x3 v13 v14 h
set_option maxRecDepth 100000 in
set_option maxHeartbeats 4000000 in
theorem ct_X5_single (l : Launch) (g : gE) (a : Nat → Nat) (o : Off) (p0 : Int32) (p1 : Int32) (p2 : Int32) (post : Int32 → Prop) (h : wp_X5_single post o p0 p1 p2) : Fn l g yX5_single cX5_single 6 (some .int) 3 66 0 0 (modW g a o) [.ref (a 0), .int p0, .int p1, .int p2] (pR (modW g a o) post) := by
  refine Fn.of (by decide) (Nat.le_of_ble_eq_true rfl) (fun x hC hZ => ?_)
  rw [wp_X5_single] at h
  show G x g 6 0 0 (modW g a o) 0 [(0, .ref (a 0)), (1, .int p0), (2, .int p1), (3, .int p2)] []
  refine g_iconst hC (0 : Int32) dX5_single_0 1 rfl iconst_0 ?_
  refine g_istore (lv2 := [(4, .int (0 : Int32)), (0, .ref (a 0)), (1, .int p0), (2, .int p1), (3, .int p2)]) hC dX5_single_1 3 rfl (by decide) rfl ?_
  refine g_iconst hC (0 : Int32) dX5_single_3 4 rfl iconst_0 ?_
  refine g_istore (lv2 := [(5, .int (0 : Int32)), (4, .int (0 : Int32)), (0, .ref (a 0)), (1, .int p0), (2, .int p1), (3, .int p2)]) hC dX5_single_4 6 rfl (by decide) rfl ?_
  refine g_lv (lv2 := [(0, .ref (a 0)), (1, .int p0), (2, .int p1), (3, .int p2), (4, .int (0 : Int32)), (5, .int (0 : Int32))]) [2, 3, 4, 5, 1, 0] rfl ?_
  obtain ⟨m, h⟩ := h
  exact lp_X5_single_6 hC hZ m p0 p1 p2 (0 : Int32) (0 : Int32) h
def wj_X5_possible_93 (post : Int32 → Off → Prop) (K17 : Off → Int32 → Int32 → Int32 → Prop) (o : Off) (x1 : Int32) (x2 : Int32) (x3 : Int32) (x4 : Int32) (x5 : Int32) (x6 : Int32) (x7 : Int32) (s0 : Int32) : Prop := (∀ v9 : Int32, v9 = (x2 + (((((x4 / (2 : Int32)) + (x5 / (2 : Int32))) + (x6 / (2 : Int32))) + s0) + ((x7 - s0) / (2 : Int32)))) → (∀ v10 : Int32, v10 = x3 + (1 : Int32) → K17 o x1 v9 v10))
def wl_X5_possible_17 (post : Int32 → Off → Prop) : Nat → Off → Int32 → Int32 → Int32 → Prop
  | 0, _, _, _, _ => False
  | n + 1, o, x1, x2, x3 => (((10 : Int32) ≤ x3 → post x2 o) ∧ (¬ (10 : Int32) ≤ x3 → wp_X5_single (fun v4 => wp_X5_single (fun v5 => wp_X5_single (fun v6 => wp_X5_single (fun v7 => (∀ v8 : Int32, v8 = (((v4 - v4 / (2 : Int32) * (2 : Int32)) + (v5 - v5 / (2 : Int32) * (2 : Int32))) + (v6 - v6 / (2 : Int32) * (2 : Int32))) → ((v7 ≤ v8 → wj_X5_possible_93 post (fun o x1 x2 x3 => wl_X5_possible_17 post n o x1 x2 x3) o x1 x2 x3 v4 v5 v6 v7 v7) ∧ (¬ v7 ≤ v8 → wj_X5_possible_93 post (fun o x1 x2 x3 => wl_X5_possible_17 post n o x1 x2 x3) o x1 x2 x3 v4 v5 v6 v7 v8)))) o x1 x3 (119 : Int32)) o x1 x3 (98 : Int32)) o x1 x3 (103 : Int32)) o x1 x3 (114 : Int32)))
def wp_X5_possible (post : Int32 → Off → Prop) (o : Off) (p0 : Int32) : Prop := wp_X5_isDrawer (fun v1 => wp_X5_checked (fun v3 o2 => ((v3 ≤ 0 → (∃ m : Nat, wl_X5_possible_17 post m o2 p0 (0 : Int32) (1 : Int32))) ∧ (¬ v3 ≤ 0 → post (0 : Int32) o2))) o v1) p0
set_option maxRecDepth 100000 in
set_option maxHeartbeats 4000000 in
theorem jn_X5_possible_93 {x : gX} {l : Launch} {g : gE} {a : Nat → Nat} {o0 : Off} {post : Int32 → Off → Prop} (hC : gC x l cX5_possible 10 RX5 g 4 91 0 0) (hZ : gZ x g (some .int) (modW g a o0) (pI (modW g a) post) 0 0) {K17 : Off → Int32 → Int32 → Int32 → Prop} (hK17 : ∀ (o : Off) (x1 : Int32) (x2 : Int32) (x3 : Int32) , K17 o x1 x2 x3 → G x g 10 0 0 (modW g a o) 17 [(0, .ref (a 0)), (1, .int x1), (2, .int x2), (3, .int x3)] []) : ∀ (o : Off) (x1 : Int32) (x2 : Int32) (x3 : Int32) (x4 : Int32) (x5 : Int32) (x6 : Int32) (x7 : Int32) (s0 : Int32) , wj_X5_possible_93 post K17 o x1 x2 x3 x4 x5 x6 x7 s0 → G x g 10 0 0 (modW g a o) 93 [(0, .ref (a 0)), (1, .int x1), (2, .int x2), (3, .int x3), (4, .int x4), (5, .int x5), (6, .int x6), (7, .int x7)] [.int s0] := by
  intro o x1 x2 x3 x4 x5 x6 x7 s0 h
  rw [wj_X5_possible_93] at h
  refine g_istore (lv2 := [(9, .int s0), (0, .ref (a 0)), (1, .int x1), (2, .int x2), (3, .int x3), (4, .int x4), (5, .int x5), (6, .int x6), (7, .int x7)]) hC dX5_possible_93 95 rfl (by decide) rfl ?_
  refine g_iload_n hC dX5_possible_95 96 rfl rfl 3 rfl ?_
  refine g_iload hC dX5_possible_96 98 rfl 5 rfl ?_
  refine g_iconst hC (2 : Int32) dX5_possible_98 99 rfl iconst_2 ?_
  refine g_idiv hC dX5_possible_99 100 rfl (by decide) ?_
  refine g_iload hC dX5_possible_100 102 rfl 6 rfl ?_
  refine g_iconst hC (2 : Int32) dX5_possible_102 103 rfl iconst_2 ?_
  refine g_idiv hC dX5_possible_103 104 rfl (by decide) ?_
  refine g_iadd hC dX5_possible_104 105 rfl ?_
  refine g_iload hC dX5_possible_105 107 rfl 7 rfl ?_
  refine g_iconst hC (2 : Int32) dX5_possible_107 108 rfl iconst_2 ?_
  refine g_idiv hC dX5_possible_108 109 rfl (by decide) ?_
  refine g_iadd hC dX5_possible_109 110 rfl ?_
  refine g_iload hC dX5_possible_110 112 rfl 0 rfl ?_
  refine g_iadd hC dX5_possible_112 113 rfl ?_
  refine g_iload hC dX5_possible_113 115 rfl 8 rfl ?_
  refine g_iload hC dX5_possible_115 117 rfl 0 rfl ?_
  refine g_isub hC dX5_possible_117 118 rfl ?_
  refine g_iconst hC (2 : Int32) dX5_possible_118 119 rfl iconst_2 ?_
  refine g_idiv hC dX5_possible_119 120 rfl (by decide) ?_
  refine g_iadd hC dX5_possible_120 121 rfl ?_
  refine g_iadd hC dX5_possible_121 122 rfl ?_
  refine g_topi (fun v9 ev9 => ?_)
  have h := h v9 ev9
  refine g_istore_n (lv2 := [(2, .int v9), (9, .int s0), (0, .ref (a 0)), (1, .int x1), (3, .int x3), (4, .int x4), (5, .int x5), (6, .int x6), (7, .int x7)]) hC dX5_possible_122 123 rfl rfl (by decide) rfl ?_
  obtain ⟨v10, ev10⟩ : ∃ y : Int32, y = x3 + (1 : Int32) := ⟨_, rfl⟩
  have h := h v10 ev10
  refine g_iinc (v2 := v10) (lv2 := [(3, .int v10), (2, .int v9), (9, .int s0), (0, .ref (a 0)), (1, .int x1), (4, .int x4), (5, .int x5), (6, .int x6), (7, .int x7)]) hC dX5_possible_123 126 rfl 4 rfl (by rw [iconst_1, ev10]) (by decide) rfl ?_
  refine g_goto hC dX5_possible_126 17 (by decide) ?_
  refine g_lv (lv2 := [(0, .ref (a 0)), (1, .int x1), (2, .int v9), (3, .int v10)]) [3, 4, 1, 0] rfl ?_
  exact hK17 o x1 v9 v10 h
set_option maxRecDepth 100000 in
set_option maxHeartbeats 4000000 in
theorem lp_X5_possible_17 {x : gX} {l : Launch} {g : gE} {a : Nat → Nat} {o0 : Off} {post : Int32 → Off → Prop} (hC : gC x l cX5_possible 10 RX5 g 4 91 0 0) (hZ : gZ x g (some .int) (modW g a o0) (pI (modW g a) post) 0 0) : ∀ (n : Nat) (o : Off) (x1 : Int32) (x2 : Int32) (x3 : Int32) , wl_X5_possible_17 post n o x1 x2 x3 → G x g 10 0 0 (modW g a o) 17 [(0, .ref (a 0)), (1, .int x1), (2, .int x2), (3, .int x3)] [] := by
  intro n
  induction n with
  | zero =>
    intro o x1 x2 x3 h
    exact h.elim
  | succ n ih =>
    intro o x1 x2 x3 h
    rw [wl_X5_possible_17] at h
    refine g_iload_n hC dX5_possible_17 18 rfl rfl 3 rfl ?_
    refine g_bipush hC (10 : Int32) dX5_possible_18 20 rfl bipush_10 ?_
    refine g_icmp_ge hC dX5_possible_20 129 (by decide) 23 rfl (fun c => ?_) (fun c => ?_)
    · have h := h.1 c
      refine g_iload_n hC dX5_possible_129 130 rfl rfl 2 rfl ?_
      exact g_iret hC hZ dX5_possible_130 ⟨_, _, rfl, rfl, h⟩
    · have h := h.2 c
      refine g_aload_n hC dX5_possible_23 24 rfl rfl 0 rfl ?_
      refine g_iload_n hC dX5_possible_24 25 rfl rfl 1 rfl ?_
      refine g_iload_n hC dX5_possible_25 26 rfl rfl 3 rfl ?_
      refine g_bipush hC (114 : Int32) dX5_possible_26 28 rfl bipush_114 ?_
      refine g_readV hC (ct_X5_single l g a o x1 x3 (114 : Int32) _ h) gY_X5_single dX5_possible_28 31 rfl ml_X5_246 [] [] (by simp only [List.nil_append, List.append_nil]) [] rfl rfl rfl 0 9 rfl rfl ⟨Nat.le_of_ble_eq_true rfl, Nat.le_of_ble_eq_true rfl⟩ (Nat.le_of_ble_eq_true rfl) ⟨Nat.le_refl _, Nat.le_refl _⟩ (fun v4 h => ?_)
      refine g_istore (lv2 := [(4, .int v4), (0, .ref (a 0)), (1, .int x1), (2, .int x2), (3, .int x3)]) hC dX5_possible_31 33 rfl (by decide) rfl ?_
      refine g_aload_n hC dX5_possible_33 34 rfl rfl 1 rfl ?_
      refine g_iload_n hC dX5_possible_34 35 rfl rfl 2 rfl ?_
      refine g_iload_n hC dX5_possible_35 36 rfl rfl 4 rfl ?_
      refine g_bipush hC (103 : Int32) dX5_possible_36 38 rfl bipush_103 ?_
      refine g_readV hC (ct_X5_single l g a o x1 x3 (103 : Int32) _ h) gY_X5_single dX5_possible_38 41 rfl ml_X5_246 [] [] (by simp only [List.nil_append, List.append_nil]) [] rfl rfl rfl 0 9 rfl rfl ⟨Nat.le_of_ble_eq_true rfl, Nat.le_of_ble_eq_true rfl⟩ (Nat.le_of_ble_eq_true rfl) ⟨Nat.le_refl _, Nat.le_refl _⟩ (fun v5 h => ?_)
      refine g_istore (lv2 := [(5, .int v5), (4, .int v4), (0, .ref (a 0)), (1, .int x1), (2, .int x2), (3, .int x3)]) hC dX5_possible_41 43 rfl (by decide) rfl ?_
      refine g_aload_n hC dX5_possible_43 44 rfl rfl 2 rfl ?_
      refine g_iload_n hC dX5_possible_44 45 rfl rfl 3 rfl ?_
      refine g_iload_n hC dX5_possible_45 46 rfl rfl 5 rfl ?_
      refine g_bipush hC (98 : Int32) dX5_possible_46 48 rfl bipush_98 ?_
      refine g_readV hC (ct_X5_single l g a o x1 x3 (98 : Int32) _ h) gY_X5_single dX5_possible_48 51 rfl ml_X5_246 [] [] (by simp only [List.nil_append, List.append_nil]) [] rfl rfl rfl 0 9 rfl rfl ⟨Nat.le_of_ble_eq_true rfl, Nat.le_of_ble_eq_true rfl⟩ (Nat.le_of_ble_eq_true rfl) ⟨Nat.le_refl _, Nat.le_refl _⟩ (fun v6 h => ?_)
      refine g_istore (lv2 := [(6, .int v6), (5, .int v5), (4, .int v4), (0, .ref (a 0)), (1, .int x1), (2, .int x2), (3, .int x3)]) hC dX5_possible_51 53 rfl (by decide) rfl ?_
      refine g_aload_n hC dX5_possible_53 54 rfl rfl 3 rfl ?_
      refine g_iload_n hC dX5_possible_54 55 rfl rfl 4 rfl ?_
      refine g_iload_n hC dX5_possible_55 56 rfl rfl 6 rfl ?_
      refine g_bipush hC (119 : Int32) dX5_possible_56 58 rfl bipush_119 ?_
      refine g_readV hC (ct_X5_single l g a o x1 x3 (119 : Int32) _ h) gY_X5_single dX5_possible_58 61 rfl ml_X5_246 [] [] (by simp only [List.nil_append, List.append_nil]) [] rfl rfl rfl 0 9 rfl rfl ⟨Nat.le_of_ble_eq_true rfl, Nat.le_of_ble_eq_true rfl⟩ (Nat.le_of_ble_eq_true rfl) ⟨Nat.le_refl _, Nat.le_refl _⟩ (fun v7 h => ?_)
      refine g_istore (lv2 := [(7, .int v7), (6, .int v6), (5, .int v5), (4, .int v4), (0, .ref (a 0)), (1, .int x1), (2, .int x2), (3, .int x3)]) hC dX5_possible_61 63 rfl (by decide) rfl ?_
      refine g_iload hC dX5_possible_63 65 rfl 3 rfl ?_
      refine g_iconst hC (2 : Int32) dX5_possible_65 66 rfl iconst_2 ?_
      refine g_irem hC dX5_possible_66 67 rfl (by decide) ?_
      refine g_iload hC dX5_possible_67 69 rfl 2 rfl ?_
      refine g_iconst hC (2 : Int32) dX5_possible_69 70 rfl iconst_2 ?_
      refine g_irem hC dX5_possible_70 71 rfl (by decide) ?_
      refine g_iadd hC dX5_possible_71 72 rfl ?_
      refine g_iload hC dX5_possible_72 74 rfl 1 rfl ?_
      refine g_iconst hC (2 : Int32) dX5_possible_74 75 rfl iconst_2 ?_
      refine g_irem hC dX5_possible_75 76 rfl (by decide) ?_
      refine g_iadd hC dX5_possible_76 77 rfl ?_
      refine g_topi (fun v8 ev8 => ?_)
      have h := h v8 ev8
      refine g_istore (lv2 := [(8, .int v8), (7, .int v7), (6, .int v6), (5, .int v5), (4, .int v4), (0, .ref (a 0)), (1, .int x1), (2, .int x2), (3, .int x3)]) hC dX5_possible_77 79 rfl (by decide) rfl ?_
      refine g_iload hC dX5_possible_79 81 rfl 0 rfl ?_
      refine g_iload hC dX5_possible_81 83 rfl 1 rfl ?_
      refine g_icmp_ge hC dX5_possible_83 91 (by decide) 86 rfl (fun c => ?_) (fun c => ?_)
      · have h := h.1 c
        refine g_iload hC dX5_possible_91 93 rfl 1 rfl ?_
        refine g_lv (lv2 := [(0, .ref (a 0)), (1, .int x1), (2, .int x2), (3, .int x3), (4, .int v4), (5, .int v5), (6, .int v6), (7, .int v7)]) [5, 6, 7, 8, 4, 3, 2, 1] rfl ?_
        exact jn_X5_possible_93 hC hZ ih o x1 x2 x3 v4 v5 v6 v7 v7 h
      · have h := h.2 c
        refine g_iload hC dX5_possible_86 88 rfl 0 rfl ?_
        refine g_goto hC dX5_possible_88 93 (by decide) ?_
        refine g_lv (lv2 := [(0, .ref (a 0)), (1, .int x1), (2, .int x2), (3, .int x3), (4, .int v4), (5, .int v5), (6, .int v6), (7, .int v7)]) [5, 6, 7, 8, 4, 3, 2, 1] rfl ?_
        exact jn_X5_possible_93 hC hZ ih o x1 x2 x3 v4 v5 v6 v7 v8 h
set_option maxRecDepth 100000 in
set_option maxHeartbeats 4000000 in
theorem ct_X5_possible (l : Launch) (g : gE) (a : Nat → Nat) (o : Off) (p0 : Int32) (post : Int32 → Off → Prop) (h : wp_X5_possible post o p0) : Fn l g yX5_possible cX5_possible 10 (some .int) 4 91 0 0 (modW g a o) [.ref (a 0), .int p0] (pI (modW g a) post) := by
  refine Fn.of (by decide) (Nat.le_of_ble_eq_true rfl) (fun x hC hZ => ?_)
  rw [wp_X5_possible] at h
  show G x g 10 0 0 (modW g a o) 0 [(0, .ref (a 0)), (1, .int p0)] []
  refine g_aload_n hC dX5_possible_0 1 rfl rfl 0 rfl ?_
  refine g_iload_n hC dX5_possible_1 2 rfl rfl 1 rfl ?_
  refine g_readS hC (ct_X5_isDrawer l g p0 _ h) gY_X5_isDrawer dX5_possible_2 5 rfl ml_X5_168 [] _ rfl [.ref (a 0)] rfl rfl ⟨Nat.le_of_ble_eq_true rfl, Nat.le_of_ble_eq_true rfl⟩ (Nat.le_of_ble_eq_true rfl) ⟨Nat.le_refl _, Nat.le_refl _⟩ (fun v1 h => ?_)
  refine g_ownI hC (ct_X5_checked l g a o v1 _ h) gY_X5_checked dX5_possible_5 8 rfl ml_X5_154 [] rfl rfl rfl 0 9 rfl rfl ⟨Nat.le_of_ble_eq_true rfl, Nat.le_of_ble_eq_true rfl⟩ (Nat.le_of_ble_eq_true rfl) ⟨Nat.le_refl _, Nat.le_refl _⟩ (fun v3 o2 h => ?_)
  refine g_if_le hC dX5_possible_8 13 (by decide) 11 rfl (fun c => ?_) (fun c => ?_)
  · have h := h.1 c
    refine g_iconst hC (0 : Int32) dX5_possible_13 14 rfl iconst_0 ?_
    refine g_istore_n (lv2 := [(2, .int (0 : Int32)), (0, .ref (a 0)), (1, .int p0)]) hC dX5_possible_14 15 rfl rfl (by decide) rfl ?_
    refine g_iconst hC (1 : Int32) dX5_possible_15 16 rfl iconst_1 ?_
    refine g_istore_n (lv2 := [(3, .int (1 : Int32)), (2, .int (0 : Int32)), (0, .ref (a 0)), (1, .int p0)]) hC dX5_possible_16 17 rfl rfl (by decide) rfl ?_
    refine g_lv (lv2 := [(0, .ref (a 0)), (1, .int p0), (2, .int (0 : Int32)), (3, .int (1 : Int32))]) [2, 3, 1, 0] rfl ?_
    obtain ⟨m, h⟩ := h
    exact lp_X5_possible_17 hC hZ m o2 p0 (0 : Int32) (1 : Int32) h
  · have h := h.2 c
    refine g_iconst hC (0 : Int32) dX5_possible_11 12 rfl iconst_0 ?_
    exact g_iret hC hZ dX5_possible_12 ⟨_, _, rfl, rfl, h⟩
def wp_X5_possiblePairs (post : Int32 → Off → Prop) (o : Off) (p0 : Int32) : Prop := wp_X5_possible (fun v2 o1 => post v2 o1) o p0
set_option maxRecDepth 100000 in
set_option maxHeartbeats 4000000 in
theorem ct_X5_possiblePairs (l : Launch) (g : gE) (a : Nat → Nat) (o : Off) (p0 : Int32) (post : Int32 → Off → Prop) (h : wp_X5_possiblePairs post o p0) : Fn l g yX5_possiblePairs cX5_possiblePairs 2 (some .int) 5 120 0 0 (modW g a o) [.ref (a 0), .int p0] (pI (modW g a) post) := by
  refine Fn.of (by decide) (Nat.le_of_ble_eq_true rfl) (fun x hC hZ => ?_)
  rw [wp_X5_possiblePairs] at h
  show G x g 2 0 0 (modW g a o) 0 [(0, .ref (a 0)), (1, .int p0)] []
  refine g_aload_n hC dX5_possiblePairs_0 1 rfl rfl 0 rfl ?_
  refine g_iload_n hC dX5_possiblePairs_1 2 rfl rfl 1 rfl ?_
  refine g_ownI hC (ct_X5_possible l g a o p0 _ h) gY_X5_possible dX5_possiblePairs_2 5 rfl ml_X5_250 [] rfl rfl rfl 0 9 rfl rfl ⟨Nat.le_of_ble_eq_true rfl, Nat.le_of_ble_eq_true rfl⟩ (Nat.le_of_ble_eq_true rfl) ⟨Nat.le_refl _, Nat.le_refl _⟩ (fun v2 o1 h => ?_)
  exact g_iret hC hZ dX5_possiblePairs_5 ⟨_, _, rfl, rfl, h⟩
def wp_X5_possiblePairsByColours (post : Int32 → Off → Prop) (o : Off) (p0 : Int32) : Prop := wp_X5_possible (fun v2 o1 => post v2 o1) o p0
set_option maxRecDepth 100000 in
set_option maxHeartbeats 4000000 in
theorem ct_X5_possiblePairsByColours (l : Launch) (g : gE) (a : Nat → Nat) (o : Off) (p0 : Int32) (post : Int32 → Off → Prop) (h : wp_X5_possiblePairsByColours post o p0) : Fn l g yX5_possiblePairsByColours cX5_possiblePairsByColours 2 (some .int) 5 120 0 0 (modW g a o) [.ref (a 0), .int p0] (pI (modW g a) post) := by
  refine Fn.of (by decide) (Nat.le_of_ble_eq_true rfl) (fun x hC hZ => ?_)
  rw [wp_X5_possiblePairsByColours] at h
  show G x g 2 0 0 (modW g a o) 0 [(0, .ref (a 0)), (1, .int p0)] []
  refine g_aload_n hC dX5_possiblePairsByColours_0 1 rfl rfl 0 rfl ?_
  refine g_iload_n hC dX5_possiblePairsByColours_1 2 rfl rfl 1 rfl ?_
  refine g_ownI hC (ct_X5_possible l g a o p0 _ h) gY_X5_possible dX5_possiblePairsByColours_2 5 rfl ml_X5_250 [] rfl rfl rfl 0 9 rfl rfl ⟨Nat.le_of_ble_eq_true rfl, Nat.le_of_ble_eq_true rfl⟩ (Nat.le_of_ble_eq_true rfl) ⟨Nat.le_refl _, Nat.le_refl _⟩ (fun v2 o1 h => ?_)
  exact g_iret hC hZ dX5_possiblePairsByColours_5 ⟨_, _, rfl, rfl, h⟩
def wp_X5_limits (post : Int32 → Off → Prop) (o : Off) (p0 : Int32) (p1 : Int32) : Prop := (vp_in ((120 : Int32) + p0) 160 ∧ (∀ v1 : Int32, v1 = (o 1 ((120 : Int32) + p0).toNatClampNeg) → (vp_in ((120 : Int32) + p0) 160 ∧ (∀ o2 : Off, o2 = st o 1 ((120 : Int32) + p0).toNatClampNeg p1 → post v1 o2))))
set_option maxRecDepth 100000 in
set_option maxHeartbeats 4000000 in
theorem ct_X5_limits (l : Launch) (g : gE) (a : Nat → Nat) (o : Off) (p0 : Int32) (p1 : Int32) (post : Int32 → Off → Prop) (h : wp_X5_limits post o p0 p1) : Fn l g yX5_limits cX5_limits 4 (some .int) 0 0 0 0 (modW g a o) [.ref (a 0), .int p0, .int p1] (pI (modW g a) post) := by
  refine Fn.of (by decide) (Nat.le_of_ble_eq_true rfl) (fun x hC hZ => ?_)
  rw [wp_X5_limits] at h
  show G x g 4 0 0 (modW g a o) 0 [(0, .ref (a 0)), (1, .int p0), (2, .int p1)] []
  refine g_aload_n hC dX5_limits_0 1 rfl rfl 0 rfl ?_
  refine g_get hC fl_X5_7 dX5_limits_1 4 rfl 0 rfl rfl ?_
  refine g_bipush hC (120 : Int32) dX5_limits_4 6 rfl bipush_120 ?_
  refine g_iload_n hC dX5_limits_6 7 rfl rfl 1 rfl ?_
  refine g_iadd hC dX5_limits_7 8 rfl ?_
  obtain ⟨hi, h⟩ := h
  refine g_iald hC dX5_limits_8 9 rfl 1 rfl hi ?_
  refine g_topi (fun v1 ev1 => ?_)
  have h := h v1 ev1
  refine g_istore_n (lv2 := [(3, .int v1), (0, .ref (a 0)), (1, .int p0), (2, .int p1)]) hC dX5_limits_9 10 rfl rfl (by decide) rfl ?_
  refine g_aload_n hC dX5_limits_10 11 rfl rfl 1 rfl ?_
  refine g_get hC fl_X5_7 dX5_limits_11 14 rfl 0 rfl rfl ?_
  refine g_bipush hC (120 : Int32) dX5_limits_14 16 rfl bipush_120 ?_
  refine g_iload_n hC dX5_limits_16 17 rfl rfl 2 rfl ?_
  refine g_iadd hC dX5_limits_17 18 rfl ?_
  refine g_iload_n hC dX5_limits_18 19 rfl rfl 3 rfl ?_
  obtain ⟨hi, h⟩ := h
  obtain ⟨o2, eo2⟩ : ∃ y : Off, y = st o 1 ((120 : Int32) + p0).toNatClampNeg p1 := ⟨_, rfl⟩
  have h := h o2 eo2
  refine g_iast hC dX5_limits_19 20 rfl 1 rfl hi (modW_s1 eo2) ?_
  refine g_iload_n hC dX5_limits_20 21 rfl rfl 0 rfl ?_
  exact g_iret hC hZ dX5_limits_21 ⟨_, _, rfl, rfl, h⟩
def wp_X5_setQuota (post : Int32 → Off → Prop) (o : Off) (p0 : Int32) (p1 : Int32) : Prop := wp_X5_begin (fun o1 => wp_X5_isDrawer (fun v2 => ((¬ v2 = 0 → wp_X5_in (fun v3 => ((v3 = 0 → wp_X5_fail (fun v5 o4 => post v5 o4) o1 (2 : Int32)) ∧ (¬ v3 = 0 → wp_X5_limits (fun v7 o6 => wp_X5_commit (fun v9 o8 => post v9 o8) o6 v7) o1 p0 p1))) p1 (0 : Int32) (9 : Int32)) ∧ (v2 = 0 → wp_X5_fail (fun v11 o10 => post v11 o10) o1 (1 : Int32)))) p0) o 
set_option maxRecDepth 100000 in
set_option maxHeartbeats 4000000 in
theorem ct_X5_setQuota (l : Launch) (g : gE) (a : Nat → Nat) (o : Off) (p0 : Int32) (p1 : Int32) (post : Int32 → Off → Prop) (h : wp_X5_setQuota post o p0 p1) : Fn l g yX5_setQuota cX5_setQuota 3 (some .int) 2 46 0 0 (modW g a o) [.ref (a 0), .int p0, .int p1] (pI (modW g a) post) := by
  refine Fn.of (by decide) (Nat.le_of_ble_eq_true rfl) (fun x hC hZ => ?_)
  rw [wp_X5_setQuota] at h
  show G x g 3 0 0 (modW g a o) 0 [(0, .ref (a 0)), (1, .int p0), (2, .int p1)] []
  refine g_aload_n hC dX5_setQuota_0 1 rfl rfl 0 rfl ?_
  refine g_ownV hC (ct_X5_begin l g a o  _ h) gY_X5_begin dX5_setQuota_1 4 rfl ml_X5_129 [] rfl rfl rfl 0 9 rfl rfl ⟨Nat.le_of_ble_eq_true rfl, Nat.le_of_ble_eq_true rfl⟩ (Nat.le_of_ble_eq_true rfl) ⟨Nat.le_refl _, Nat.le_refl _⟩ (fun o1 h => ?_)
  refine g_iload_n hC dX5_setQuota_4 5 rfl rfl 1 rfl ?_
  refine g_readS hC (ct_X5_isDrawer l g p0 _ h) gY_X5_isDrawer dX5_setQuota_5 8 rfl ml_X5_168 [] _ rfl [] rfl rfl ⟨Nat.le_of_ble_eq_true rfl, Nat.le_of_ble_eq_true rfl⟩ (Nat.le_of_ble_eq_true rfl) ⟨Nat.le_refl _, Nat.le_refl _⟩ (fun v2 h => ?_)
  refine g_if_ne hC dX5_setQuota_8 17 (by decide) 11 rfl (fun c => ?_) (fun c => ?_)
  · have h := h.1 c
    refine g_iload_n hC dX5_setQuota_17 18 rfl rfl 2 rfl ?_
    refine g_iconst hC (0 : Int32) dX5_setQuota_18 19 rfl iconst_0 ?_
    refine g_bipush hC (9 : Int32) dX5_setQuota_19 21 rfl bipush_9 ?_
    refine g_readS hC (ct_X5_in l g p1 (0 : Int32) (9 : Int32) _ h) gY_X5_in dX5_setQuota_21 24 rfl ml_X5_92 [] _ rfl [] rfl rfl ⟨Nat.le_of_ble_eq_true rfl, Nat.le_of_ble_eq_true rfl⟩ (Nat.le_of_ble_eq_true rfl) ⟨Nat.le_refl _, Nat.le_refl _⟩ (fun v3 h => ?_)
    refine g_if_eq hC dX5_setQuota_24 40 (by decide) 27 rfl (fun c => ?_) (fun c => ?_)
    · have h := h.1 c
      refine g_aload_n hC dX5_setQuota_40 41 rfl rfl 0 rfl ?_
      refine g_iconst hC (2 : Int32) dX5_setQuota_41 42 rfl iconst_2 ?_
      refine g_ownI hC (ct_X5_fail l g a o1 (2 : Int32) _ h) gY_X5_fail dX5_setQuota_42 45 rfl ml_X5_88 [] rfl rfl rfl 0 9 rfl rfl ⟨Nat.le_of_ble_eq_true rfl, Nat.le_of_ble_eq_true rfl⟩ (Nat.le_of_ble_eq_true rfl) ⟨Nat.le_refl _, Nat.le_refl _⟩ (fun v5 o4 h => ?_)
      exact g_iret hC hZ dX5_setQuota_45 ⟨_, _, rfl, rfl, h⟩
    · have h := h.2 c
      refine g_aload_n hC dX5_setQuota_27 28 rfl rfl 0 rfl ?_
      refine g_aload_n hC dX5_setQuota_28 29 rfl rfl 0 rfl ?_
      refine g_iload_n hC dX5_setQuota_29 30 rfl rfl 1 rfl ?_
      refine g_iload_n hC dX5_setQuota_30 31 rfl rfl 2 rfl ?_
      refine g_ownI hC (ct_X5_limits l g a o1 p0 p1 _ h) gY_X5_limits dX5_setQuota_31 34 rfl ml_X5_253 [.ref (a 0)] rfl rfl rfl 0 9 rfl rfl ⟨Nat.le_of_ble_eq_true rfl, Nat.le_of_ble_eq_true rfl⟩ (Nat.le_of_ble_eq_true rfl) ⟨Nat.le_refl _, Nat.le_refl _⟩ (fun v7 o6 h => ?_)
      refine g_ownI hC (ct_X5_commit l g a o6 v7 _ h) gY_X5_commit dX5_setQuota_34 37 rfl ml_X5_145 [] rfl rfl rfl 0 9 rfl rfl ⟨Nat.le_of_ble_eq_true rfl, Nat.le_of_ble_eq_true rfl⟩ (Nat.le_of_ble_eq_true rfl) ⟨Nat.le_refl _, Nat.le_refl _⟩ (fun v9 o8 h => ?_)
      refine g_goto hC dX5_setQuota_37 45 (by decide) ?_
      exact g_iret hC hZ dX5_setQuota_45 ⟨_, _, rfl, rfl, h⟩
  · have h := h.2 c
    refine g_aload_n hC dX5_setQuota_11 12 rfl rfl 0 rfl ?_
    refine g_iconst hC (1 : Int32) dX5_setQuota_12 13 rfl iconst_1 ?_
    refine g_ownI hC (ct_X5_fail l g a o1 (1 : Int32) _ h) gY_X5_fail dX5_setQuota_13 16 rfl ml_X5_88 [] rfl rfl rfl 0 9 rfl rfl ⟨Nat.le_of_ble_eq_true rfl, Nat.le_of_ble_eq_true rfl⟩ (Nat.le_of_ble_eq_true rfl) ⟨Nat.le_refl _, Nat.le_refl _⟩ (fun v11 o10 h => ?_)
    exact g_iret hC hZ dX5_setQuota_16 ⟨_, _, rfl, rfl, h⟩
def wj_X5_bans_14 (post : Int32 → Off → Prop) (o : Off) (x1 : Int32) (x2 : Int32) (x3 : Int32) (s0 : Int32) : Prop := (vp_in ((125 : Int32) + x1) 160 ∧ wp_X5_bitOf (fun v2 => (vp_in ((125 : Int32) + x1) 160 ∧ (∀ o3 : Off, o3 = st o 1 ((125 : Int32) + x1).toNatClampNeg ((o 1 ((125 : Int32) + x1).toNatClampNeg) + ((x3 - s0) * v2)) → ((¬ x3 = s0 → post (1 : Int32) o3) ∧ (x3 = s0 → post (0 : Int32) o3))))) x2)
def wp_X5_bans (post : Int32 → Off → Prop) (o : Off) (p0 : Int32) (p1 : Int32) (p2 : Int32) : Prop := wp_X5_isShut (fun v1 => ((v1 = 0 → wj_X5_bans_14 post o p0 p1 p2 (0 : Int32)) ∧ (¬ v1 = 0 → wj_X5_bans_14 post o p0 p1 p2 (1 : Int32)))) o p0 p1
set_option maxRecDepth 100000 in
set_option maxHeartbeats 4000000 in
theorem jn_X5_bans_14 {x : gX} {l : Launch} {g : gE} {a : Nat → Nat} {o0 : Off} {post : Int32 → Off → Prop} (hC : gC x l cX5_bans 5 RX5 g 2 42 0 0) (hZ : gZ x g (some .int) (modW g a o0) (pI (modW g a) post) 0 0) : ∀ (o : Off) (x1 : Int32) (x2 : Int32) (x3 : Int32) (s0 : Int32) , wj_X5_bans_14 post o x1 x2 x3 s0 → G x g 5 0 0 (modW g a o) 14 [(0, .ref (a 0)), (1, .int x1), (2, .int x2), (3, .int x3)] [.int s0] := by
  intro o x1 x2 x3 s0 h
  rw [wj_X5_bans_14] at h
  refine g_istore (lv2 := [(4, .int s0), (0, .ref (a 0)), (1, .int x1), (2, .int x2), (3, .int x3)]) hC dX5_bans_14 16 rfl (by decide) rfl ?_
  refine g_aload_n hC dX5_bans_16 17 rfl rfl 1 rfl ?_
  refine g_get hC fl_X5_7 dX5_bans_17 20 rfl 0 rfl rfl ?_
  refine g_bipush hC (125 : Int32) dX5_bans_20 22 rfl bipush_125 ?_
  refine g_iload_n hC dX5_bans_22 23 rfl rfl 2 rfl ?_
  refine g_iadd hC dX5_bans_23 24 rfl ?_
  refine g_dup2 hC dX5_bans_24 25 rfl rfl rfl ?_
  obtain ⟨hi, h⟩ := h
  refine g_iald hC dX5_bans_25 26 rfl 1 rfl hi ?_
  refine g_iload_n hC dX5_bans_26 27 rfl rfl 4 rfl ?_
  refine g_iload hC dX5_bans_27 29 rfl 0 rfl ?_
  refine g_isub hC dX5_bans_29 30 rfl ?_
  refine g_iload_n hC dX5_bans_30 31 rfl rfl 3 rfl ?_
  refine g_readS hC (ct_X5_bitOf l g x2 _ h) gY_X5_bitOf dX5_bans_31 34 rfl ml_X5_114 [] _ rfl [.int (x3 - s0), .int (o 1 ((125 : Int32) + x1).toNatClampNeg), .int ((125 : Int32) + x1), .ref (a 1)] rfl rfl ⟨Nat.le_of_ble_eq_true rfl, Nat.le_of_ble_eq_true rfl⟩ (Nat.le_of_ble_eq_true rfl) ⟨Nat.le_refl _, Nat.le_refl _⟩ (fun v2 h => ?_)
  refine g_imul hC dX5_bans_34 35 rfl ?_
  refine g_iadd hC dX5_bans_35 36 rfl ?_
  obtain ⟨hi, h⟩ := h
  obtain ⟨o3, eo3⟩ : ∃ y : Off, y = st o 1 ((125 : Int32) + x1).toNatClampNeg ((o 1 ((125 : Int32) + x1).toNatClampNeg) + ((x3 - s0) * v2)) := ⟨_, rfl⟩
  have h := h o3 eo3
  refine g_iast hC dX5_bans_36 37 rfl 1 rfl hi (modW_s1 eo3) ?_
  refine g_iload_n hC dX5_bans_37 38 rfl rfl 4 rfl ?_
  refine g_iload hC dX5_bans_38 40 rfl 0 rfl ?_
  refine g_icmp_ne hC dX5_bans_40 47 (by decide) 43 rfl (fun c => ?_) (fun c => ?_)
  · have h := h.1 c
    refine g_iconst hC (1 : Int32) dX5_bans_47 48 rfl iconst_1 ?_
    exact g_iret hC hZ dX5_bans_48 ⟨_, _, rfl, rfl, h⟩
  · have h := h.2 c
    refine g_iconst hC (0 : Int32) dX5_bans_43 44 rfl iconst_0 ?_
    refine g_goto hC dX5_bans_44 48 (by decide) ?_
    exact g_iret hC hZ dX5_bans_48 ⟨_, _, rfl, rfl, h⟩
set_option maxRecDepth 100000 in
set_option maxHeartbeats 4000000 in
theorem ct_X5_bans (l : Launch) (g : gE) (a : Nat → Nat) (o : Off) (p0 : Int32) (p1 : Int32) (p2 : Int32) (post : Int32 → Off → Prop) (h : wp_X5_bans post o p0 p1 p2) : Fn l g yX5_bans cX5_bans 5 (some .int) 2 42 0 0 (modW g a o) [.ref (a 0), .int p0, .int p1, .int p2] (pI (modW g a) post) := by
  refine Fn.of (by decide) (Nat.le_of_ble_eq_true rfl) (fun x hC hZ => ?_)
  rw [wp_X5_bans] at h
  show G x g 5 0 0 (modW g a o) 0 [(0, .ref (a 0)), (1, .int p0), (2, .int p1), (3, .int p2)] []
  refine g_aload_n hC dX5_bans_0 1 rfl rfl 0 rfl ?_
  refine g_iload_n hC dX5_bans_1 2 rfl rfl 1 rfl ?_
  refine g_iload_n hC dX5_bans_2 3 rfl rfl 2 rfl ?_
  refine g_readV hC (ct_X5_isShut l g a o p0 p1 _ h) gY_X5_isShut dX5_bans_3 6 rfl ml_X5_198 [] [] (by simp only [List.nil_append, List.append_nil]) [] rfl rfl rfl 0 9 rfl rfl ⟨Nat.le_of_ble_eq_true rfl, Nat.le_of_ble_eq_true rfl⟩ (Nat.le_of_ble_eq_true rfl) ⟨Nat.le_refl _, Nat.le_refl _⟩ (fun v1 h => ?_)
  refine g_if_eq hC dX5_bans_6 13 (by decide) 9 rfl (fun c => ?_) (fun c => ?_)
  · have h := h.1 c
    refine g_iconst hC (0 : Int32) dX5_bans_13 14 rfl iconst_0 ?_
    exact jn_X5_bans_14 hC hZ o p0 p1 p2 (0 : Int32) h
  · have h := h.2 c
    refine g_iconst hC (1 : Int32) dX5_bans_9 10 rfl iconst_1 ?_
    refine g_goto hC dX5_bans_10 14 (by decide) ?_
    exact jn_X5_bans_14 hC hZ o p0 p1 p2 (1 : Int32) h
def wp_X5_banned (post : Int32 → Off → Prop) (o : Off) (p0 : Int32) (p1 : Int32) (p2 : Int32) : Prop := wp_X5_begin (fun o1 => wp_X5_isDrawer (fun v2 => ((¬ v2 = 0 → wp_X5_bitOf (fun v3 => ((v3 ≤ 0 → wp_X5_fail (fun v5 o4 => post v5 o4) o1 (2 : Int32)) ∧ (¬ v3 ≤ 0 → wp_X5_bans (fun v7 o6 => wp_X5_commit (fun v9 o8 => post v9 o8) o6 v7) o1 p0 p1 p2))) p1) ∧ (v2 = 0 → wp_X5_fail (fun v11 o10 => post v11 o10) o1 (1 : Int32)))) p0) o 
set_option maxRecDepth 100000 in
set_option maxHeartbeats 4000000 in
theorem ct_X5_banned (l : Launch) (g : gE) (a : Nat → Nat) (o : Off) (p0 : Int32) (p1 : Int32) (p2 : Int32) (post : Int32 → Off → Prop) (h : wp_X5_banned post o p0 p1 p2) : Fn l g yX5_banned cX5_banned 4 (some .int) 3 66 0 0 (modW g a o) [.ref (a 0), .int p0, .int p1, .int p2] (pI (modW g a) post) := by
  refine Fn.of (by decide) (Nat.le_of_ble_eq_true rfl) (fun x hC hZ => ?_)
  rw [wp_X5_banned] at h
  show G x g 4 0 0 (modW g a o) 0 [(0, .ref (a 0)), (1, .int p0), (2, .int p1), (3, .int p2)] []
  refine g_aload_n hC dX5_banned_0 1 rfl rfl 0 rfl ?_
  refine g_ownV hC (ct_X5_begin l g a o  _ h) gY_X5_begin dX5_banned_1 4 rfl ml_X5_129 [] rfl rfl rfl 0 9 rfl rfl ⟨Nat.le_of_ble_eq_true rfl, Nat.le_of_ble_eq_true rfl⟩ (Nat.le_of_ble_eq_true rfl) ⟨Nat.le_refl _, Nat.le_refl _⟩ (fun o1 h => ?_)
  refine g_iload_n hC dX5_banned_4 5 rfl rfl 1 rfl ?_
  refine g_readS hC (ct_X5_isDrawer l g p0 _ h) gY_X5_isDrawer dX5_banned_5 8 rfl ml_X5_168 [] _ rfl [] rfl rfl ⟨Nat.le_of_ble_eq_true rfl, Nat.le_of_ble_eq_true rfl⟩ (Nat.le_of_ble_eq_true rfl) ⟨Nat.le_refl _, Nat.le_refl _⟩ (fun v2 h => ?_)
  refine g_if_ne hC dX5_banned_8 17 (by decide) 11 rfl (fun c => ?_) (fun c => ?_)
  · have h := h.1 c
    refine g_iload_n hC dX5_banned_17 18 rfl rfl 2 rfl ?_
    refine g_readS hC (ct_X5_bitOf l g p1 _ h) gY_X5_bitOf dX5_banned_18 21 rfl ml_X5_114 [] _ rfl [] rfl rfl ⟨Nat.le_of_ble_eq_true rfl, Nat.le_of_ble_eq_true rfl⟩ (Nat.le_of_ble_eq_true rfl) ⟨Nat.le_refl _, Nat.le_refl _⟩ (fun v3 h => ?_)
    refine g_if_le hC dX5_banned_21 38 (by decide) 24 rfl (fun c => ?_) (fun c => ?_)
    · have h := h.1 c
      refine g_aload_n hC dX5_banned_38 39 rfl rfl 0 rfl ?_
      refine g_iconst hC (2 : Int32) dX5_banned_39 40 rfl iconst_2 ?_
      refine g_ownI hC (ct_X5_fail l g a o1 (2 : Int32) _ h) gY_X5_fail dX5_banned_40 43 rfl ml_X5_88 [] rfl rfl rfl 0 9 rfl rfl ⟨Nat.le_of_ble_eq_true rfl, Nat.le_of_ble_eq_true rfl⟩ (Nat.le_of_ble_eq_true rfl) ⟨Nat.le_refl _, Nat.le_refl _⟩ (fun v5 o4 h => ?_)
      exact g_iret hC hZ dX5_banned_43 ⟨_, _, rfl, rfl, h⟩
    · have h := h.2 c
      refine g_aload_n hC dX5_banned_24 25 rfl rfl 0 rfl ?_
      refine g_aload_n hC dX5_banned_25 26 rfl rfl 0 rfl ?_
      refine g_iload_n hC dX5_banned_26 27 rfl rfl 1 rfl ?_
      refine g_iload_n hC dX5_banned_27 28 rfl rfl 2 rfl ?_
      refine g_iload_n hC dX5_banned_28 29 rfl rfl 3 rfl ?_
      refine g_ownI hC (ct_X5_bans l g a o1 p0 p1 p2 _ h) gY_X5_bans dX5_banned_29 32 rfl ml_X5_256 [.ref (a 0)] rfl rfl rfl 0 9 rfl rfl ⟨Nat.le_of_ble_eq_true rfl, Nat.le_of_ble_eq_true rfl⟩ (Nat.le_of_ble_eq_true rfl) ⟨Nat.le_refl _, Nat.le_refl _⟩ (fun v7 o6 h => ?_)
      refine g_ownI hC (ct_X5_commit l g a o6 v7 _ h) gY_X5_commit dX5_banned_32 35 rfl ml_X5_145 [] rfl rfl rfl 0 9 rfl rfl ⟨Nat.le_of_ble_eq_true rfl, Nat.le_of_ble_eq_true rfl⟩ (Nat.le_of_ble_eq_true rfl) ⟨Nat.le_refl _, Nat.le_refl _⟩ (fun v9 o8 h => ?_)
      refine g_goto hC dX5_banned_35 43 (by decide) ?_
      exact g_iret hC hZ dX5_banned_43 ⟨_, _, rfl, rfl, h⟩
  · have h := h.2 c
    refine g_aload_n hC dX5_banned_11 12 rfl rfl 0 rfl ?_
    refine g_iconst hC (1 : Int32) dX5_banned_12 13 rfl iconst_1 ?_
    refine g_ownI hC (ct_X5_fail l g a o1 (1 : Int32) _ h) gY_X5_fail dX5_banned_13 16 rfl ml_X5_88 [] rfl rfl rfl 0 9 rfl rfl ⟨Nat.le_of_ble_eq_true rfl, Nat.le_of_ble_eq_true rfl⟩ (Nat.le_of_ble_eq_true rfl) ⟨Nat.le_refl _, Nat.le_refl _⟩ (fun v11 o10 h => ?_)
    exact g_iret hC hZ dX5_banned_16 ⟨_, _, rfl, rfl, h⟩
def wp_X5_ban (post : Int32 → Off → Prop) (o : Off) (p0 : Int32) (p1 : Int32) : Prop := wp_X5_banned (fun v2 o1 => ((¬ v2 = (1 : Int32) → post (0 : Int32) o1) ∧ (v2 = (1 : Int32) → post (1 : Int32) o1))) o p0 p1 (1 : Int32)
set_option maxRecDepth 100000 in
set_option maxHeartbeats 4000000 in
theorem ct_X5_ban (l : Launch) (g : gE) (a : Nat → Nat) (o : Off) (p0 : Int32) (p1 : Int32) (post : Int32 → Off → Prop) (h : wp_X5_ban post o p0 p1) : Fn l g yX5_ban cX5_ban 3 (some .boolean) 4 89 0 0 (modW g a o) [.ref (a 0), .int p0, .int p1] (pI (modW g a) post) := by
  refine Fn.of (by decide) (Nat.le_of_ble_eq_true rfl) (fun x hC hZ => ?_)
  rw [wp_X5_ban] at h
  show G x g 3 0 0 (modW g a o) 0 [(0, .ref (a 0)), (1, .int p0), (2, .int p1)] []
  refine g_aload_n hC dX5_ban_0 1 rfl rfl 0 rfl ?_
  refine g_iload_n hC dX5_ban_1 2 rfl rfl 1 rfl ?_
  refine g_iload_n hC dX5_ban_2 3 rfl rfl 2 rfl ?_
  refine g_iconst hC (1 : Int32) dX5_ban_3 4 rfl iconst_1 ?_
  refine g_ownI hC (ct_X5_banned l g a o p0 p1 (1 : Int32) _ h) gY_X5_banned dX5_ban_4 7 rfl ml_X5_259 [] rfl rfl rfl 0 9 rfl rfl ⟨Nat.le_of_ble_eq_true rfl, Nat.le_of_ble_eq_true rfl⟩ (Nat.le_of_ble_eq_true rfl) ⟨Nat.le_refl _, Nat.le_refl _⟩ (fun v2 o1 h => ?_)
  refine g_iconst hC (1 : Int32) dX5_ban_7 8 rfl iconst_1 ?_
  refine g_icmp_ne hC dX5_ban_8 15 (by decide) 11 rfl (fun c => ?_) (fun c => ?_)
  · have h := h.1 c
    refine g_iconst hC (0 : Int32) dX5_ban_15 16 rfl iconst_0 ?_
    exact g_zret hC hZ rfl dX5_ban_16 ⟨_, _, rfl, rfl, h⟩
  · have h := h.2 c
    refine g_iconst hC (1 : Int32) dX5_ban_11 12 rfl iconst_1 ?_
    refine g_goto hC dX5_ban_12 16 (by decide) ?_
    exact g_zret hC hZ rfl dX5_ban_16 ⟨_, _, rfl, rfl, h⟩
def wp_X5_unban (post : Int32 → Off → Prop) (o : Off) (p0 : Int32) (p1 : Int32) : Prop := wp_X5_banned (fun v2 o1 => ((¬ v2 = (1 : Int32) → post (0 : Int32) o1) ∧ (v2 = (1 : Int32) → post (1 : Int32) o1))) o p0 p1 (0 : Int32)
set_option maxRecDepth 100000 in
set_option maxHeartbeats 4000000 in
theorem ct_X5_unban (l : Launch) (g : gE) (a : Nat → Nat) (o : Off) (p0 : Int32) (p1 : Int32) (post : Int32 → Off → Prop) (h : wp_X5_unban post o p0 p1) : Fn l g yX5_unban cX5_unban 3 (some .boolean) 4 89 0 0 (modW g a o) [.ref (a 0), .int p0, .int p1] (pI (modW g a) post) := by
  refine Fn.of (by decide) (Nat.le_of_ble_eq_true rfl) (fun x hC hZ => ?_)
  rw [wp_X5_unban] at h
  show G x g 3 0 0 (modW g a o) 0 [(0, .ref (a 0)), (1, .int p0), (2, .int p1)] []
  refine g_aload_n hC dX5_unban_0 1 rfl rfl 0 rfl ?_
  refine g_iload_n hC dX5_unban_1 2 rfl rfl 1 rfl ?_
  refine g_iload_n hC dX5_unban_2 3 rfl rfl 2 rfl ?_
  refine g_iconst hC (0 : Int32) dX5_unban_3 4 rfl iconst_0 ?_
  refine g_ownI hC (ct_X5_banned l g a o p0 p1 (0 : Int32) _ h) gY_X5_banned dX5_unban_4 7 rfl ml_X5_259 [] rfl rfl rfl 0 9 rfl rfl ⟨Nat.le_of_ble_eq_true rfl, Nat.le_of_ble_eq_true rfl⟩ (Nat.le_of_ble_eq_true rfl) ⟨Nat.le_refl _, Nat.le_refl _⟩ (fun v2 o1 h => ?_)
  refine g_iconst hC (1 : Int32) dX5_unban_7 8 rfl iconst_1 ?_
  refine g_icmp_ne hC dX5_unban_8 15 (by decide) 11 rfl (fun c => ?_) (fun c => ?_)
  · have h := h.1 c
    refine g_iconst hC (0 : Int32) dX5_unban_15 16 rfl iconst_0 ?_
    exact g_zret hC hZ rfl dX5_unban_16 ⟨_, _, rfl, rfl, h⟩
  · have h := h.2 c
    refine g_iconst hC (1 : Int32) dX5_unban_11 12 rfl iconst_1 ?_
    refine g_goto hC dX5_unban_12 16 (by decide) ?_
    exact g_zret hC hZ rfl dX5_unban_16 ⟨_, _, rfl, rfl, h⟩
def wl_X5_treaties_4 (post : Int32 → Prop) (o : Off) : Nat → Int32 → Int32 → Prop
  | 0, _, _ => False
  | n + 1, x1, x2 => (((25 : Int32) ≤ x2 → post x1) ∧ (¬ (25 : Int32) ≤ x2 → (vp_in ((130 : Int32) + x2) 160 ∧ (((o 1 ((130 : Int32) + x2).toNatClampNeg) ≤ 0 → (∀ v1 : Int32, v1 = (x1 + (0 : Int32)) → (∀ v2 : Int32, v2 = x2 + (1 : Int32) → wl_X5_treaties_4 post o n v1 v2))) ∧ (¬ (o 1 ((130 : Int32) + x2).toNatClampNeg) ≤ 0 → (∀ v3 : Int32, v3 = (x1 + (1 : Int32)) → (∀ v4 : Int32, v4 = x2 + (1 : Int32) → wl_X5_treaties_4 post o n v3 v4)))))))
def wp_X5_treaties (post : Int32 → Prop) (o : Off) : Prop := (∃ m : Nat, wl_X5_treaties_4 post o m (0 : Int32) (0 : Int32))
set_option maxRecDepth 100000 in
set_option maxHeartbeats 4000000 in
theorem lp_X5_treaties_4 {x : gX} {l : Launch} {g : gE} {a : Nat → Nat} {o : Off} {post : Int32 → Prop} (hC : gC x l cX5_treaties 3 RX5 g 0 0 0 0) (hZ : gZ x g (some .int) (modW g a o) (pR (modW g a o) post) 0 0) : ∀ (n : Nat) (x1 : Int32) (x2 : Int32) , wl_X5_treaties_4 post o n x1 x2 → G x g 3 0 0 (modW g a o) 4 [(0, .ref (a 0)), (1, .int x1), (2, .int x2)] [] := by
  intro n
  induction n with
  | zero =>
    intro x1 x2 h
    exact h.elim
  | succ n ih =>
    intro x1 x2 h
    rw [wl_X5_treaties_4] at h
    refine g_iload_n hC dX5_treaties_4 5 rfl rfl 2 rfl ?_
    refine g_bipush hC (25 : Int32) dX5_treaties_5 7 rfl bipush_25 ?_
    refine g_icmp_ge hC dX5_treaties_7 37 (by decide) 10 rfl (fun c => ?_) (fun c => ?_)
    · have h := h.1 c
      refine g_iload_n hC dX5_treaties_37 38 rfl rfl 1 rfl ?_
      exact g_iret hC hZ dX5_treaties_38 ⟨_, rfl, rfl, h⟩
    · have h := h.2 c
      refine g_iload_n hC dX5_treaties_10 11 rfl rfl 1 rfl ?_
      refine g_aload_n hC dX5_treaties_11 12 rfl rfl 0 rfl ?_
      refine g_get hC fl_X5_7 dX5_treaties_12 15 rfl 0 rfl rfl ?_
      refine g_sipush hC (130 : Int32) dX5_treaties_15 18 rfl sipush_130 ?_
      refine g_iload_n hC dX5_treaties_18 19 rfl rfl 2 rfl ?_
      refine g_iadd hC dX5_treaties_19 20 rfl ?_
      obtain ⟨hi, h⟩ := h
      refine g_iald hC dX5_treaties_20 21 rfl 1 rfl hi ?_
      refine g_if_le hC dX5_treaties_21 28 (by decide) 24 rfl (fun c => ?_) (fun c => ?_)
      · have h := h.1 c
        refine g_iconst hC (0 : Int32) dX5_treaties_28 29 rfl iconst_0 ?_
        refine g_iadd hC dX5_treaties_29 30 rfl ?_
        refine g_topi (fun v1 ev1 => ?_)
        have h := h v1 ev1
        refine g_istore_n (lv2 := [(1, .int v1), (0, .ref (a 0)), (2, .int x2)]) hC dX5_treaties_30 31 rfl rfl (by decide) rfl ?_
        obtain ⟨v2, ev2⟩ : ∃ y : Int32, y = x2 + (1 : Int32) := ⟨_, rfl⟩
        have h := h v2 ev2
        refine g_iinc (v2 := v2) (lv2 := [(2, .int v2), (1, .int v1), (0, .ref (a 0))]) hC dX5_treaties_31 34 rfl 2 rfl (by rw [iconst_1, ev2]) (by decide) rfl ?_
        refine g_goto hC dX5_treaties_34 4 (by decide) ?_
        refine g_lv (lv2 := [(0, .ref (a 0)), (1, .int v1), (2, .int v2)]) [2, 1, 0] rfl ?_
        exact ih v1 v2 h
      · have h := h.2 c
        refine g_iconst hC (1 : Int32) dX5_treaties_24 25 rfl iconst_1 ?_
        refine g_goto hC dX5_treaties_25 29 (by decide) ?_
        refine g_iadd hC dX5_treaties_29 30 rfl ?_
        refine g_topi (fun v3 ev3 => ?_)
        have h := h v3 ev3
        refine g_istore_n (lv2 := [(1, .int v3), (0, .ref (a 0)), (2, .int x2)]) hC dX5_treaties_30 31 rfl rfl (by decide) rfl ?_
        obtain ⟨v4, ev4⟩ : ∃ y : Int32, y = x2 + (1 : Int32) := ⟨_, rfl⟩
        have h := h v4 ev4
        refine g_iinc (v2 := v4) (lv2 := [(2, .int v4), (1, .int v3), (0, .ref (a 0))]) hC dX5_treaties_31 34 rfl 2 rfl (by rw [iconst_1, ev4]) (by decide) rfl ?_
        refine g_goto hC dX5_treaties_34 4 (by decide) ?_
        refine g_lv (lv2 := [(0, .ref (a 0)), (1, .int v3), (2, .int v4)]) [2, 1, 0] rfl ?_
        exact ih v3 v4 h
set_option maxRecDepth 100000 in
set_option maxHeartbeats 4000000 in
theorem ct_X5_treaties (l : Launch) (g : gE) (a : Nat → Nat) (o : Off) (post : Int32 → Prop) (h : wp_X5_treaties post o ) : Fn l g yX5_treaties cX5_treaties 3 (some .int) 0 0 0 0 (modW g a o) [.ref (a 0)] (pR (modW g a o) post) := by
  refine Fn.of (by decide) (Nat.le_of_ble_eq_true rfl) (fun x hC hZ => ?_)
  rw [wp_X5_treaties] at h
  show G x g 3 0 0 (modW g a o) 0 [(0, .ref (a 0))] []
  refine g_iconst hC (0 : Int32) dX5_treaties_0 1 rfl iconst_0 ?_
  refine g_istore_n (lv2 := [(1, .int (0 : Int32)), (0, .ref (a 0))]) hC dX5_treaties_1 2 rfl rfl (by decide) rfl ?_
  refine g_iconst hC (0 : Int32) dX5_treaties_2 3 rfl iconst_0 ?_
  refine g_istore_n (lv2 := [(2, .int (0 : Int32)), (1, .int (0 : Int32)), (0, .ref (a 0))]) hC dX5_treaties_3 4 rfl rfl (by decide) rfl ?_
  refine g_lv (lv2 := [(0, .ref (a 0)), (1, .int (0 : Int32)), (2, .int (0 : Int32))]) [2, 1, 0] rfl ?_
  obtain ⟨m, h⟩ := h
  exact lp_X5_treaties_4 hC hZ m (0 : Int32) (0 : Int32) h
def wp_X5_isClause (post : Int32 → Prop) (p0 : Int32) : Prop := ((p0 = (111 : Int32) → post (1 : Int32)) ∧ (¬ p0 = (111 : Int32) → ((p0 = (115 : Int32) → post (1 : Int32)) ∧ (¬ p0 = (115 : Int32) → ((¬ p0 = (120 : Int32) → post (0 : Int32)) ∧ (p0 = (120 : Int32) → post (1 : Int32)))))))
set_option maxRecDepth 100000 in
set_option maxHeartbeats 4000000 in
theorem ct_X5_isClause (l : Launch) (g : gE) (p0 : Int32) (post : Int32 → Prop) (h : wp_X5_isClause post p0) : Fn l g yX5_isClause cX5_isClause 1 (some .boolean) 0 0 0 0 [] [.int p0] (pR [] post) := by
  refine Fn.of (by decide) (Nat.le_of_ble_eq_true rfl) (fun x hC hZ => ?_)
  rw [wp_X5_isClause] at h
  show G x g 1 0 0 [] 0 [(0, .int p0)] []
  refine g_iload_n hC dX5_isClause_0 1 rfl rfl 0 rfl ?_
  refine g_bipush hC (111 : Int32) dX5_isClause_1 3 rfl bipush_111 ?_
  refine g_icmp_eq hC dX5_isClause_3 18 (by decide) 6 rfl (fun c => ?_) (fun c => ?_)
  · have h := h.1 c
    refine g_iconst hC (1 : Int32) dX5_isClause_18 19 rfl iconst_1 ?_
    refine g_goto hC dX5_isClause_19 23 (by decide) ?_
    exact g_zret hC hZ rfl dX5_isClause_23 ⟨_, rfl, rfl, h⟩
  · have h := h.2 c
    refine g_iload_n hC dX5_isClause_6 7 rfl rfl 0 rfl ?_
    refine g_bipush hC (115 : Int32) dX5_isClause_7 9 rfl bipush_115 ?_
    refine g_icmp_eq hC dX5_isClause_9 18 (by decide) 12 rfl (fun c => ?_) (fun c => ?_)
    · have h := h.1 c
      refine g_iconst hC (1 : Int32) dX5_isClause_18 19 rfl iconst_1 ?_
      refine g_goto hC dX5_isClause_19 23 (by decide) ?_
      exact g_zret hC hZ rfl dX5_isClause_23 ⟨_, rfl, rfl, h⟩
    · have h := h.2 c
      refine g_iload_n hC dX5_isClause_12 13 rfl rfl 0 rfl ?_
      refine g_bipush hC (120 : Int32) dX5_isClause_13 15 rfl bipush_120 ?_
      refine g_icmp_ne hC dX5_isClause_15 22 (by decide) 18 rfl (fun c => ?_) (fun c => ?_)
      · have h := h.1 c
        refine g_iconst hC (0 : Int32) dX5_isClause_22 23 rfl iconst_0 ?_
        exact g_zret hC hZ rfl dX5_isClause_23 ⟨_, rfl, rfl, h⟩
      · have h := h.2 c
        refine g_iconst hC (1 : Int32) dX5_isClause_18 19 rfl iconst_1 ?_
        refine g_goto hC dX5_isClause_19 23 (by decide) ?_
        exact g_zret hC hZ rfl dX5_isClause_23 ⟨_, rfl, rfl, h⟩
def wj_X5_cannotSign_19 (post : Int32 → Off → Prop) (o : Off) (s0 : Int32) : Prop := wp_X5_treaties (fun v2 => wp_X5_notes (fun v4 o3 => (isB v4 ∧ post v4 o3)) o s0 (16 : Int32) v2) o 
def wp_X5_cannotSign (post : Int32 → Off → Prop) (o : Off) (p0 : Int32) (p1 : Int32) : Prop := wp_X5_treatyOf (fun v1 => (vp_in v1 160 ∧ (((o 1 v1.toNatClampNeg) ≤ 0 → wj_X5_cannotSign_19 post o (0 : Int32)) ∧ (¬ (o 1 v1.toNatClampNeg) ≤ 0 → wj_X5_cannotSign_19 post o (1 : Int32))))) p0 p1
set_option maxRecDepth 100000 in
set_option maxHeartbeats 4000000 in
theorem jn_X5_cannotSign_19 {x : gX} {l : Launch} {g : gE} {a : Nat → Nat} {o0 : Off} {post : Int32 → Off → Prop} (hC : gC x l cX5_cannotSign 3 RX5 g 1 23 0 0) (hZ : gZ x g (some .boolean) (modW g a o0) (pI (modW g a) post) 0 0) : ∀ (o : Off) (s0 : Int32) , wj_X5_cannotSign_19 post o s0 → G x g 3 0 0 (modW g a o) 19 [(0, .ref (a 0))] [.int s0, .ref (a 0)] := by
  intro o s0 h
  rw [wj_X5_cannotSign_19] at h
  refine g_bipush hC (16 : Int32) dX5_cannotSign_19 21 rfl bipush_16 ?_
  refine g_aload_n hC dX5_cannotSign_21 22 rfl rfl 0 rfl ?_
  refine g_readV hC (ct_X5_treaties l g a o  _ h) gY_X5_treaties dX5_cannotSign_22 25 rfl ml_X5_262 [] [] (by simp only [List.nil_append, List.append_nil]) [.int (16 : Int32), .int s0, .ref (a 0)] rfl rfl rfl 0 9 rfl rfl ⟨Nat.le_of_ble_eq_true rfl, Nat.le_of_ble_eq_true rfl⟩ (Nat.le_of_ble_eq_true rfl) ⟨Nat.le_refl _, Nat.le_refl _⟩ (fun v2 h => ?_)
  refine g_ownI hC (ct_X5_notes l g a o s0 (16 : Int32) v2 _ h) gY_X5_notes dX5_cannotSign_25 28 rfl ml_X5_121 [] rfl rfl rfl 0 9 rfl rfl ⟨Nat.le_of_ble_eq_true rfl, Nat.le_of_ble_eq_true rfl⟩ (Nat.le_of_ble_eq_true rfl) ⟨Nat.le_refl _, Nat.le_refl _⟩ (fun v4 o3 h => ?_)
  obtain ⟨hb, h⟩ := h
  exact g_zret hC hZ (isB_n hb) dX5_cannotSign_28 ⟨_, _, rfl, rfl, h⟩
set_option maxRecDepth 100000 in
set_option maxHeartbeats 4000000 in
theorem ct_X5_cannotSign (l : Launch) (g : gE) (a : Nat → Nat) (o : Off) (p0 : Int32) (p1 : Int32) (post : Int32 → Off → Prop) (h : wp_X5_cannotSign post o p0 p1) : Fn l g yX5_cannotSign cX5_cannotSign 3 (some .boolean) 1 23 0 0 (modW g a o) [.ref (a 0), .int p0, .int p1] (pI (modW g a) post) := by
  refine Fn.of (by decide) (Nat.le_of_ble_eq_true rfl) (fun x hC hZ => ?_)
  rw [wp_X5_cannotSign] at h
  show G x g 3 0 0 (modW g a o) 0 [(0, .ref (a 0)), (1, .int p0), (2, .int p1)] []
  refine g_aload_n hC dX5_cannotSign_0 1 rfl rfl 0 rfl ?_
  refine g_aload_n hC dX5_cannotSign_1 2 rfl rfl 0 rfl ?_
  refine g_get hC fl_X5_7 dX5_cannotSign_2 5 rfl 0 rfl rfl ?_
  refine g_iload_n hC dX5_cannotSign_5 6 rfl rfl 1 rfl ?_
  refine g_iload_n hC dX5_cannotSign_6 7 rfl rfl 2 rfl ?_
  refine g_readS hC (ct_X5_treatyOf l g p0 p1 _ h) gY_X5_treatyOf dX5_cannotSign_7 10 rfl ml_X5_222 [] _ rfl [.ref (a 1), .ref (a 0)] rfl rfl ⟨Nat.le_of_ble_eq_true rfl, Nat.le_of_ble_eq_true rfl⟩ (Nat.le_of_ble_eq_true rfl) ⟨Nat.le_refl _, Nat.le_refl _⟩ (fun v1 h => ?_)
  obtain ⟨hi, h⟩ := h
  refine g_iald hC dX5_cannotSign_10 11 rfl 1 rfl hi ?_
  refine g_if_le hC dX5_cannotSign_11 18 (by decide) 14 rfl (fun c => ?_) (fun c => ?_)
  · have h := h.1 c
    refine g_iconst hC (0 : Int32) dX5_cannotSign_18 19 rfl iconst_0 ?_
    refine g_lv (lv2 := [(0, .ref (a 0))]) [0] rfl ?_
    exact jn_X5_cannotSign_19 hC hZ o (0 : Int32) h
  · have h := h.2 c
    refine g_iconst hC (1 : Int32) dX5_cannotSign_14 15 rfl iconst_1 ?_
    refine g_goto hC dX5_cannotSign_15 19 (by decide) ?_
    refine g_lv (lv2 := [(0, .ref (a 0))]) [0] rfl ?_
    exact jn_X5_cannotSign_19 hC hZ o (1 : Int32) h
def wp_X5_signs (post : Int32 → Off → Prop) (o : Off) (p0 : Int32) (p1 : Int32) (p2 : Int32) : Prop := wp_X5_treatyOf (fun v1 => (vp_in v1 160 ∧ (∀ o2 : Off, o2 = st o 1 v1.toNatClampNeg p2 → wp_X5_treaties (fun v3 => post v3 o2) o2 ))) p0 p1
set_option maxRecDepth 100000 in
set_option maxHeartbeats 4000000 in
theorem ct_X5_signs (l : Launch) (g : gE) (a : Nat → Nat) (o : Off) (p0 : Int32) (p1 : Int32) (p2 : Int32) (post : Int32 → Off → Prop) (h : wp_X5_signs post o p0 p1 p2) : Fn l g yX5_signs cX5_signs 4 (some .int) 1 22 0 0 (modW g a o) [.ref (a 0), .int p0, .int p1, .int p2] (pI (modW g a) post) := by
  refine Fn.of (by decide) (Nat.le_of_ble_eq_true rfl) (fun x hC hZ => ?_)
  rw [wp_X5_signs] at h
  show G x g 4 0 0 (modW g a o) 0 [(0, .ref (a 0)), (1, .int p0), (2, .int p1), (3, .int p2)] []
  refine g_aload_n hC dX5_signs_0 1 rfl rfl 0 rfl ?_
  refine g_get hC fl_X5_7 dX5_signs_1 4 rfl 0 rfl rfl ?_
  refine g_iload_n hC dX5_signs_4 5 rfl rfl 1 rfl ?_
  refine g_iload_n hC dX5_signs_5 6 rfl rfl 2 rfl ?_
  refine g_readS hC (ct_X5_treatyOf l g p0 p1 _ h) gY_X5_treatyOf dX5_signs_6 9 rfl ml_X5_222 [] _ rfl [.ref (a 1)] rfl rfl ⟨Nat.le_of_ble_eq_true rfl, Nat.le_of_ble_eq_true rfl⟩ (Nat.le_of_ble_eq_true rfl) ⟨Nat.le_refl _, Nat.le_refl _⟩ (fun v1 h => ?_)
  refine g_iload_n hC dX5_signs_9 10 rfl rfl 3 rfl ?_
  obtain ⟨hi, h⟩ := h
  obtain ⟨o2, eo2⟩ : ∃ y : Off, y = st o 1 v1.toNatClampNeg p2 := ⟨_, rfl⟩
  have h := h o2 eo2
  refine g_iast hC dX5_signs_10 11 rfl 1 rfl hi (modW_s1 eo2) ?_
  refine g_aload_n hC dX5_signs_11 12 rfl rfl 0 rfl ?_
  refine g_readV hC (ct_X5_treaties l g a o2  _ h) gY_X5_treaties dX5_signs_12 15 rfl ml_X5_262 [] [] (by simp only [List.nil_append, List.append_nil]) [] rfl rfl rfl 0 9 rfl rfl ⟨Nat.le_of_ble_eq_true rfl, Nat.le_of_ble_eq_true rfl⟩ (Nat.le_of_ble_eq_true rfl) ⟨Nat.le_refl _, Nat.le_refl _⟩ (fun v3 h => ?_)
  exact g_iret hC hZ dX5_signs_15 ⟨_, _, rfl, rfl, h⟩
def wj_X5_signTreaty_18 (post : Int32 → Off → Prop) (o : Off) : Prop := wp_X5_fail (fun v4 o3 => post v4 o3) o (1 : Int32)
def wj_X5_signTreaty_36 (post : Int32 → Off → Prop) (o : Off) : Prop := wp_X5_fail (fun v7 o6 => post v7 o6) o (2 : Int32)
def wp_X5_signTreaty (post : Int32 → Off → Prop) (o : Off) (p0 : Int32) (p1 : Int32) (p2 : Int32) : Prop := wp_X5_begin (fun o1 => wp_X5_isDrawer (fun v2 => ((v2 = 0 → wj_X5_signTreaty_18 post o1) ∧ (¬ v2 = 0 → wp_X5_isDrawer (fun v5 => ((¬ v5 = 0 → ((p0 = p1 → wj_X5_signTreaty_36 post o1) ∧ (¬ p0 = p1 → wp_X5_isClause (fun v8 => ((¬ v8 = 0 → wp_X5_cannotSign (fun v10 o9 => ((v10 = 0 → wp_X5_signs (fun v12 o11 => wp_X5_commit (fun v14 o13 => post v14 o13) o11 v12) o9 p0 p1 p2) ∧ (¬ v10 = 0 → wp_X5_reject (fun v16 o15 => post v16 o15) o9 (3 : Int32)))) o1 p0 p1) ∧ (v8 = 0 → wj_X5_signTreaty_36 post o1))) p2))) ∧ (v5 = 0 → wj_X5_signTreaty_18 post o1))) p1))) p0) o 
set_option maxRecDepth 100000 in
set_option maxHeartbeats 4000000 in
theorem jn_X5_signTreaty_18 {x : gX} {l : Launch} {g : gE} {a : Nat → Nat} {o0 : Off} {post : Int32 → Off → Prop} (hC : gC x l cX5_signTreaty 4 RX5 g 2 46 0 0) (hZ : gZ x g (some .int) (modW g a o0) (pI (modW g a) post) 0 0) : ∀ (o : Off) , wj_X5_signTreaty_18 post o → G x g 4 0 0 (modW g a o) 18 [(0, .ref (a 0))] [] := by
  intro o h
  rw [wj_X5_signTreaty_18] at h
  refine g_aload_n hC dX5_signTreaty_18 19 rfl rfl 0 rfl ?_
  refine g_iconst hC (1 : Int32) dX5_signTreaty_19 20 rfl iconst_1 ?_
  refine g_ownI hC (ct_X5_fail l g a o (1 : Int32) _ h) gY_X5_fail dX5_signTreaty_20 23 rfl ml_X5_88 [] rfl rfl rfl 0 9 rfl rfl ⟨Nat.le_of_ble_eq_true rfl, Nat.le_of_ble_eq_true rfl⟩ (Nat.le_of_ble_eq_true rfl) ⟨Nat.le_refl _, Nat.le_refl _⟩ (fun v4 o3 h => ?_)
  exact g_iret hC hZ dX5_signTreaty_23 ⟨_, _, rfl, rfl, h⟩
set_option maxRecDepth 100000 in
set_option maxHeartbeats 4000000 in
theorem jn_X5_signTreaty_36 {x : gX} {l : Launch} {g : gE} {a : Nat → Nat} {o0 : Off} {post : Int32 → Off → Prop} (hC : gC x l cX5_signTreaty 4 RX5 g 2 46 0 0) (hZ : gZ x g (some .int) (modW g a o0) (pI (modW g a) post) 0 0) : ∀ (o : Off) , wj_X5_signTreaty_36 post o → G x g 4 0 0 (modW g a o) 36 [(0, .ref (a 0))] [] := by
  intro o h
  rw [wj_X5_signTreaty_36] at h
  refine g_aload_n hC dX5_signTreaty_36 37 rfl rfl 0 rfl ?_
  refine g_iconst hC (2 : Int32) dX5_signTreaty_37 38 rfl iconst_2 ?_
  refine g_ownI hC (ct_X5_fail l g a o (2 : Int32) _ h) gY_X5_fail dX5_signTreaty_38 41 rfl ml_X5_88 [] rfl rfl rfl 0 9 rfl rfl ⟨Nat.le_of_ble_eq_true rfl, Nat.le_of_ble_eq_true rfl⟩ (Nat.le_of_ble_eq_true rfl) ⟨Nat.le_refl _, Nat.le_refl _⟩ (fun v7 o6 h => ?_)
  exact g_iret hC hZ dX5_signTreaty_41 ⟨_, _, rfl, rfl, h⟩
set_option maxRecDepth 100000 in
set_option maxHeartbeats 4000000 in
theorem ct_X5_signTreaty (l : Launch) (g : gE) (a : Nat → Nat) (o : Off) (p0 : Int32) (p1 : Int32) (p2 : Int32) (post : Int32 → Off → Prop) (h : wp_X5_signTreaty post o p0 p1 p2) : Fn l g yX5_signTreaty cX5_signTreaty 4 (some .int) 2 46 0 0 (modW g a o) [.ref (a 0), .int p0, .int p1, .int p2] (pI (modW g a) post) := by
  refine Fn.of (by decide) (Nat.le_of_ble_eq_true rfl) (fun x hC hZ => ?_)
  rw [wp_X5_signTreaty] at h
  show G x g 4 0 0 (modW g a o) 0 [(0, .ref (a 0)), (1, .int p0), (2, .int p1), (3, .int p2)] []
  refine g_aload_n hC dX5_signTreaty_0 1 rfl rfl 0 rfl ?_
  refine g_ownV hC (ct_X5_begin l g a o  _ h) gY_X5_begin dX5_signTreaty_1 4 rfl ml_X5_129 [] rfl rfl rfl 0 9 rfl rfl ⟨Nat.le_of_ble_eq_true rfl, Nat.le_of_ble_eq_true rfl⟩ (Nat.le_of_ble_eq_true rfl) ⟨Nat.le_refl _, Nat.le_refl _⟩ (fun o1 h => ?_)
  refine g_iload_n hC dX5_signTreaty_4 5 rfl rfl 1 rfl ?_
  refine g_readS hC (ct_X5_isDrawer l g p0 _ h) gY_X5_isDrawer dX5_signTreaty_5 8 rfl ml_X5_168 [] _ rfl [] rfl rfl ⟨Nat.le_of_ble_eq_true rfl, Nat.le_of_ble_eq_true rfl⟩ (Nat.le_of_ble_eq_true rfl) ⟨Nat.le_refl _, Nat.le_refl _⟩ (fun v2 h => ?_)
  refine g_if_eq hC dX5_signTreaty_8 18 (by decide) 11 rfl (fun c => ?_) (fun c => ?_)
  · have h := h.1 c
    refine g_lv (lv2 := [(0, .ref (a 0))]) [0] rfl ?_
    exact jn_X5_signTreaty_18 hC hZ o1 h
  · have h := h.2 c
    refine g_iload_n hC dX5_signTreaty_11 12 rfl rfl 2 rfl ?_
    refine g_readS hC (ct_X5_isDrawer l g p1 _ h) gY_X5_isDrawer dX5_signTreaty_12 15 rfl ml_X5_168 [] _ rfl [] rfl rfl ⟨Nat.le_of_ble_eq_true rfl, Nat.le_of_ble_eq_true rfl⟩ (Nat.le_of_ble_eq_true rfl) ⟨Nat.le_refl _, Nat.le_refl _⟩ (fun v5 h => ?_)
    refine g_if_ne hC dX5_signTreaty_15 24 (by decide) 18 rfl (fun c => ?_) (fun c => ?_)
    · have h := h.1 c
      refine g_iload_n hC dX5_signTreaty_24 25 rfl rfl 1 rfl ?_
      refine g_iload_n hC dX5_signTreaty_25 26 rfl rfl 2 rfl ?_
      refine g_icmp_eq hC dX5_signTreaty_26 36 (by decide) 29 rfl (fun c => ?_) (fun c => ?_)
      · have h := h.1 c
        refine g_lv (lv2 := [(0, .ref (a 0))]) [0] rfl ?_
        exact jn_X5_signTreaty_36 hC hZ o1 h
      · have h := h.2 c
        refine g_iload_n hC dX5_signTreaty_29 30 rfl rfl 3 rfl ?_
        refine g_readS hC (ct_X5_isClause l g p2 _ h) gY_X5_isClause dX5_signTreaty_30 33 rfl ml_X5_266 [] _ rfl [] rfl rfl ⟨Nat.le_of_ble_eq_true rfl, Nat.le_of_ble_eq_true rfl⟩ (Nat.le_of_ble_eq_true rfl) ⟨Nat.le_refl _, Nat.le_refl _⟩ (fun v8 h => ?_)
        refine g_if_ne hC dX5_signTreaty_33 42 (by decide) 36 rfl (fun c => ?_) (fun c => ?_)
        · have h := h.1 c
          refine g_aload_n hC dX5_signTreaty_42 43 rfl rfl 0 rfl ?_
          refine g_iload_n hC dX5_signTreaty_43 44 rfl rfl 1 rfl ?_
          refine g_iload_n hC dX5_signTreaty_44 45 rfl rfl 2 rfl ?_
          refine g_ownI hC (ct_X5_cannotSign l g a o1 p0 p1 _ h) gY_X5_cannotSign dX5_signTreaty_45 48 rfl ml_X5_269 [] rfl rfl rfl 0 9 rfl rfl ⟨Nat.le_of_ble_eq_true rfl, Nat.le_of_ble_eq_true rfl⟩ (Nat.le_of_ble_eq_true rfl) ⟨Nat.le_refl _, Nat.le_refl _⟩ (fun v10 o9 h => ?_)
          refine g_if_eq hC dX5_signTreaty_48 59 (by decide) 51 rfl (fun c => ?_) (fun c => ?_)
          · have h := h.1 c
            refine g_aload_n hC dX5_signTreaty_59 60 rfl rfl 0 rfl ?_
            refine g_aload_n hC dX5_signTreaty_60 61 rfl rfl 0 rfl ?_
            refine g_iload_n hC dX5_signTreaty_61 62 rfl rfl 1 rfl ?_
            refine g_iload_n hC dX5_signTreaty_62 63 rfl rfl 2 rfl ?_
            refine g_iload_n hC dX5_signTreaty_63 64 rfl rfl 3 rfl ?_
            refine g_ownI hC (ct_X5_signs l g a o9 p0 p1 p2 _ h) gY_X5_signs dX5_signTreaty_64 67 rfl ml_X5_272 [.ref (a 0)] rfl rfl rfl 0 9 rfl rfl ⟨Nat.le_of_ble_eq_true rfl, Nat.le_of_ble_eq_true rfl⟩ (Nat.le_of_ble_eq_true rfl) ⟨Nat.le_refl _, Nat.le_refl _⟩ (fun v12 o11 h => ?_)
            refine g_ownI hC (ct_X5_commit l g a o11 v12 _ h) gY_X5_commit dX5_signTreaty_67 70 rfl ml_X5_145 [] rfl rfl rfl 0 9 rfl rfl ⟨Nat.le_of_ble_eq_true rfl, Nat.le_of_ble_eq_true rfl⟩ (Nat.le_of_ble_eq_true rfl) ⟨Nat.le_refl _, Nat.le_refl _⟩ (fun v14 o13 h => ?_)
            exact g_iret hC hZ dX5_signTreaty_70 ⟨_, _, rfl, rfl, h⟩
          · have h := h.2 c
            refine g_aload_n hC dX5_signTreaty_51 52 rfl rfl 0 rfl ?_
            refine g_iconst hC (3 : Int32) dX5_signTreaty_52 53 rfl iconst_3 ?_
            refine g_ownI hC (ct_X5_reject l g a o9 (3 : Int32) _ h) gY_X5_reject dX5_signTreaty_53 56 rfl ml_X5_139 [] rfl rfl rfl 0 9 rfl rfl ⟨Nat.le_of_ble_eq_true rfl, Nat.le_of_ble_eq_true rfl⟩ (Nat.le_of_ble_eq_true rfl) ⟨Nat.le_refl _, Nat.le_refl _⟩ (fun v16 o15 h => ?_)
            refine g_goto hC dX5_signTreaty_56 70 (by decide) ?_
            exact g_iret hC hZ dX5_signTreaty_70 ⟨_, _, rfl, rfl, h⟩
        · have h := h.2 c
          refine g_lv (lv2 := [(0, .ref (a 0))]) [0] rfl ?_
          exact jn_X5_signTreaty_36 hC hZ o1 h
    · have h := h.2 c
      refine g_lv (lv2 := [(0, .ref (a 0))]) [0] rfl ?_
      exact jn_X5_signTreaty_18 hC hZ o1 h
def wp_X5_noTreaty (post : Int32 → Prop) (o : Off) (p0 : Int32) (p1 : Int32) : Prop := wp_X5_isDrawer (fun v1 => ((v1 = 0 → post (1 : Int32)) ∧ (¬ v1 = 0 → wp_X5_isDrawer (fun v2 => ((¬ v2 = 0 → wp_X5_treatyOf (fun v3 => (vp_in v3 160 ∧ ((¬ (o 1 v3.toNatClampNeg) = 0 → post (0 : Int32)) ∧ ((o 1 v3.toNatClampNeg) = 0 → post (2 : Int32))))) p0 p1) ∧ (v2 = 0 → post (1 : Int32)))) p1))) p0
set_option maxRecDepth 100000 in
set_option maxHeartbeats 4000000 in
theorem ct_X5_noTreaty (l : Launch) (g : gE) (a : Nat → Nat) (o : Off) (p0 : Int32) (p1 : Int32) (post : Int32 → Prop) (h : wp_X5_noTreaty post o p0 p1) : Fn l g yX5_noTreaty cX5_noTreaty 3 (some .int) 2 42 0 0 (modW g a o) [.ref (a 0), .int p0, .int p1] (pR (modW g a o) post) := by
  refine Fn.of (by decide) (Nat.le_of_ble_eq_true rfl) (fun x hC hZ => ?_)
  rw [wp_X5_noTreaty] at h
  show G x g 3 0 0 (modW g a o) 0 [(0, .ref (a 0)), (1, .int p0), (2, .int p1)] []
  refine g_iload_n hC dX5_noTreaty_0 1 rfl rfl 1 rfl ?_
  refine g_readS hC (ct_X5_isDrawer l g p0 _ h) gY_X5_isDrawer dX5_noTreaty_1 4 rfl ml_X5_168 [] _ rfl [] rfl rfl ⟨Nat.le_of_ble_eq_true rfl, Nat.le_of_ble_eq_true rfl⟩ (Nat.le_of_ble_eq_true rfl) ⟨Nat.le_refl _, Nat.le_refl _⟩ (fun v1 h => ?_)
  refine g_if_eq hC dX5_noTreaty_4 14 (by decide) 7 rfl (fun c => ?_) (fun c => ?_)
  · have h := h.1 c
    refine g_iconst hC (1 : Int32) dX5_noTreaty_14 15 rfl iconst_1 ?_
    refine g_goto hC dX5_noTreaty_15 36 (by decide) ?_
    exact g_iret hC hZ dX5_noTreaty_36 ⟨_, rfl, rfl, h⟩
  · have h := h.2 c
    refine g_iload_n hC dX5_noTreaty_7 8 rfl rfl 2 rfl ?_
    refine g_readS hC (ct_X5_isDrawer l g p1 _ h) gY_X5_isDrawer dX5_noTreaty_8 11 rfl ml_X5_168 [] _ rfl [] rfl rfl ⟨Nat.le_of_ble_eq_true rfl, Nat.le_of_ble_eq_true rfl⟩ (Nat.le_of_ble_eq_true rfl) ⟨Nat.le_refl _, Nat.le_refl _⟩ (fun v2 h => ?_)
    refine g_if_ne hC dX5_noTreaty_11 18 (by decide) 14 rfl (fun c => ?_) (fun c => ?_)
    · have h := h.1 c
      refine g_aload_n hC dX5_noTreaty_18 19 rfl rfl 0 rfl ?_
      refine g_get hC fl_X5_7 dX5_noTreaty_19 22 rfl 0 rfl rfl ?_
      refine g_iload_n hC dX5_noTreaty_22 23 rfl rfl 1 rfl ?_
      refine g_iload_n hC dX5_noTreaty_23 24 rfl rfl 2 rfl ?_
      refine g_readS hC (ct_X5_treatyOf l g p0 p1 _ h) gY_X5_treatyOf dX5_noTreaty_24 27 rfl ml_X5_222 [] _ rfl [.ref (a 1)] rfl rfl ⟨Nat.le_of_ble_eq_true rfl, Nat.le_of_ble_eq_true rfl⟩ (Nat.le_of_ble_eq_true rfl) ⟨Nat.le_refl _, Nat.le_refl _⟩ (fun v3 h => ?_)
      obtain ⟨hi, h⟩ := h
      refine g_iald hC dX5_noTreaty_27 28 rfl 1 rfl hi ?_
      refine g_if_ne hC dX5_noTreaty_28 35 (by decide) 31 rfl (fun c => ?_) (fun c => ?_)
      · have h := h.1 c
        refine g_iconst hC (0 : Int32) dX5_noTreaty_35 36 rfl iconst_0 ?_
        exact g_iret hC hZ dX5_noTreaty_36 ⟨_, rfl, rfl, h⟩
      · have h := h.2 c
        refine g_iconst hC (2 : Int32) dX5_noTreaty_31 32 rfl iconst_2 ?_
        refine g_goto hC dX5_noTreaty_32 36 (by decide) ?_
        exact g_iret hC hZ dX5_noTreaty_36 ⟨_, rfl, rfl, h⟩
    · have h := h.2 c
      refine g_iconst hC (1 : Int32) dX5_noTreaty_14 15 rfl iconst_1 ?_
      refine g_goto hC dX5_noTreaty_15 36 (by decide) ?_
      exact g_iret hC hZ dX5_noTreaty_36 ⟨_, rfl, rfl, h⟩
def wp_X5_endTreaty (post : Int32 → Off → Prop) (o : Off) (p0 : Int32) (p1 : Int32) : Prop := wp_X5_begin (fun o1 => wp_X5_noTreaty (fun v2 => ((v2 ≤ 0 → wp_X5_signs (fun v4 o3 => wp_X5_commit (fun v6 o5 => post v6 o5) o3 v4) o1 p0 p1 (0 : Int32)) ∧ (¬ v2 ≤ 0 → wp_X5_fail (fun v8 o7 => post v8 o7) o1 v2))) o1 p0 p1) o 
set_option maxRecDepth 100000 in
set_option maxHeartbeats 4000000 in
theorem ct_X5_endTreaty (l : Launch) (g : gE) (a : Nat → Nat) (o : Off) (p0 : Int32) (p1 : Int32) (post : Int32 → Off → Prop) (h : wp_X5_endTreaty post o p0 p1) : Fn l g yX5_endTreaty cX5_endTreaty 4 (some .int) 3 64 0 0 (modW g a o) [.ref (a 0), .int p0, .int p1] (pI (modW g a) post) := by
  refine Fn.of (by decide) (Nat.le_of_ble_eq_true rfl) (fun x hC hZ => ?_)
  rw [wp_X5_endTreaty] at h
  show G x g 4 0 0 (modW g a o) 0 [(0, .ref (a 0)), (1, .int p0), (2, .int p1)] []
  refine g_aload_n hC dX5_endTreaty_0 1 rfl rfl 0 rfl ?_
  refine g_ownV hC (ct_X5_begin l g a o  _ h) gY_X5_begin dX5_endTreaty_1 4 rfl ml_X5_129 [] rfl rfl rfl 0 9 rfl rfl ⟨Nat.le_of_ble_eq_true rfl, Nat.le_of_ble_eq_true rfl⟩ (Nat.le_of_ble_eq_true rfl) ⟨Nat.le_refl _, Nat.le_refl _⟩ (fun o1 h => ?_)
  refine g_aload_n hC dX5_endTreaty_4 5 rfl rfl 0 rfl ?_
  refine g_iload_n hC dX5_endTreaty_5 6 rfl rfl 1 rfl ?_
  refine g_iload_n hC dX5_endTreaty_6 7 rfl rfl 2 rfl ?_
  refine g_readV hC (ct_X5_noTreaty l g a o1 p0 p1 _ h) gY_X5_noTreaty dX5_endTreaty_7 10 rfl ml_X5_275 [] [] (by simp only [List.nil_append, List.append_nil]) [] rfl rfl rfl 0 9 rfl rfl ⟨Nat.le_of_ble_eq_true rfl, Nat.le_of_ble_eq_true rfl⟩ (Nat.le_of_ble_eq_true rfl) ⟨Nat.le_refl _, Nat.le_refl _⟩ (fun v2 h => ?_)
  refine g_istore_n (lv2 := [(3, .int v2), (0, .ref (a 0)), (1, .int p0), (2, .int p1)]) hC dX5_endTreaty_10 11 rfl rfl (by decide) rfl ?_
  refine g_iload_n hC dX5_endTreaty_11 12 rfl rfl 0 rfl ?_
  refine g_if_le hC dX5_endTreaty_12 23 (by decide) 15 rfl (fun c => ?_) (fun c => ?_)
  · have h := h.1 c
    refine g_aload_n hC dX5_endTreaty_23 24 rfl rfl 1 rfl ?_
    refine g_aload_n hC dX5_endTreaty_24 25 rfl rfl 1 rfl ?_
    refine g_iload_n hC dX5_endTreaty_25 26 rfl rfl 2 rfl ?_
    refine g_iload_n hC dX5_endTreaty_26 27 rfl rfl 3 rfl ?_
    refine g_iconst hC (0 : Int32) dX5_endTreaty_27 28 rfl iconst_0 ?_
    refine g_ownI hC (ct_X5_signs l g a o1 p0 p1 (0 : Int32) _ h) gY_X5_signs dX5_endTreaty_28 31 rfl ml_X5_272 [.ref (a 0)] rfl rfl rfl 0 9 rfl rfl ⟨Nat.le_of_ble_eq_true rfl, Nat.le_of_ble_eq_true rfl⟩ (Nat.le_of_ble_eq_true rfl) ⟨Nat.le_refl _, Nat.le_refl _⟩ (fun v4 o3 h => ?_)
    refine g_ownI hC (ct_X5_commit l g a o3 v4 _ h) gY_X5_commit dX5_endTreaty_31 34 rfl ml_X5_145 [] rfl rfl rfl 0 9 rfl rfl ⟨Nat.le_of_ble_eq_true rfl, Nat.le_of_ble_eq_true rfl⟩ (Nat.le_of_ble_eq_true rfl) ⟨Nat.le_refl _, Nat.le_refl _⟩ (fun v6 o5 h => ?_)
    exact g_iret hC hZ dX5_endTreaty_34 ⟨_, _, rfl, rfl, h⟩
  · have h := h.2 c
    refine g_aload_n hC dX5_endTreaty_15 16 rfl rfl 1 rfl ?_
    refine g_iload_n hC dX5_endTreaty_16 17 rfl rfl 0 rfl ?_
    refine g_ownI hC (ct_X5_fail l g a o1 v2 _ h) gY_X5_fail dX5_endTreaty_17 20 rfl ml_X5_88 [] rfl rfl rfl 0 9 rfl rfl ⟨Nat.le_of_ble_eq_true rfl, Nat.le_of_ble_eq_true rfl⟩ (Nat.le_of_ble_eq_true rfl) ⟨Nat.le_refl _, Nat.le_refl _⟩ (fun v8 o7 h => ?_)
    refine g_goto hC dX5_endTreaty_20 34 (by decide) ?_
    exact g_iret hC hZ dX5_endTreaty_34 ⟨_, _, rfl, rfl, h⟩
def wp_X5_clauseOf (post : Int32 → Off → Prop) (o : Off) (p0 : Int32) (p1 : Int32) : Prop := wp_X5_noTreaty (fun v1 => (∀ o2 : Off, o2 = st o 0 5 v1 → (((o2 0 5) ≤ 0 → wp_X5_treatyOf (fun v3 => (vp_in v3 160 ∧ (isC ((((o2 1 v3.toNatClampNeg)).toUInt32 % 65536).toInt32) ∧ post ((((o2 1 v3.toNatClampNeg)).toUInt32 % 65536).toInt32) o2))) p0 p1) ∧ (¬ (o2 0 5) ≤ 0 → (isC (32 : Int32) ∧ post (32 : Int32) o2))))) o p0 p1
set_option maxRecDepth 100000 in
set_option maxHeartbeats 4000000 in
theorem ct_X5_clauseOf (l : Launch) (g : gE) (a : Nat → Nat) (o : Off) (p0 : Int32) (p1 : Int32) (post : Int32 → Off → Prop) (h : wp_X5_clauseOf post o p0 p1) : Fn l g yX5_clauseOf cX5_clauseOf 3 (some .char) 3 64 0 0 (modW g a o) [.ref (a 0), .int p0, .int p1] (pI (modW g a) post) := by
  refine Fn.of (by decide) (Nat.le_of_ble_eq_true rfl) (fun x hC hZ => ?_)
  rw [wp_X5_clauseOf] at h
  show G x g 3 0 0 (modW g a o) 0 [(0, .ref (a 0)), (1, .int p0), (2, .int p1)] []
  refine g_aload_n hC dX5_clauseOf_0 1 rfl rfl 0 rfl ?_
  refine g_aload_n hC dX5_clauseOf_1 2 rfl rfl 0 rfl ?_
  refine g_iload_n hC dX5_clauseOf_2 3 rfl rfl 1 rfl ?_
  refine g_iload_n hC dX5_clauseOf_3 4 rfl rfl 2 rfl ?_
  refine g_readV hC (ct_X5_noTreaty l g a o p0 p1 _ h) gY_X5_noTreaty dX5_clauseOf_4 7 rfl ml_X5_275 [] [] (by simp only [List.nil_append, List.append_nil]) [.ref (a 0)] rfl rfl rfl 0 9 rfl rfl ⟨Nat.le_of_ble_eq_true rfl, Nat.le_of_ble_eq_true rfl⟩ (Nat.le_of_ble_eq_true rfl) ⟨Nat.le_refl _, Nat.le_refl _⟩ (fun v1 h => ?_)
  obtain ⟨o2, eo2⟩ : ∃ y : Off, y = st o 0 5 v1 := ⟨_, rfl⟩
  have h := h o2 eo2
  refine g_put hC fp_X5_25 dX5_clauseOf_7 10 rfl 0 rfl rfl rfl (Nat.le_of_ble_eq_true rfl) (modW_p5 eo2) ?_
  refine g_aload_n hC dX5_clauseOf_10 11 rfl rfl 0 rfl ?_
  refine g_get hC fl_X5_25 dX5_clauseOf_11 14 rfl 0 rfl rfl ?_
  refine g_if_le hC dX5_clauseOf_14 22 (by decide) 17 rfl (fun c => ?_) (fun c => ?_)
  · have h := h.1 c
    refine g_aload_n hC dX5_clauseOf_22 23 rfl rfl 0 rfl ?_
    refine g_get hC fl_X5_7 dX5_clauseOf_23 26 rfl 0 rfl rfl ?_
    refine g_iload_n hC dX5_clauseOf_26 27 rfl rfl 1 rfl ?_
    refine g_iload_n hC dX5_clauseOf_27 28 rfl rfl 2 rfl ?_
    refine g_readS hC (ct_X5_treatyOf l g p0 p1 _ h) gY_X5_treatyOf dX5_clauseOf_28 31 rfl ml_X5_222 [] _ rfl [.ref (a 1)] rfl rfl ⟨Nat.le_of_ble_eq_true rfl, Nat.le_of_ble_eq_true rfl⟩ (Nat.le_of_ble_eq_true rfl) ⟨Nat.le_refl _, Nat.le_refl _⟩ (fun v3 h => ?_)
    obtain ⟨hi, h⟩ := h
    refine g_iald hC dX5_clauseOf_31 32 rfl 1 rfl hi ?_
    refine g_i2c hC dX5_clauseOf_32 33 rfl ?_
    obtain ⟨hb, h⟩ := h
    exact g_zret hC hZ (hb) dX5_clauseOf_33 ⟨_, _, rfl, rfl, h⟩
  · have h := h.2 c
    refine g_bipush hC (32 : Int32) dX5_clauseOf_17 19 rfl bipush_32 ?_
    refine g_goto hC dX5_clauseOf_19 33 (by decide) ?_
    obtain ⟨hb, h⟩ := h
    exact g_zret hC hZ (hb) dX5_clauseOf_33 ⟨_, _, rfl, rfl, h⟩
def wp_X5_quotaOf (post : Int32 → Off → Prop) (o : Off) (p0 : Int32) : Prop := wp_X5_isDrawer (fun v1 => wp_X5_checked (fun v3 o2 => ((v3 ≤ 0 → (vp_in ((120 : Int32) + p0) 160 ∧ post (o2 1 ((120 : Int32) + p0).toNatClampNeg) o2)) ∧ (¬ v3 ≤ 0 → post (0 : Int32) o2))) o v1) p0
set_option maxRecDepth 100000 in
set_option maxHeartbeats 4000000 in
theorem ct_X5_quotaOf (l : Launch) (g : gE) (a : Nat → Nat) (o : Off) (p0 : Int32) (post : Int32 → Off → Prop) (h : wp_X5_quotaOf post o p0) : Fn l g yX5_quotaOf cX5_quotaOf 2 (some .int) 2 42 0 0 (modW g a o) [.ref (a 0), .int p0] (pI (modW g a) post) := by
  refine Fn.of (by decide) (Nat.le_of_ble_eq_true rfl) (fun x hC hZ => ?_)
  rw [wp_X5_quotaOf] at h
  show G x g 2 0 0 (modW g a o) 0 [(0, .ref (a 0)), (1, .int p0)] []
  refine g_aload_n hC dX5_quotaOf_0 1 rfl rfl 0 rfl ?_
  refine g_iload_n hC dX5_quotaOf_1 2 rfl rfl 1 rfl ?_
  refine g_readS hC (ct_X5_isDrawer l g p0 _ h) gY_X5_isDrawer dX5_quotaOf_2 5 rfl ml_X5_168 [] _ rfl [.ref (a 0)] rfl rfl ⟨Nat.le_of_ble_eq_true rfl, Nat.le_of_ble_eq_true rfl⟩ (Nat.le_of_ble_eq_true rfl) ⟨Nat.le_refl _, Nat.le_refl _⟩ (fun v1 h => ?_)
  refine g_ownI hC (ct_X5_checked l g a o v1 _ h) gY_X5_checked dX5_quotaOf_5 8 rfl ml_X5_154 [] rfl rfl rfl 0 9 rfl rfl ⟨Nat.le_of_ble_eq_true rfl, Nat.le_of_ble_eq_true rfl⟩ (Nat.le_of_ble_eq_true rfl) ⟨Nat.le_refl _, Nat.le_refl _⟩ (fun v3 o2 h => ?_)
  refine g_if_le hC dX5_quotaOf_8 15 (by decide) 11 rfl (fun c => ?_) (fun c => ?_)
  · have h := h.1 c
    refine g_aload_n hC dX5_quotaOf_15 16 rfl rfl 0 rfl ?_
    refine g_get hC fl_X5_7 dX5_quotaOf_16 19 rfl 0 rfl rfl ?_
    refine g_bipush hC (120 : Int32) dX5_quotaOf_19 21 rfl bipush_120 ?_
    refine g_iload_n hC dX5_quotaOf_21 22 rfl rfl 1 rfl ?_
    refine g_iadd hC dX5_quotaOf_22 23 rfl ?_
    obtain ⟨hi, h⟩ := h
    refine g_iald hC dX5_quotaOf_23 24 rfl 1 rfl hi ?_
    exact g_iret hC hZ dX5_quotaOf_24 ⟨_, _, rfl, rfl, h⟩
  · have h := h.2 c
    refine g_iconst hC (0 : Int32) dX5_quotaOf_11 12 rfl iconst_0 ?_
    refine g_goto hC dX5_quotaOf_12 24 (by decide) ?_
    exact g_iret hC hZ dX5_quotaOf_24 ⟨_, _, rfl, rfl, h⟩
def wp_X5_residents (post : Int32 → Off → Prop) (o : Off) (p0 : Int32) : Prop := wp_X5_isDrawer (fun v1 => wp_X5_checked (fun v3 o2 => ((v3 ≤ 0 → wp_X5_livingIn (fun v4 => post v4 o2) o2 p0) ∧ (¬ v3 ≤ 0 → post (0 : Int32) o2))) o v1) p0
set_option maxRecDepth 100000 in
set_option maxHeartbeats 4000000 in
theorem ct_X5_residents (l : Launch) (g : gE) (a : Nat → Nat) (o : Off) (p0 : Int32) (post : Int32 → Off → Prop) (h : wp_X5_residents post o p0) : Fn l g yX5_residents cX5_residents 2 (some .int) 4 89 0 0 (modW g a o) [.ref (a 0), .int p0] (pI (modW g a) post) := by
  refine Fn.of (by decide) (Nat.le_of_ble_eq_true rfl) (fun x hC hZ => ?_)
  rw [wp_X5_residents] at h
  show G x g 2 0 0 (modW g a o) 0 [(0, .ref (a 0)), (1, .int p0)] []
  refine g_aload_n hC dX5_residents_0 1 rfl rfl 0 rfl ?_
  refine g_iload_n hC dX5_residents_1 2 rfl rfl 1 rfl ?_
  refine g_readS hC (ct_X5_isDrawer l g p0 _ h) gY_X5_isDrawer dX5_residents_2 5 rfl ml_X5_168 [] _ rfl [.ref (a 0)] rfl rfl ⟨Nat.le_of_ble_eq_true rfl, Nat.le_of_ble_eq_true rfl⟩ (Nat.le_of_ble_eq_true rfl) ⟨Nat.le_refl _, Nat.le_refl _⟩ (fun v1 h => ?_)
  refine g_ownI hC (ct_X5_checked l g a o v1 _ h) gY_X5_checked dX5_residents_5 8 rfl ml_X5_154 [] rfl rfl rfl 0 9 rfl rfl ⟨Nat.le_of_ble_eq_true rfl, Nat.le_of_ble_eq_true rfl⟩ (Nat.le_of_ble_eq_true rfl) ⟨Nat.le_refl _, Nat.le_refl _⟩ (fun v3 o2 h => ?_)
  refine g_if_le hC dX5_residents_8 15 (by decide) 11 rfl (fun c => ?_) (fun c => ?_)
  · have h := h.1 c
    refine g_aload_n hC dX5_residents_15 16 rfl rfl 0 rfl ?_
    refine g_iload_n hC dX5_residents_16 17 rfl rfl 1 rfl ?_
    refine g_readV hC (ct_X5_livingIn l g a o2 p0 _ h) gY_X5_livingIn dX5_residents_17 20 rfl ml_X5_195 [] [] (by simp only [List.nil_append, List.append_nil]) [] rfl rfl rfl 0 9 rfl rfl ⟨Nat.le_of_ble_eq_true rfl, Nat.le_of_ble_eq_true rfl⟩ (Nat.le_of_ble_eq_true rfl) ⟨Nat.le_refl _, Nat.le_refl _⟩ (fun v4 h => ?_)
    exact g_iret hC hZ dX5_residents_20 ⟨_, _, rfl, rfl, h⟩
  · have h := h.2 c
    refine g_iconst hC (0 : Int32) dX5_residents_11 12 rfl iconst_0 ?_
    refine g_goto hC dX5_residents_12 20 (by decide) ?_
    exact g_iret hC hZ dX5_residents_20 ⟨_, _, rfl, rfl, h⟩
def wl_X5_residentAt_18 (post : Int32 → Off → Prop) : Nat → Off → Int32 → Int32 → Int32 → Int32 → Prop
  | 0, _, _, _, _, _ => False
  | n + 1, o, x1, x2, x3, x4 => (vp_in (0 : Int32) 160 ∧ (((o 1 (0 : Int32).toNatClampNeg) ≤ x4 → wp_X5_fail (fun v5 o4 => post v5 o4) o (2 : Int32)) ∧ (¬ (o 1 (0 : Int32).toNatClampNeg) ≤ x4 → wp_X5_livesIn (fun v6 => ((¬ v6 = 0 → ((¬ x3 = x2 → (∀ v7 : Int32, v7 = x3 + (1 : Int32) → (∀ v8 : Int32, v8 = x4 + (1 : Int32) → wl_X5_residentAt_18 post n o x1 x2 v7 v8))) ∧ (x3 = x2 → post x4 o))) ∧ (v6 = 0 → (∀ v9 : Int32, v9 = x4 + (1 : Int32) → wl_X5_residentAt_18 post n o x1 x2 x3 v9)))) o x4 x1)))
def wp_X5_residentAt (post : Int32 → Off → Prop) (o : Off) (p0 : Int32) (p1 : Int32) : Prop := wp_X5_isDrawer (fun v1 => wp_X5_checked (fun v3 o2 => ((v3 ≤ 0 → (∃ m : Nat, wl_X5_residentAt_18 post m o2 p0 p1 (0 : Int32) (0 : Int32))) ∧ (¬ v3 ≤ 0 → post (0 : Int32) o2))) o v1) p0
set_option maxRecDepth 100000 in
set_option maxHeartbeats 4000000 in
theorem lp_X5_residentAt_18 {x : gX} {l : Launch} {g : gE} {a : Nat → Nat} {o0 : Off} {post : Int32 → Off → Prop} (hC : gC x l cX5_residentAt 5 RX5 g 3 66 0 0) (hZ : gZ x g (some .int) (modW g a o0) (pI (modW g a) post) 0 0) : ∀ (n : Nat) (o : Off) (x1 : Int32) (x2 : Int32) (x3 : Int32) (x4 : Int32) , wl_X5_residentAt_18 post n o x1 x2 x3 x4 → G x g 5 0 0 (modW g a o) 18 [(0, .ref (a 0)), (1, .int x1), (2, .int x2), (3, .int x3), (4, .int x4)] [] := by
  intro n
  induction n with
  | zero =>
    intro o x1 x2 x3 x4 h
    exact h.elim
  | succ n ih =>
    intro o x1 x2 x3 x4 h
    rw [wl_X5_residentAt_18] at h
    refine g_iload hC dX5_residentAt_18 20 rfl 4 rfl ?_
    refine g_aload_n hC dX5_residentAt_20 21 rfl rfl 0 rfl ?_
    refine g_get hC fl_X5_7 dX5_residentAt_21 24 rfl 0 rfl rfl ?_
    refine g_iconst hC (0 : Int32) dX5_residentAt_24 25 rfl iconst_0 ?_
    obtain ⟨hi, h⟩ := h
    refine g_iald hC dX5_residentAt_25 26 rfl 1 rfl hi ?_
    refine g_icmp_ge hC dX5_residentAt_26 59 (by decide) 29 rfl (fun c => ?_) (fun c => ?_)
    · have h := h.1 c
      refine g_aload_n hC dX5_residentAt_59 60 rfl rfl 0 rfl ?_
      refine g_iconst hC (2 : Int32) dX5_residentAt_60 61 rfl iconst_2 ?_
      refine g_ownI hC (ct_X5_fail l g a o (2 : Int32) _ h) gY_X5_fail dX5_residentAt_61 64 rfl ml_X5_88 [] rfl rfl rfl 0 9 rfl rfl ⟨Nat.le_of_ble_eq_true rfl, Nat.le_of_ble_eq_true rfl⟩ (Nat.le_of_ble_eq_true rfl) ⟨Nat.le_refl _, Nat.le_refl _⟩ (fun v5 o4 h => ?_)
      exact g_iret hC hZ dX5_residentAt_64 ⟨_, _, rfl, rfl, h⟩
    · have h := h.2 c
      refine g_aload_n hC dX5_residentAt_29 30 rfl rfl 0 rfl ?_
      refine g_iload hC dX5_residentAt_30 32 rfl 4 rfl ?_
      refine g_iload_n hC dX5_residentAt_32 33 rfl rfl 1 rfl ?_
      refine g_readV hC (ct_X5_livesIn l g a o x4 x1 _ h) gY_X5_livesIn dX5_residentAt_33 36 rfl ml_X5_104 [] [] (by simp only [List.nil_append, List.append_nil]) [] rfl rfl rfl 0 9 rfl rfl ⟨Nat.le_of_ble_eq_true rfl, Nat.le_of_ble_eq_true rfl⟩ (Nat.le_of_ble_eq_true rfl) ⟨Nat.le_refl _, Nat.le_refl _⟩ (fun v6 h => ?_)
      refine g_if_ne hC dX5_residentAt_36 42 (by decide) 39 rfl (fun c => ?_) (fun c => ?_)
      · have h := h.1 c
        refine g_iload_n hC dX5_residentAt_42 43 rfl rfl 3 rfl ?_
        refine g_iload_n hC dX5_residentAt_43 44 rfl rfl 2 rfl ?_
        refine g_icmp_ne hC dX5_residentAt_44 50 (by decide) 47 rfl (fun c => ?_) (fun c => ?_)
        · have h := h.1 c
          obtain ⟨v7, ev7⟩ : ∃ y : Int32, y = x3 + (1 : Int32) := ⟨_, rfl⟩
          have h := h v7 ev7
          refine g_iinc (v2 := v7) (lv2 := [(3, .int v7), (0, .ref (a 0)), (1, .int x1), (2, .int x2), (4, .int x4)]) hC dX5_residentAt_50 53 rfl 3 rfl (by rw [iconst_1, ev7]) (by decide) rfl ?_
          obtain ⟨v8, ev8⟩ : ∃ y : Int32, y = x4 + (1 : Int32) := ⟨_, rfl⟩
          have h := h v8 ev8
          refine g_iinc (v2 := v8) (lv2 := [(4, .int v8), (3, .int v7), (0, .ref (a 0)), (1, .int x1), (2, .int x2)]) hC dX5_residentAt_53 56 rfl 4 rfl (by rw [iconst_1, ev8]) (by decide) rfl ?_
          refine g_goto hC dX5_residentAt_56 18 (by decide) ?_
          refine g_lv (lv2 := [(0, .ref (a 0)), (1, .int x1), (2, .int x2), (3, .int v7), (4, .int v8)]) [2, 3, 4, 1, 0] rfl ?_
          exact ih o x1 x2 v7 v8 h
        · have h := h.2 c
          refine g_iload hC dX5_residentAt_47 49 rfl 4 rfl ?_
          exact g_iret hC hZ dX5_residentAt_49 ⟨_, _, rfl, rfl, h⟩
      · have h := h.2 c
        refine g_goto hC dX5_residentAt_39 53 (by decide) ?_
        obtain ⟨v9, ev9⟩ : ∃ y : Int32, y = x4 + (1 : Int32) := ⟨_, rfl⟩
        have h := h v9 ev9
        refine g_iinc (v2 := v9) (lv2 := [(4, .int v9), (0, .ref (a 0)), (1, .int x1), (2, .int x2), (3, .int x3)]) hC dX5_residentAt_53 56 rfl 4 rfl (by rw [iconst_1, ev9]) (by decide) rfl ?_
        refine g_goto hC dX5_residentAt_56 18 (by decide) ?_
        refine g_lv (lv2 := [(0, .ref (a 0)), (1, .int x1), (2, .int x2), (3, .int x3), (4, .int v9)]) [1, 2, 3, 4, 0] rfl ?_
        exact ih o x1 x2 x3 v9 h
set_option maxRecDepth 100000 in
set_option maxHeartbeats 4000000 in
theorem ct_X5_residentAt (l : Launch) (g : gE) (a : Nat → Nat) (o : Off) (p0 : Int32) (p1 : Int32) (post : Int32 → Off → Prop) (h : wp_X5_residentAt post o p0 p1) : Fn l g yX5_residentAt cX5_residentAt 5 (some .int) 3 66 0 0 (modW g a o) [.ref (a 0), .int p0, .int p1] (pI (modW g a) post) := by
  refine Fn.of (by decide) (Nat.le_of_ble_eq_true rfl) (fun x hC hZ => ?_)
  rw [wp_X5_residentAt] at h
  show G x g 5 0 0 (modW g a o) 0 [(0, .ref (a 0)), (1, .int p0), (2, .int p1)] []
  refine g_aload_n hC dX5_residentAt_0 1 rfl rfl 0 rfl ?_
  refine g_iload_n hC dX5_residentAt_1 2 rfl rfl 1 rfl ?_
  refine g_readS hC (ct_X5_isDrawer l g p0 _ h) gY_X5_isDrawer dX5_residentAt_2 5 rfl ml_X5_168 [] _ rfl [.ref (a 0)] rfl rfl ⟨Nat.le_of_ble_eq_true rfl, Nat.le_of_ble_eq_true rfl⟩ (Nat.le_of_ble_eq_true rfl) ⟨Nat.le_refl _, Nat.le_refl _⟩ (fun v1 h => ?_)
  refine g_ownI hC (ct_X5_checked l g a o v1 _ h) gY_X5_checked dX5_residentAt_5 8 rfl ml_X5_154 [] rfl rfl rfl 0 9 rfl rfl ⟨Nat.le_of_ble_eq_true rfl, Nat.le_of_ble_eq_true rfl⟩ (Nat.le_of_ble_eq_true rfl) ⟨Nat.le_refl _, Nat.le_refl _⟩ (fun v3 o2 h => ?_)
  refine g_if_le hC dX5_residentAt_8 13 (by decide) 11 rfl (fun c => ?_) (fun c => ?_)
  · have h := h.1 c
    refine g_iconst hC (0 : Int32) dX5_residentAt_13 14 rfl iconst_0 ?_
    refine g_istore_n (lv2 := [(3, .int (0 : Int32)), (0, .ref (a 0)), (1, .int p0), (2, .int p1)]) hC dX5_residentAt_14 15 rfl rfl (by decide) rfl ?_
    refine g_iconst hC (0 : Int32) dX5_residentAt_15 16 rfl iconst_0 ?_
    refine g_istore (lv2 := [(4, .int (0 : Int32)), (3, .int (0 : Int32)), (0, .ref (a 0)), (1, .int p0), (2, .int p1)]) hC dX5_residentAt_16 18 rfl (by decide) rfl ?_
    refine g_lv (lv2 := [(0, .ref (a 0)), (1, .int p0), (2, .int p1), (3, .int (0 : Int32)), (4, .int (0 : Int32))]) [2, 3, 4, 1, 0] rfl ?_
    obtain ⟨m, h⟩ := h
    exact lp_X5_residentAt_18 hC hZ m o2 p0 p1 (0 : Int32) (0 : Int32) h
  · have h := h.2 c
    refine g_iconst hC (0 : Int32) dX5_residentAt_11 12 rfl iconst_0 ?_
    exact g_iret hC hZ dX5_residentAt_12 ⟨_, _, rfl, rfl, h⟩
def wj_X5_isBanned_24 (post : Int32 → Off → Prop) (o : Off) (x1 : Int32) (x2 : Int32) (s0 : Int32) : Prop := (∀ o3 : Off, o3 = st o 0 5 s0 → ((¬ (o3 0 5) = 0 → post (0 : Int32) o3) ∧ ((o3 0 5) = 0 → wp_X5_isShut (fun v4 => ((v4 = 0 → post (0 : Int32) o3) ∧ (¬ v4 = 0 → post (1 : Int32) o3))) o3 x1 x2)))
def wp_X5_isBanned (post : Int32 → Off → Prop) (o : Off) (p0 : Int32) (p1 : Int32) : Prop := wp_X5_isDrawer (fun v1 => ((¬ v1 = 0 → wp_X5_bitOf (fun v2 => ((¬ v2 = 0 → wj_X5_isBanned_24 post o p0 p1 (0 : Int32)) ∧ (v2 = 0 → wj_X5_isBanned_24 post o p0 p1 (2 : Int32)))) p1) ∧ (v1 = 0 → wj_X5_isBanned_24 post o p0 p1 (1 : Int32)))) p0
set_option maxRecDepth 100000 in
set_option maxHeartbeats 4000000 in
theorem jn_X5_isBanned_24 {x : gX} {l : Launch} {g : gE} {a : Nat → Nat} {o0 : Off} {post : Int32 → Off → Prop} (hC : gC x l cX5_isBanned 3 RX5 g 2 42 0 0) (hZ : gZ x g (some .boolean) (modW g a o0) (pI (modW g a) post) 0 0) : ∀ (o : Off) (x1 : Int32) (x2 : Int32) (s0 : Int32) , wj_X5_isBanned_24 post o x1 x2 s0 → G x g 3 0 0 (modW g a o) 24 [(0, .ref (a 0)), (1, .int x1), (2, .int x2)] [.int s0, .ref (a 0)] := by
  intro o x1 x2 s0 h
  rw [wj_X5_isBanned_24] at h
  obtain ⟨o3, eo3⟩ : ∃ y : Off, y = st o 0 5 s0 := ⟨_, rfl⟩
  have h := h o3 eo3
  refine g_put hC fp_X5_25 dX5_isBanned_24 27 rfl 0 rfl rfl rfl (Nat.le_of_ble_eq_true rfl) (modW_p5 eo3) ?_
  refine g_aload_n hC dX5_isBanned_27 28 rfl rfl 0 rfl ?_
  refine g_get hC fl_X5_25 dX5_isBanned_28 31 rfl 0 rfl rfl ?_
  refine g_if_ne hC dX5_isBanned_31 47 (by decide) 34 rfl (fun c => ?_) (fun c => ?_)
  · have h := h.1 c
    refine g_iconst hC (0 : Int32) dX5_isBanned_47 48 rfl iconst_0 ?_
    exact g_zret hC hZ rfl dX5_isBanned_48 ⟨_, _, rfl, rfl, h⟩
  · have h := h.2 c
    refine g_aload_n hC dX5_isBanned_34 35 rfl rfl 0 rfl ?_
    refine g_iload_n hC dX5_isBanned_35 36 rfl rfl 1 rfl ?_
    refine g_iload_n hC dX5_isBanned_36 37 rfl rfl 2 rfl ?_
    refine g_readV hC (ct_X5_isShut l g a o3 x1 x2 _ h) gY_X5_isShut dX5_isBanned_37 40 rfl ml_X5_198 [] [] (by simp only [List.nil_append, List.append_nil]) [] rfl rfl rfl 0 9 rfl rfl ⟨Nat.le_of_ble_eq_true rfl, Nat.le_of_ble_eq_true rfl⟩ (Nat.le_of_ble_eq_true rfl) ⟨Nat.le_refl _, Nat.le_refl _⟩ (fun v4 h => ?_)
    refine g_if_eq hC dX5_isBanned_40 47 (by decide) 43 rfl (fun c => ?_) (fun c => ?_)
    · have h := h.1 c
      refine g_iconst hC (0 : Int32) dX5_isBanned_47 48 rfl iconst_0 ?_
      exact g_zret hC hZ rfl dX5_isBanned_48 ⟨_, _, rfl, rfl, h⟩
    · have h := h.2 c
      refine g_iconst hC (1 : Int32) dX5_isBanned_43 44 rfl iconst_1 ?_
      refine g_goto hC dX5_isBanned_44 48 (by decide) ?_
      exact g_zret hC hZ rfl dX5_isBanned_48 ⟨_, _, rfl, rfl, h⟩
set_option maxRecDepth 100000 in
set_option maxHeartbeats 4000000 in
theorem ct_X5_isBanned (l : Launch) (g : gE) (a : Nat → Nat) (o : Off) (p0 : Int32) (p1 : Int32) (post : Int32 → Off → Prop) (h : wp_X5_isBanned post o p0 p1) : Fn l g yX5_isBanned cX5_isBanned 3 (some .boolean) 2 42 0 0 (modW g a o) [.ref (a 0), .int p0, .int p1] (pI (modW g a) post) := by
  refine Fn.of (by decide) (Nat.le_of_ble_eq_true rfl) (fun x hC hZ => ?_)
  rw [wp_X5_isBanned] at h
  show G x g 3 0 0 (modW g a o) 0 [(0, .ref (a 0)), (1, .int p0), (2, .int p1)] []
  refine g_aload_n hC dX5_isBanned_0 1 rfl rfl 0 rfl ?_
  refine g_iload_n hC dX5_isBanned_1 2 rfl rfl 1 rfl ?_
  refine g_readS hC (ct_X5_isDrawer l g p0 _ h) gY_X5_isDrawer dX5_isBanned_2 5 rfl ml_X5_168 [] _ rfl [.ref (a 0)] rfl rfl ⟨Nat.le_of_ble_eq_true rfl, Nat.le_of_ble_eq_true rfl⟩ (Nat.le_of_ble_eq_true rfl) ⟨Nat.le_refl _, Nat.le_refl _⟩ (fun v1 h => ?_)
  refine g_if_ne hC dX5_isBanned_5 12 (by decide) 8 rfl (fun c => ?_) (fun c => ?_)
  · have h := h.1 c
    refine g_iload_n hC dX5_isBanned_12 13 rfl rfl 2 rfl ?_
    refine g_readS hC (ct_X5_bitOf l g p1 _ h) gY_X5_bitOf dX5_isBanned_13 16 rfl ml_X5_114 [] _ rfl [.ref (a 0)] rfl rfl ⟨Nat.le_of_ble_eq_true rfl, Nat.le_of_ble_eq_true rfl⟩ (Nat.le_of_ble_eq_true rfl) ⟨Nat.le_refl _, Nat.le_refl _⟩ (fun v2 h => ?_)
    refine g_if_ne hC dX5_isBanned_16 23 (by decide) 19 rfl (fun c => ?_) (fun c => ?_)
    · have h := h.1 c
      refine g_iconst hC (0 : Int32) dX5_isBanned_23 24 rfl iconst_0 ?_
      exact jn_X5_isBanned_24 hC hZ o p0 p1 (0 : Int32) h
    · have h := h.2 c
      refine g_iconst hC (2 : Int32) dX5_isBanned_19 20 rfl iconst_2 ?_
      refine g_goto hC dX5_isBanned_20 24 (by decide) ?_
      exact jn_X5_isBanned_24 hC hZ o p0 p1 (2 : Int32) h
  · have h := h.2 c
    refine g_iconst hC (1 : Int32) dX5_isBanned_8 9 rfl iconst_1 ?_
    refine g_goto hC dX5_isBanned_9 24 (by decide) ?_
    exact jn_X5_isBanned_24 hC hZ o p0 p1 (1 : Int32) h
def wj_X5_canMove_21 (post : Int32 → Off → Prop) (o : Off) (x1 : Int32) (x2 : Int32) (s0 : Int32) : Prop := wp_X5_checked (fun v3 o2 => ((¬ v3 = 0 → post (0 : Int32) o2) ∧ (v3 = 0 → wp_X5_cannotMove (fun v5 o4 => ((¬ v5 = 0 → post (0 : Int32) o4) ∧ (v5 = 0 → post (1 : Int32) o4))) o2 x1 x2))) o s0
def wj_X5_canMove_20 (post : Int32 → Off → Prop) (o : Off) (x1 : Int32) (x2 : Int32) : Prop := wj_X5_canMove_21 post o x1 x2 (0 : Int32)
def wp_X5_canMove (post : Int32 → Off → Prop) (o : Off) (p0 : Int32) (p1 : Int32) : Prop := wp_X5_isSock (fun v1 => ((v1 = 0 → wj_X5_canMove_20 post o p0 p1) ∧ (¬ v1 = 0 → wp_X5_isDrawer (fun v6 => ((v6 = 0 → wj_X5_canMove_20 post o p0 p1) ∧ (¬ v6 = 0 → wj_X5_canMove_21 post o p0 p1 (1 : Int32)))) p1))) o p0
set_option maxRecDepth 100000 in
set_option maxHeartbeats 4000000 in
theorem jn_X5_canMove_21 {x : gX} {l : Launch} {g : gE} {a : Nat → Nat} {o0 : Off} {post : Int32 → Off → Prop} (hC : gC x l cX5_canMove 3 RX5 g 5 113 0 0) (hZ : gZ x g (some .boolean) (modW g a o0) (pI (modW g a) post) 0 0) : ∀ (o : Off) (x1 : Int32) (x2 : Int32) (s0 : Int32) , wj_X5_canMove_21 post o x1 x2 s0 → G x g 3 0 0 (modW g a o) 21 [(0, .ref (a 0)), (1, .int x1), (2, .int x2)] [.int s0, .ref (a 0)] := by
  intro o x1 x2 s0 h
  rw [wj_X5_canMove_21] at h
  refine g_ownI hC (ct_X5_checked l g a o s0 _ h) gY_X5_checked dX5_canMove_21 24 rfl ml_X5_154 [] rfl rfl rfl 0 9 rfl rfl ⟨Nat.le_of_ble_eq_true rfl, Nat.le_of_ble_eq_true rfl⟩ (Nat.le_of_ble_eq_true rfl) ⟨Nat.le_refl _, Nat.le_refl _⟩ (fun v3 o2 h => ?_)
  refine g_if_ne hC dX5_canMove_24 40 (by decide) 27 rfl (fun c => ?_) (fun c => ?_)
  · have h := h.1 c
    refine g_iconst hC (0 : Int32) dX5_canMove_40 41 rfl iconst_0 ?_
    exact g_zret hC hZ rfl dX5_canMove_41 ⟨_, _, rfl, rfl, h⟩
  · have h := h.2 c
    refine g_aload_n hC dX5_canMove_27 28 rfl rfl 0 rfl ?_
    refine g_iload_n hC dX5_canMove_28 29 rfl rfl 1 rfl ?_
    refine g_iload_n hC dX5_canMove_29 30 rfl rfl 2 rfl ?_
    refine g_ownI hC (ct_X5_cannotMove l g a o2 x1 x2 _ h) gY_X5_cannotMove dX5_canMove_30 33 rfl ml_X5_225 [] rfl rfl rfl 0 9 rfl rfl ⟨Nat.le_of_ble_eq_true rfl, Nat.le_of_ble_eq_true rfl⟩ (Nat.le_of_ble_eq_true rfl) ⟨Nat.le_refl _, Nat.le_refl _⟩ (fun v5 o4 h => ?_)
    refine g_if_ne hC dX5_canMove_33 40 (by decide) 36 rfl (fun c => ?_) (fun c => ?_)
    · have h := h.1 c
      refine g_iconst hC (0 : Int32) dX5_canMove_40 41 rfl iconst_0 ?_
      exact g_zret hC hZ rfl dX5_canMove_41 ⟨_, _, rfl, rfl, h⟩
    · have h := h.2 c
      refine g_iconst hC (1 : Int32) dX5_canMove_36 37 rfl iconst_1 ?_
      refine g_goto hC dX5_canMove_37 41 (by decide) ?_
      exact g_zret hC hZ rfl dX5_canMove_41 ⟨_, _, rfl, rfl, h⟩
set_option maxRecDepth 100000 in
set_option maxHeartbeats 4000000 in
theorem jn_X5_canMove_20 {x : gX} {l : Launch} {g : gE} {a : Nat → Nat} {o0 : Off} {post : Int32 → Off → Prop} (hC : gC x l cX5_canMove 3 RX5 g 5 113 0 0) (hZ : gZ x g (some .boolean) (modW g a o0) (pI (modW g a) post) 0 0) : ∀ (o : Off) (x1 : Int32) (x2 : Int32) , wj_X5_canMove_20 post o x1 x2 → G x g 3 0 0 (modW g a o) 20 [(0, .ref (a 0)), (1, .int x1), (2, .int x2)] [.ref (a 0)] := by
  intro o x1 x2 h
  rw [wj_X5_canMove_20] at h
  refine g_iconst hC (0 : Int32) dX5_canMove_20 21 rfl iconst_0 ?_
  exact jn_X5_canMove_21 hC hZ o x1 x2 (0 : Int32) h
set_option maxRecDepth 100000 in
set_option maxHeartbeats 4000000 in
theorem ct_X5_canMove (l : Launch) (g : gE) (a : Nat → Nat) (o : Off) (p0 : Int32) (p1 : Int32) (post : Int32 → Off → Prop) (h : wp_X5_canMove post o p0 p1) : Fn l g yX5_canMove cX5_canMove 3 (some .boolean) 5 113 0 0 (modW g a o) [.ref (a 0), .int p0, .int p1] (pI (modW g a) post) := by
  refine Fn.of (by decide) (Nat.le_of_ble_eq_true rfl) (fun x hC hZ => ?_)
  rw [wp_X5_canMove] at h
  show G x g 3 0 0 (modW g a o) 0 [(0, .ref (a 0)), (1, .int p0), (2, .int p1)] []
  refine g_aload_n hC dX5_canMove_0 1 rfl rfl 0 rfl ?_
  refine g_aload_n hC dX5_canMove_1 2 rfl rfl 0 rfl ?_
  refine g_iload_n hC dX5_canMove_2 3 rfl rfl 1 rfl ?_
  refine g_readV hC (ct_X5_isSock l g a o p0 _ h) gY_X5_isSock dX5_canMove_3 6 rfl ml_X5_151 [] [] (by simp only [List.nil_append, List.append_nil]) [.ref (a 0)] rfl rfl rfl 0 9 rfl rfl ⟨Nat.le_of_ble_eq_true rfl, Nat.le_of_ble_eq_true rfl⟩ (Nat.le_of_ble_eq_true rfl) ⟨Nat.le_refl _, Nat.le_refl _⟩ (fun v1 h => ?_)
  refine g_if_eq hC dX5_canMove_6 20 (by decide) 9 rfl (fun c => ?_) (fun c => ?_)
  · have h := h.1 c
    exact jn_X5_canMove_20 hC hZ o p0 p1 h
  · have h := h.2 c
    refine g_iload_n hC dX5_canMove_9 10 rfl rfl 2 rfl ?_
    refine g_readS hC (ct_X5_isDrawer l g p1 _ h) gY_X5_isDrawer dX5_canMove_10 13 rfl ml_X5_168 [] _ rfl [.ref (a 0)] rfl rfl ⟨Nat.le_of_ble_eq_true rfl, Nat.le_of_ble_eq_true rfl⟩ (Nat.le_of_ble_eq_true rfl) ⟨Nat.le_refl _, Nat.le_refl _⟩ (fun v6 h => ?_)
    refine g_if_eq hC dX5_canMove_13 20 (by decide) 16 rfl (fun c => ?_) (fun c => ?_)
    · have h := h.1 c
      exact jn_X5_canMove_20 hC hZ o p0 p1 h
    · have h := h.2 c
      refine g_iconst hC (1 : Int32) dX5_canMove_16 17 rfl iconst_1 ?_
      refine g_goto hC dX5_canMove_17 21 (by decide) ?_
      exact jn_X5_canMove_21 hC hZ o p0 p1 (1 : Int32) h
def wl_X5_passes_22 (post : Int32 → Off → Prop) (K4 : Off → Int32 → Int32 → Int32 → Prop) : Nat → Off → Int32 → Int32 → Int32 → Int32 → Prop
  | 0, _, _, _, _, _ => False
  | n + 1, o, x1, x2, x3, x4 => (vp_in (0 : Int32) 160 ∧ (((o 1 (0 : Int32).toNatClampNeg) ≤ x4 → (∀ v3 : Int32, v3 = x3 + (1 : Int32) → K4 o x1 x2 v3)) ∧ (¬ (o 1 (0 : Int32).toNatClampNeg) ≤ x4 → wp_X5_is (fun v4 => ((v4 = 0 → (∀ v5 : Int32, v5 = x4 + (1 : Int32) → wl_X5_passes_22 post K4 n o x1 x2 x3 v5)) ∧ (¬ v4 = 0 → wp_X5_isPaired (fun v6 => ((¬ v6 = 0 → (∀ v7 : Int32, v7 = x4 + (1 : Int32) → wl_X5_passes_22 post K4 n o x1 x2 x3 v7)) ∧ (v6 = 0 → wp_X5_s (fun v8 => (vp_in (1 : Int32) 160 ∧ ((v8 < (o 1 (1 : Int32).toNatClampNeg) → wp_X5_sendsAway (fun o9 => (∀ v10 : Int32, v10 = x2 + (1 : Int32) → (∀ v11 : Int32, v11 = x4 + (1 : Int32) → wl_X5_passes_22 post K4 n o9 x1 v10 x3 v11))) o x4) ∧ (¬ v8 < (o 1 (1 : Int32).toNatClampNeg) → (∀ v12 : Int32, v12 = x4 + (1 : Int32) → wl_X5_passes_22 post K4 n o x1 x2 x3 v12))))) o x4 (6 : Int32)))) o x4))) o x4 (3 : Int32))))
def wl_X5_passes_4 (post : Int32 → Off → Prop) : Nat → Off → Int32 → Int32 → Int32 → Prop
  | 0, _, _, _, _ => False
  | n + 1, o, x1, x2, x3 => ((x1 ≤ x3 → (vp_in (4 : Int32) 160 ∧ (vp_in (4 : Int32) 160 ∧ (∀ o1 : Off, o1 = st o 1 (4 : Int32).toNatClampNeg ((o 1 (4 : Int32).toNatClampNeg) + x2) → post x2 o1)))) ∧ (¬ x1 ≤ x3 → (vp_in (1 : Int32) 160 ∧ (vp_in (1 : Int32) 160 ∧ (∀ o2 : Off, o2 = st o 1 (1 : Int32).toNatClampNeg ((o 1 (1 : Int32).toNatClampNeg) + (1 : Int32)) → (∃ m : Nat, wl_X5_passes_22 post (fun o x1 x2 x3 => wl_X5_passes_4 post n o x1 x2 x3) m o2 x1 x2 x3 (0 : Int32)))))))
def wp_X5_passes (post : Int32 → Off → Prop) (o : Off) (p0 : Int32) : Prop := (∃ m : Nat, wl_X5_passes_4 post m o p0 (0 : Int32) (0 : Int32))
set_option maxRecDepth 100000 in
set_option maxHeartbeats 4000000 in
theorem lp_X5_passes_22 {x : gX} {l : Launch} {g : gE} {a : Nat → Nat} {o0 : Off} {post : Int32 → Off → Prop} (hC : gC x l cX5_passes 5 RX5 g 2 44 0 0) (hZ : gZ x g (some .int) (modW g a o0) (pI (modW g a) post) 0 0) {K4 : Off → Int32 → Int32 → Int32 → Prop} (hK4 : ∀ (o : Off) (x1 : Int32) (x2 : Int32) (x3 : Int32) , K4 o x1 x2 x3 → G x g 5 0 0 (modW g a o) 4 [(0, .ref (a 0)), (1, .int x1), (2, .int x2), (3, .int x3)] []) : ∀ (n : Nat) (o : Off) (x1 : Int32) (x2 : Int32) (x3 : Int32) (x4 : Int32) , wl_X5_passes_22 post K4 n o x1 x2 x3 x4 → G x g 5 0 0 (modW g a o) 22 [(0, .ref (a 0)), (1, .int x1), (2, .int x2), (3, .int x3), (4, .int x4)] [] := by
  intro n
  induction n with
  | zero =>
    intro o x1 x2 x3 x4 h
    exact h.elim
  | succ n ih =>
    intro o x1 x2 x3 x4 h
    rw [wl_X5_passes_22] at h
    refine g_iload hC dX5_passes_22 24 rfl 4 rfl ?_
    refine g_aload_n hC dX5_passes_24 25 rfl rfl 0 rfl ?_
    refine g_get hC fl_X5_7 dX5_passes_25 28 rfl 0 rfl rfl ?_
    refine g_iconst hC (0 : Int32) dX5_passes_28 29 rfl iconst_0 ?_
    obtain ⟨hi, h⟩ := h
    refine g_iald hC dX5_passes_29 30 rfl 1 rfl hi ?_
    refine g_icmp_ge hC dX5_passes_30 87 (by decide) 33 rfl (fun c => ?_) (fun c => ?_)
    · have h := h.1 c
      obtain ⟨v3, ev3⟩ : ∃ y : Int32, y = x3 + (1 : Int32) := ⟨_, rfl⟩
      have h := h v3 ev3
      refine g_iinc (v2 := v3) (lv2 := [(3, .int v3), (0, .ref (a 0)), (1, .int x1), (2, .int x2), (4, .int x4)]) hC dX5_passes_87 90 rfl 3 rfl (by rw [iconst_1, ev3]) (by decide) rfl ?_
      refine g_goto hC dX5_passes_90 4 (by decide) ?_
      refine g_lv (lv2 := [(0, .ref (a 0)), (1, .int x1), (2, .int x2), (3, .int v3)]) [1, 2, 3, 0] rfl ?_
      exact hK4 o x1 x2 v3 h
    · have h := h.2 c
      refine g_aload_n hC dX5_passes_33 34 rfl rfl 0 rfl ?_
      refine g_iload hC dX5_passes_34 36 rfl 4 rfl ?_
      refine g_iconst hC (3 : Int32) dX5_passes_36 37 rfl iconst_3 ?_
      refine g_readV hC (ct_X5_is l g a o x4 (3 : Int32) _ h) gY_X5_is dX5_passes_37 40 rfl ml_X5_100 [] [] (by simp only [List.nil_append, List.append_nil]) [] rfl rfl rfl 0 9 rfl rfl ⟨Nat.le_of_ble_eq_true rfl, Nat.le_of_ble_eq_true rfl⟩ (Nat.le_of_ble_eq_true rfl) ⟨Nat.le_refl _, Nat.le_refl _⟩ (fun v4 h => ?_)
      refine g_if_eq hC dX5_passes_40 81 (by decide) 43 rfl (fun c => ?_) (fun c => ?_)
      · have h := h.1 c
        obtain ⟨v5, ev5⟩ : ∃ y : Int32, y = x4 + (1 : Int32) := ⟨_, rfl⟩
        have h := h v5 ev5
        refine g_iinc (v2 := v5) (lv2 := [(4, .int v5), (0, .ref (a 0)), (1, .int x1), (2, .int x2), (3, .int x3)]) hC dX5_passes_81 84 rfl 4 rfl (by rw [iconst_1, ev5]) (by decide) rfl ?_
        refine g_goto hC dX5_passes_84 22 (by decide) ?_
        refine g_lv (lv2 := [(0, .ref (a 0)), (1, .int x1), (2, .int x2), (3, .int x3), (4, .int v5)]) [1, 2, 3, 4, 0] rfl ?_
        exact ih o x1 x2 x3 v5 h
      · have h := h.2 c
        refine g_aload_n hC dX5_passes_43 44 rfl rfl 0 rfl ?_
        refine g_iload hC dX5_passes_44 46 rfl 4 rfl ?_
        refine g_readV hC (ct_X5_isPaired l g a o x4 _ h) gY_X5_isPaired dX5_passes_46 49 rfl ml_X5_110 [] [] (by simp only [List.nil_append, List.append_nil]) [] rfl rfl rfl 0 9 rfl rfl ⟨Nat.le_of_ble_eq_true rfl, Nat.le_of_ble_eq_true rfl⟩ (Nat.le_of_ble_eq_true rfl) ⟨Nat.le_refl _, Nat.le_refl _⟩ (fun v6 h => ?_)
        refine g_if_ne hC dX5_passes_49 81 (by decide) 52 rfl (fun c => ?_) (fun c => ?_)
        · have h := h.1 c
          obtain ⟨v7, ev7⟩ : ∃ y : Int32, y = x4 + (1 : Int32) := ⟨_, rfl⟩
          have h := h v7 ev7
          refine g_iinc (v2 := v7) (lv2 := [(4, .int v7), (0, .ref (a 0)), (1, .int x1), (2, .int x2), (3, .int x3)]) hC dX5_passes_81 84 rfl 4 rfl (by rw [iconst_1, ev7]) (by decide) rfl ?_
          refine g_goto hC dX5_passes_84 22 (by decide) ?_
          refine g_lv (lv2 := [(0, .ref (a 0)), (1, .int x1), (2, .int x2), (3, .int x3), (4, .int v7)]) [1, 2, 3, 4, 0] rfl ?_
          exact ih o x1 x2 x3 v7 h
        · have h := h.2 c
          refine g_aload_n hC dX5_passes_52 53 rfl rfl 0 rfl ?_
          refine g_iload hC dX5_passes_53 55 rfl 4 rfl ?_
          refine g_bipush hC (6 : Int32) dX5_passes_55 57 rfl bipush_6 ?_
          refine g_readV hC (ct_X5_s l g a o x4 (6 : Int32) _ h) gY_X5_s dX5_passes_57 60 rfl ml_X5_96 [] [] (by simp only [List.nil_append, List.append_nil]) [] rfl rfl rfl 0 9 rfl rfl ⟨Nat.le_of_ble_eq_true rfl, Nat.le_of_ble_eq_true rfl⟩ (Nat.le_of_ble_eq_true rfl) ⟨Nat.le_refl _, Nat.le_refl _⟩ (fun v8 h => ?_)
          refine g_aload_n hC dX5_passes_60 61 rfl rfl 0 rfl ?_
          refine g_get hC fl_X5_7 dX5_passes_61 64 rfl 0 rfl rfl ?_
          refine g_iconst hC (1 : Int32) dX5_passes_64 65 rfl iconst_1 ?_
          obtain ⟨hi, h⟩ := h
          refine g_iald hC dX5_passes_65 66 rfl 1 rfl hi ?_
          refine g_icmp_lt hC dX5_passes_66 72 (by decide) 69 rfl (fun c => ?_) (fun c => ?_)
          · have h := h.1 c
            refine g_aload_n hC dX5_passes_72 73 rfl rfl 0 rfl ?_
            refine g_iload hC dX5_passes_73 75 rfl 4 rfl ?_
            refine g_ownV hC (ct_X5_sendsAway l g a o x4 _ h) gY_X5_sendsAway dX5_passes_75 78 rfl ml_X5_125 [] rfl rfl rfl 0 9 rfl rfl ⟨Nat.le_of_ble_eq_true rfl, Nat.le_of_ble_eq_true rfl⟩ (Nat.le_of_ble_eq_true rfl) ⟨Nat.le_refl _, Nat.le_refl _⟩ (fun o9 h => ?_)
            obtain ⟨v10, ev10⟩ : ∃ y : Int32, y = x2 + (1 : Int32) := ⟨_, rfl⟩
            have h := h v10 ev10
            refine g_iinc (v2 := v10) (lv2 := [(2, .int v10), (0, .ref (a 0)), (1, .int x1), (3, .int x3), (4, .int x4)]) hC dX5_passes_78 81 rfl 2 rfl (by rw [iconst_1, ev10]) (by decide) rfl ?_
            obtain ⟨v11, ev11⟩ : ∃ y : Int32, y = x4 + (1 : Int32) := ⟨_, rfl⟩
            have h := h v11 ev11
            refine g_iinc (v2 := v11) (lv2 := [(4, .int v11), (2, .int v10), (0, .ref (a 0)), (1, .int x1), (3, .int x3)]) hC dX5_passes_81 84 rfl 4 rfl (by rw [iconst_1, ev11]) (by decide) rfl ?_
            refine g_goto hC dX5_passes_84 22 (by decide) ?_
            refine g_lv (lv2 := [(0, .ref (a 0)), (1, .int x1), (2, .int v10), (3, .int x3), (4, .int v11)]) [2, 3, 1, 4, 0] rfl ?_
            exact ih o9 x1 v10 x3 v11 h
          · have h := h.2 c
            refine g_goto hC dX5_passes_69 81 (by decide) ?_
            obtain ⟨v12, ev12⟩ : ∃ y : Int32, y = x4 + (1 : Int32) := ⟨_, rfl⟩
            have h := h v12 ev12
            refine g_iinc (v2 := v12) (lv2 := [(4, .int v12), (0, .ref (a 0)), (1, .int x1), (2, .int x2), (3, .int x3)]) hC dX5_passes_81 84 rfl 4 rfl (by rw [iconst_1, ev12]) (by decide) rfl ?_
            refine g_goto hC dX5_passes_84 22 (by decide) ?_
            refine g_lv (lv2 := [(0, .ref (a 0)), (1, .int x1), (2, .int x2), (3, .int x3), (4, .int v12)]) [1, 2, 3, 4, 0] rfl ?_
            exact ih o x1 x2 x3 v12 h
set_option maxRecDepth 100000 in
set_option maxHeartbeats 4000000 in
theorem lp_X5_passes_4 {x : gX} {l : Launch} {g : gE} {a : Nat → Nat} {o0 : Off} {post : Int32 → Off → Prop} (hC : gC x l cX5_passes 5 RX5 g 2 44 0 0) (hZ : gZ x g (some .int) (modW g a o0) (pI (modW g a) post) 0 0) : ∀ (n : Nat) (o : Off) (x1 : Int32) (x2 : Int32) (x3 : Int32) , wl_X5_passes_4 post n o x1 x2 x3 → G x g 5 0 0 (modW g a o) 4 [(0, .ref (a 0)), (1, .int x1), (2, .int x2), (3, .int x3)] [] := by
  intro n
  induction n with
  | zero =>
    intro o x1 x2 x3 h
    exact h.elim
  | succ n ih =>
    intro o x1 x2 x3 h
    rw [wl_X5_passes_4] at h
    refine g_iload_n hC dX5_passes_4 5 rfl rfl 3 rfl ?_
    refine g_iload_n hC dX5_passes_5 6 rfl rfl 1 rfl ?_
    refine g_icmp_ge hC dX5_passes_6 93 (by decide) 9 rfl (fun c => ?_) (fun c => ?_)
    · have h := h.1 c
      refine g_aload_n hC dX5_passes_93 94 rfl rfl 0 rfl ?_
      refine g_get hC fl_X5_7 dX5_passes_94 97 rfl 0 rfl rfl ?_
      refine g_iconst hC (4 : Int32) dX5_passes_97 98 rfl iconst_4 ?_
      refine g_dup2 hC dX5_passes_98 99 rfl rfl rfl ?_
      obtain ⟨hi, h⟩ := h
      refine g_iald hC dX5_passes_99 100 rfl 1 rfl hi ?_
      refine g_iload_n hC dX5_passes_100 101 rfl rfl 2 rfl ?_
      refine g_iadd hC dX5_passes_101 102 rfl ?_
      obtain ⟨hi, h⟩ := h
      obtain ⟨o1, eo1⟩ : ∃ y : Off, y = st o 1 (4 : Int32).toNatClampNeg ((o 1 (4 : Int32).toNatClampNeg) + x2) := ⟨_, rfl⟩
      have h := h o1 eo1
      refine g_iast hC dX5_passes_102 103 rfl 1 rfl hi (modW_s1 eo1) ?_
      refine g_iload_n hC dX5_passes_103 104 rfl rfl 2 rfl ?_
      exact g_iret hC hZ dX5_passes_104 ⟨_, _, rfl, rfl, h⟩
    · have h := h.2 c
      refine g_aload_n hC dX5_passes_9 10 rfl rfl 0 rfl ?_
      refine g_get hC fl_X5_7 dX5_passes_10 13 rfl 0 rfl rfl ?_
      refine g_iconst hC (1 : Int32) dX5_passes_13 14 rfl iconst_1 ?_
      refine g_dup2 hC dX5_passes_14 15 rfl rfl rfl ?_
      obtain ⟨hi, h⟩ := h
      refine g_iald hC dX5_passes_15 16 rfl 1 rfl hi ?_
      refine g_iconst hC (1 : Int32) dX5_passes_16 17 rfl iconst_1 ?_
      refine g_iadd hC dX5_passes_17 18 rfl ?_
      obtain ⟨hi, h⟩ := h
      obtain ⟨o2, eo2⟩ : ∃ y : Off, y = st o 1 (1 : Int32).toNatClampNeg ((o 1 (1 : Int32).toNatClampNeg) + (1 : Int32)) := ⟨_, rfl⟩
      have h := h o2 eo2
      refine g_iast hC dX5_passes_18 19 rfl 1 rfl hi (modW_s1 eo2) ?_
      refine g_iconst hC (0 : Int32) dX5_passes_19 20 rfl iconst_0 ?_
      refine g_istore (lv2 := [(4, .int (0 : Int32)), (0, .ref (a 0)), (1, .int x1), (2, .int x2), (3, .int x3)]) hC dX5_passes_20 22 rfl (by decide) rfl ?_
      refine g_lv (lv2 := [(0, .ref (a 0)), (1, .int x1), (2, .int x2), (3, .int x3), (4, .int (0 : Int32))]) [1, 2, 3, 4, 0] rfl ?_
      obtain ⟨m, h⟩ := h
      exact lp_X5_passes_22 hC hZ ih m o2 x1 x2 x3 (0 : Int32) h
set_option maxRecDepth 100000 in
set_option maxHeartbeats 4000000 in
theorem ct_X5_passes (l : Launch) (g : gE) (a : Nat → Nat) (o : Off) (p0 : Int32) (post : Int32 → Off → Prop) (h : wp_X5_passes post o p0) : Fn l g yX5_passes cX5_passes 5 (some .int) 2 44 0 0 (modW g a o) [.ref (a 0), .int p0] (pI (modW g a) post) := by
  refine Fn.of (by decide) (Nat.le_of_ble_eq_true rfl) (fun x hC hZ => ?_)
  rw [wp_X5_passes] at h
  show G x g 5 0 0 (modW g a o) 0 [(0, .ref (a 0)), (1, .int p0)] []
  refine g_iconst hC (0 : Int32) dX5_passes_0 1 rfl iconst_0 ?_
  refine g_istore_n (lv2 := [(2, .int (0 : Int32)), (0, .ref (a 0)), (1, .int p0)]) hC dX5_passes_1 2 rfl rfl (by decide) rfl ?_
  refine g_iconst hC (0 : Int32) dX5_passes_2 3 rfl iconst_0 ?_
  refine g_istore_n (lv2 := [(3, .int (0 : Int32)), (2, .int (0 : Int32)), (0, .ref (a 0)), (1, .int p0)]) hC dX5_passes_3 4 rfl rfl (by decide) rfl ?_
  refine g_lv (lv2 := [(0, .ref (a 0)), (1, .int p0), (2, .int (0 : Int32)), (3, .int (0 : Int32))]) [2, 3, 1, 0] rfl ?_
  obtain ⟨m, h⟩ := h
  exact lp_X5_passes_4 hC hZ m o p0 (0 : Int32) (0 : Int32) h
def wp_X5_passDays (post : Int32 → Off → Prop) (o : Off) (p0 : Int32) : Prop := wp_X5_begin (fun o1 => wp_X5_in (fun v2 => ((v2 = 0 → wp_X5_fail (fun v4 o3 => post v4 o3) o1 (1 : Int32)) ∧ (¬ v2 = 0 → wp_X5_passes (fun v6 o5 => wp_X5_commit (fun v8 o7 => post v8 o7) o5 v6) o1 p0))) p0 (1 : Int32) (20 : Int32)) o 
set_option maxRecDepth 100000 in
set_option maxHeartbeats 4000000 in
theorem ct_X5_passDays (l : Launch) (g : gE) (a : Nat → Nat) (o : Off) (p0 : Int32) (post : Int32 → Off → Prop) (h : wp_X5_passDays post o p0) : Fn l g yX5_passDays cX5_passDays 2 (some .int) 3 68 0 0 (modW g a o) [.ref (a 0), .int p0] (pI (modW g a) post) := by
  refine Fn.of (by decide) (Nat.le_of_ble_eq_true rfl) (fun x hC hZ => ?_)
  rw [wp_X5_passDays] at h
  show G x g 2 0 0 (modW g a o) 0 [(0, .ref (a 0)), (1, .int p0)] []
  refine g_aload_n hC dX5_passDays_0 1 rfl rfl 0 rfl ?_
  refine g_ownV hC (ct_X5_begin l g a o  _ h) gY_X5_begin dX5_passDays_1 4 rfl ml_X5_129 [] rfl rfl rfl 0 9 rfl rfl ⟨Nat.le_of_ble_eq_true rfl, Nat.le_of_ble_eq_true rfl⟩ (Nat.le_of_ble_eq_true rfl) ⟨Nat.le_refl _, Nat.le_refl _⟩ (fun o1 h => ?_)
  refine g_iload_n hC dX5_passDays_4 5 rfl rfl 1 rfl ?_
  refine g_iconst hC (1 : Int32) dX5_passDays_5 6 rfl iconst_1 ?_
  refine g_bipush hC (20 : Int32) dX5_passDays_6 8 rfl bipush_20 ?_
  refine g_readS hC (ct_X5_in l g p0 (1 : Int32) (20 : Int32) _ h) gY_X5_in dX5_passDays_8 11 rfl ml_X5_92 [] _ rfl [] rfl rfl ⟨Nat.le_of_ble_eq_true rfl, Nat.le_of_ble_eq_true rfl⟩ (Nat.le_of_ble_eq_true rfl) ⟨Nat.le_refl _, Nat.le_refl _⟩ (fun v2 h => ?_)
  refine g_if_eq hC dX5_passDays_11 26 (by decide) 14 rfl (fun c => ?_) (fun c => ?_)
  · have h := h.1 c
    refine g_aload_n hC dX5_passDays_26 27 rfl rfl 0 rfl ?_
    refine g_iconst hC (1 : Int32) dX5_passDays_27 28 rfl iconst_1 ?_
    refine g_ownI hC (ct_X5_fail l g a o1 (1 : Int32) _ h) gY_X5_fail dX5_passDays_28 31 rfl ml_X5_88 [] rfl rfl rfl 0 9 rfl rfl ⟨Nat.le_of_ble_eq_true rfl, Nat.le_of_ble_eq_true rfl⟩ (Nat.le_of_ble_eq_true rfl) ⟨Nat.le_refl _, Nat.le_refl _⟩ (fun v4 o3 h => ?_)
    exact g_iret hC hZ dX5_passDays_31 ⟨_, _, rfl, rfl, h⟩
  · have h := h.2 c
    refine g_aload_n hC dX5_passDays_14 15 rfl rfl 0 rfl ?_
    refine g_aload_n hC dX5_passDays_15 16 rfl rfl 0 rfl ?_
    refine g_iload_n hC dX5_passDays_16 17 rfl rfl 1 rfl ?_
    refine g_ownI hC (ct_X5_passes l g a o1 p0 _ h) gY_X5_passes dX5_passDays_17 20 rfl ml_X5_278 [.ref (a 0)] rfl rfl rfl 0 9 rfl rfl ⟨Nat.le_of_ble_eq_true rfl, Nat.le_of_ble_eq_true rfl⟩ (Nat.le_of_ble_eq_true rfl) ⟨Nat.le_refl _, Nat.le_refl _⟩ (fun v6 o5 h => ?_)
    refine g_ownI hC (ct_X5_commit l g a o5 v6 _ h) gY_X5_commit dX5_passDays_20 23 rfl ml_X5_145 [] rfl rfl rfl 0 9 rfl rfl ⟨Nat.le_of_ble_eq_true rfl, Nat.le_of_ble_eq_true rfl⟩ (Nat.le_of_ble_eq_true rfl) ⟨Nat.le_refl _, Nat.le_refl _⟩ (fun v8 o7 h => ?_)
    refine g_goto hC dX5_passDays_23 31 (by decide) ?_
    exact g_iret hC hZ dX5_passDays_31 ⟨_, _, rfl, rfl, h⟩
def wp_X5_day (post : Int32 → Off → Prop) (o : Off) : Prop := (vp_in (1 : Int32) 160 ∧ wp_X5_plain (fun v2 o1 => post v2 o1) o (o 1 (1 : Int32).toNatClampNeg))
set_option maxRecDepth 100000 in
set_option maxHeartbeats 4000000 in
theorem ct_X5_day (l : Launch) (g : gE) (a : Nat → Nat) (o : Off) (post : Int32 → Off → Prop) (h : wp_X5_day post o ) : Fn l g yX5_day cX5_day 1 (some .int) 1 21 0 0 (modW g a o) [.ref (a 0)] (pI (modW g a) post) := by
  refine Fn.of (by decide) (Nat.le_of_ble_eq_true rfl) (fun x hC hZ => ?_)
  rw [wp_X5_day] at h
  show G x g 1 0 0 (modW g a o) 0 [(0, .ref (a 0))] []
  refine g_aload_n hC dX5_day_0 1 rfl rfl 0 rfl ?_
  refine g_aload_n hC dX5_day_1 2 rfl rfl 0 rfl ?_
  refine g_get hC fl_X5_7 dX5_day_2 5 rfl 0 rfl rfl ?_
  refine g_iconst hC (1 : Int32) dX5_day_5 6 rfl iconst_1 ?_
  obtain ⟨hi, h⟩ := h
  refine g_iald hC dX5_day_6 7 rfl 1 rfl hi ?_
  refine g_ownI hC (ct_X5_plain l g a o (o 1 (1 : Int32).toNatClampNeg) _ h) gY_X5_plain dX5_day_7 10 rfl ml_X5_148 [] rfl rfl rfl 0 9 rfl rfl ⟨Nat.le_of_ble_eq_true rfl, Nat.le_of_ble_eq_true rfl⟩ (Nat.le_of_ble_eq_true rfl) ⟨Nat.le_refl _, Nat.le_refl _⟩ (fun v2 o1 h => ?_)
  exact g_iret hC hZ dX5_day_10 ⟨_, _, rfl, rfl, h⟩
def wp_X5_wouldExpel (post : Int32 → Off → Prop) (o : Off) (p0 : Int32) : Prop := wp_X5_in (fun v1 => wp_X5_checked (fun v3 o2 => ((v3 ≤ 0 → wp_X5_copy (fun o4 => wp_X5_passes (fun v6 o5 => wp_X5_copy (fun o7 => post v6 o7) o5 3 1 (0 : Int32) (0 : Int32)) o4 p0) o2 1 3 (0 : Int32) (0 : Int32)) ∧ (¬ v3 ≤ 0 → post (0 : Int32) o2))) o v1) p0 (1 : Int32) (20 : Int32)
set_option maxRecDepth 100000 in
set_option maxHeartbeats 4000000 in
theorem ct_X5_wouldExpel (l : Launch) (g : gE) (a : Nat → Nat) (o : Off) (p0 : Int32) (post : Int32 → Off → Prop) (h : wp_X5_wouldExpel post o p0) : Fn l g yX5_wouldExpel cX5_wouldExpel 3 (some .int) 3 68 0 0 (modW g a o) [.ref (a 0), .int p0] (pI (modW g a) post) := by
  refine Fn.of (by decide) (Nat.le_of_ble_eq_true rfl) (fun x hC hZ => ?_)
  rw [wp_X5_wouldExpel] at h
  show G x g 3 0 0 (modW g a o) 0 [(0, .ref (a 0)), (1, .int p0)] []
  refine g_aload_n hC dX5_wouldExpel_0 1 rfl rfl 0 rfl ?_
  refine g_iload_n hC dX5_wouldExpel_1 2 rfl rfl 1 rfl ?_
  refine g_iconst hC (1 : Int32) dX5_wouldExpel_2 3 rfl iconst_1 ?_
  refine g_bipush hC (20 : Int32) dX5_wouldExpel_3 5 rfl bipush_20 ?_
  refine g_readS hC (ct_X5_in l g p0 (1 : Int32) (20 : Int32) _ h) gY_X5_in dX5_wouldExpel_5 8 rfl ml_X5_92 [] _ rfl [.ref (a 0)] rfl rfl ⟨Nat.le_of_ble_eq_true rfl, Nat.le_of_ble_eq_true rfl⟩ (Nat.le_of_ble_eq_true rfl) ⟨Nat.le_refl _, Nat.le_refl _⟩ (fun v1 h => ?_)
  refine g_ownI hC (ct_X5_checked l g a o v1 _ h) gY_X5_checked dX5_wouldExpel_8 11 rfl ml_X5_154 [] rfl rfl rfl 0 9 rfl rfl ⟨Nat.le_of_ble_eq_true rfl, Nat.le_of_ble_eq_true rfl⟩ (Nat.le_of_ble_eq_true rfl) ⟨Nat.le_refl _, Nat.le_refl _⟩ (fun v3 o2 h => ?_)
  refine g_if_le hC dX5_wouldExpel_11 16 (by decide) 14 rfl (fun c => ?_) (fun c => ?_)
  · have h := h.1 c
    refine g_aload_n hC dX5_wouldExpel_16 17 rfl rfl 0 rfl ?_
    refine g_get hC fl_X5_7 dX5_wouldExpel_17 20 rfl 0 rfl rfl ?_
    refine g_iconst hC (0 : Int32) dX5_wouldExpel_20 21 rfl iconst_0 ?_
    refine g_aload_n hC dX5_wouldExpel_21 22 rfl rfl 0 rfl ?_
    refine g_get hC fl_X5_16 dX5_wouldExpel_22 25 rfl 0 rfl rfl ?_
    refine g_iconst hC (0 : Int32) dX5_wouldExpel_25 26 rfl iconst_0 ?_
    refine g_statV hC (ct_X5_copy l g a o2 1 3 (0 : Int32) (0 : Int32) _ h) gY_X5_copy dX5_wouldExpel_26 29 rfl ml_X5_84 [] rfl rfl ⟨Nat.le_of_ble_eq_true rfl, Nat.le_of_ble_eq_true rfl⟩ (Nat.le_of_ble_eq_true rfl) ⟨Nat.le_refl _, Nat.le_refl _⟩ (fun o4 h => ?_)
    refine g_aload_n hC dX5_wouldExpel_29 30 rfl rfl 0 rfl ?_
    refine g_iload_n hC dX5_wouldExpel_30 31 rfl rfl 1 rfl ?_
    refine g_ownI hC (ct_X5_passes l g a o4 p0 _ h) gY_X5_passes dX5_wouldExpel_31 34 rfl ml_X5_278 [] rfl rfl rfl 0 9 rfl rfl ⟨Nat.le_of_ble_eq_true rfl, Nat.le_of_ble_eq_true rfl⟩ (Nat.le_of_ble_eq_true rfl) ⟨Nat.le_refl _, Nat.le_refl _⟩ (fun v6 o5 h => ?_)
    refine g_istore_n (lv2 := [(2, .int v6), (0, .ref (a 0)), (1, .int p0)]) hC dX5_wouldExpel_34 35 rfl rfl (by decide) rfl ?_
    refine g_aload_n hC dX5_wouldExpel_35 36 rfl rfl 1 rfl ?_
    refine g_get hC fl_X5_16 dX5_wouldExpel_36 39 rfl 0 rfl rfl ?_
    refine g_iconst hC (0 : Int32) dX5_wouldExpel_39 40 rfl iconst_0 ?_
    refine g_aload_n hC dX5_wouldExpel_40 41 rfl rfl 1 rfl ?_
    refine g_get hC fl_X5_7 dX5_wouldExpel_41 44 rfl 0 rfl rfl ?_
    refine g_iconst hC (0 : Int32) dX5_wouldExpel_44 45 rfl iconst_0 ?_
    refine g_statV hC (ct_X5_copy l g a o5 3 1 (0 : Int32) (0 : Int32) _ h) gY_X5_copy dX5_wouldExpel_45 48 rfl ml_X5_84 [] rfl rfl ⟨Nat.le_of_ble_eq_true rfl, Nat.le_of_ble_eq_true rfl⟩ (Nat.le_of_ble_eq_true rfl) ⟨Nat.le_refl _, Nat.le_refl _⟩ (fun o7 h => ?_)
    refine g_iload_n hC dX5_wouldExpel_48 49 rfl rfl 0 rfl ?_
    exact g_iret hC hZ dX5_wouldExpel_49 ⟨_, _, rfl, rfl, h⟩
  · have h := h.2 c
    refine g_iconst hC (0 : Int32) dX5_wouldExpel_14 15 rfl iconst_0 ?_
    exact g_iret hC hZ dX5_wouldExpel_15 ⟨_, _, rfl, rfl, h⟩
def wp_X5_admittedCount (post : Int32 → Off → Prop) (o : Off) : Prop := (vp_in (2 : Int32) 160 ∧ wp_X5_plain (fun v2 o1 => post v2 o1) o (o 1 (2 : Int32).toNatClampNeg))
set_option maxRecDepth 100000 in
set_option maxHeartbeats 4000000 in
theorem ct_X5_admittedCount (l : Launch) (g : gE) (a : Nat → Nat) (o : Off) (post : Int32 → Off → Prop) (h : wp_X5_admittedCount post o ) : Fn l g yX5_admittedCount cX5_admittedCount 1 (some .int) 1 21 0 0 (modW g a o) [.ref (a 0)] (pI (modW g a) post) := by
  refine Fn.of (by decide) (Nat.le_of_ble_eq_true rfl) (fun x hC hZ => ?_)
  rw [wp_X5_admittedCount] at h
  show G x g 1 0 0 (modW g a o) 0 [(0, .ref (a 0))] []
  refine g_aload_n hC dX5_admittedCount_0 1 rfl rfl 0 rfl ?_
  refine g_aload_n hC dX5_admittedCount_1 2 rfl rfl 0 rfl ?_
  refine g_get hC fl_X5_7 dX5_admittedCount_2 5 rfl 0 rfl rfl ?_
  refine g_iconst hC (2 : Int32) dX5_admittedCount_5 6 rfl iconst_2 ?_
  obtain ⟨hi, h⟩ := h
  refine g_iald hC dX5_admittedCount_6 7 rfl 1 rfl hi ?_
  refine g_ownI hC (ct_X5_plain l g a o (o 1 (2 : Int32).toNatClampNeg) _ h) gY_X5_plain dX5_admittedCount_7 10 rfl ml_X5_148 [] rfl rfl rfl 0 9 rfl rfl ⟨Nat.le_of_ble_eq_true rfl, Nat.le_of_ble_eq_true rfl⟩ (Nat.le_of_ble_eq_true rfl) ⟨Nat.le_refl _, Nat.le_refl _⟩ (fun v2 o1 h => ?_)
  exact g_iret hC hZ dX5_admittedCount_10 ⟨_, _, rfl, rfl, h⟩
def wp_X5_refusedCount (post : Int32 → Off → Prop) (o : Off) : Prop := (vp_in (3 : Int32) 160 ∧ wp_X5_plain (fun v2 o1 => post v2 o1) o (o 1 (3 : Int32).toNatClampNeg))
set_option maxRecDepth 100000 in
set_option maxHeartbeats 4000000 in
theorem ct_X5_refusedCount (l : Launch) (g : gE) (a : Nat → Nat) (o : Off) (post : Int32 → Off → Prop) (h : wp_X5_refusedCount post o ) : Fn l g yX5_refusedCount cX5_refusedCount 1 (some .int) 1 21 0 0 (modW g a o) [.ref (a 0)] (pI (modW g a) post) := by
  refine Fn.of (by decide) (Nat.le_of_ble_eq_true rfl) (fun x hC hZ => ?_)
  rw [wp_X5_refusedCount] at h
  show G x g 1 0 0 (modW g a o) 0 [(0, .ref (a 0))] []
  refine g_aload_n hC dX5_refusedCount_0 1 rfl rfl 0 rfl ?_
  refine g_aload_n hC dX5_refusedCount_1 2 rfl rfl 0 rfl ?_
  refine g_get hC fl_X5_7 dX5_refusedCount_2 5 rfl 0 rfl rfl ?_
  refine g_iconst hC (3 : Int32) dX5_refusedCount_5 6 rfl iconst_3 ?_
  obtain ⟨hi, h⟩ := h
  refine g_iald hC dX5_refusedCount_6 7 rfl 1 rfl hi ?_
  refine g_ownI hC (ct_X5_plain l g a o (o 1 (3 : Int32).toNatClampNeg) _ h) gY_X5_plain dX5_refusedCount_7 10 rfl ml_X5_148 [] rfl rfl rfl 0 9 rfl rfl ⟨Nat.le_of_ble_eq_true rfl, Nat.le_of_ble_eq_true rfl⟩ (Nat.le_of_ble_eq_true rfl) ⟨Nat.le_refl _, Nat.le_refl _⟩ (fun v2 o1 h => ?_)
  exact g_iret hC hZ dX5_refusedCount_10 ⟨_, _, rfl, rfl, h⟩
def wp_X5_expelledCount (post : Int32 → Off → Prop) (o : Off) : Prop := (vp_in (4 : Int32) 160 ∧ wp_X5_plain (fun v2 o1 => post v2 o1) o (o 1 (4 : Int32).toNatClampNeg))
set_option maxRecDepth 100000 in
set_option maxHeartbeats 4000000 in
theorem ct_X5_expelledCount (l : Launch) (g : gE) (a : Nat → Nat) (o : Off) (post : Int32 → Off → Prop) (h : wp_X5_expelledCount post o ) : Fn l g yX5_expelledCount cX5_expelledCount 1 (some .int) 1 21 0 0 (modW g a o) [.ref (a 0)] (pI (modW g a) post) := by
  refine Fn.of (by decide) (Nat.le_of_ble_eq_true rfl) (fun x hC hZ => ?_)
  rw [wp_X5_expelledCount] at h
  show G x g 1 0 0 (modW g a o) 0 [(0, .ref (a 0))] []
  refine g_aload_n hC dX5_expelledCount_0 1 rfl rfl 0 rfl ?_
  refine g_aload_n hC dX5_expelledCount_1 2 rfl rfl 0 rfl ?_
  refine g_get hC fl_X5_7 dX5_expelledCount_2 5 rfl 0 rfl rfl ?_
  refine g_iconst hC (4 : Int32) dX5_expelledCount_5 6 rfl iconst_4 ?_
  obtain ⟨hi, h⟩ := h
  refine g_iald hC dX5_expelledCount_6 7 rfl 1 rfl hi ?_
  refine g_ownI hC (ct_X5_plain l g a o (o 1 (4 : Int32).toNatClampNeg) _ h) gY_X5_plain dX5_expelledCount_7 10 rfl ml_X5_148 [] rfl rfl rfl 0 9 rfl rfl ⟨Nat.le_of_ble_eq_true rfl, Nat.le_of_ble_eq_true rfl⟩ (Nat.le_of_ble_eq_true rfl) ⟨Nat.le_refl _, Nat.le_refl _⟩ (fun v2 o1 h => ?_)
  exact g_iret hC hZ dX5_expelledCount_10 ⟨_, _, rfl, rfl, h⟩
def wp_X5_admissionBalance (post : Int32 → Off → Prop) (o : Off) : Prop := (vp_in (2 : Int32) 160 ∧ (vp_in (4 : Int32) 160 ∧ wp_X5_plain (fun v2 o1 => post v2 o1) o ((o 1 (2 : Int32).toNatClampNeg) - (o 1 (4 : Int32).toNatClampNeg))))
set_option maxRecDepth 100000 in
set_option maxHeartbeats 4000000 in
theorem ct_X5_admissionBalance (l : Launch) (g : gE) (a : Nat → Nat) (o : Off) (post : Int32 → Off → Prop) (h : wp_X5_admissionBalance post o ) : Fn l g yX5_admissionBalance cX5_admissionBalance 1 (some .int) 1 21 0 0 (modW g a o) [.ref (a 0)] (pI (modW g a) post) := by
  refine Fn.of (by decide) (Nat.le_of_ble_eq_true rfl) (fun x hC hZ => ?_)
  rw [wp_X5_admissionBalance] at h
  show G x g 1 0 0 (modW g a o) 0 [(0, .ref (a 0))] []
  refine g_aload_n hC dX5_admissionBalance_0 1 rfl rfl 0 rfl ?_
  refine g_aload_n hC dX5_admissionBalance_1 2 rfl rfl 0 rfl ?_
  refine g_get hC fl_X5_7 dX5_admissionBalance_2 5 rfl 0 rfl rfl ?_
  refine g_iconst hC (2 : Int32) dX5_admissionBalance_5 6 rfl iconst_2 ?_
  obtain ⟨hi, h⟩ := h
  refine g_iald hC dX5_admissionBalance_6 7 rfl 1 rfl hi ?_
  refine g_aload_n hC dX5_admissionBalance_7 8 rfl rfl 0 rfl ?_
  refine g_get hC fl_X5_7 dX5_admissionBalance_8 11 rfl 0 rfl rfl ?_
  refine g_iconst hC (4 : Int32) dX5_admissionBalance_11 12 rfl iconst_4 ?_
  obtain ⟨hi, h⟩ := h
  refine g_iald hC dX5_admissionBalance_12 13 rfl 1 rfl hi ?_
  refine g_isub hC dX5_admissionBalance_13 14 rfl ?_
  refine g_ownI hC (ct_X5_plain l g a o ((o 1 (2 : Int32).toNatClampNeg) - (o 1 (4 : Int32).toNatClampNeg)) _ h) gY_X5_plain dX5_admissionBalance_14 17 rfl ml_X5_148 [] rfl rfl rfl 0 9 rfl rfl ⟨Nat.le_of_ble_eq_true rfl, Nat.le_of_ble_eq_true rfl⟩ (Nat.le_of_ble_eq_true rfl) ⟨Nat.le_refl _, Nat.le_refl _⟩ (fun v2 o1 h => ?_)
  exact g_iret hC hZ dX5_admissionBalance_17 ⟨_, _, rfl, rfl, h⟩
def wp_X5_isFuller (post : Int32 → Prop) (o : Off) (p0 : Int32) (p1 : Int32) : Prop := wp_X5_livingIn (fun v1 => wp_X5_livingIn (fun v2 => ((v1 = v2 → wp_X5_pairsIn (fun v3 => wp_X5_pairsIn (fun v4 => ((v4 < v3 → post (1 : Int32)) ∧ (¬ v4 < v3 → wp_X5_pairsIn (fun v5 => wp_X5_pairsIn (fun v6 => ((¬ v5 = v6 → post (0 : Int32)) ∧ (v5 = v6 → ((p1 ≤ p0 → post (0 : Int32)) ∧ (¬ p1 ≤ p0 → post (1 : Int32)))))) o p1) o p0))) o p1) o p0) ∧ (¬ v1 = v2 → wp_X5_livingIn (fun v7 => wp_X5_livingIn (fun v8 => ((v7 ≤ v8 → post (0 : Int32)) ∧ (¬ v7 ≤ v8 → post (1 : Int32)))) o p1) o p0))) o p1) o p0
set_option maxRecDepth 100000 in
set_option maxHeartbeats 4000000 in
theorem ct_X5_isFuller (l : Launch) (g : gE) (a : Nat → Nat) (o : Off) (p0 : Int32) (p1 : Int32) (post : Int32 → Prop) (h : wp_X5_isFuller post o p0 p1) : Fn l g yX5_isFuller cX5_isFuller 3 (some .boolean) 4 89 0 0 (modW g a o) [.ref (a 0), .int p0, .int p1] (pR (modW g a o) post) := by
  refine Fn.of (by decide) (Nat.le_of_ble_eq_true rfl) (fun x hC hZ => ?_)
  rw [wp_X5_isFuller] at h
  show G x g 3 0 0 (modW g a o) 0 [(0, .ref (a 0)), (1, .int p0), (2, .int p1)] []
  refine g_aload_n hC dX5_isFuller_0 1 rfl rfl 0 rfl ?_
  refine g_iload_n hC dX5_isFuller_1 2 rfl rfl 1 rfl ?_
  refine g_readV hC (ct_X5_livingIn l g a o p0 _ h) gY_X5_livingIn dX5_isFuller_2 5 rfl ml_X5_195 [] [] (by simp only [List.nil_append, List.append_nil]) [] rfl rfl rfl 0 9 rfl rfl ⟨Nat.le_of_ble_eq_true rfl, Nat.le_of_ble_eq_true rfl⟩ (Nat.le_of_ble_eq_true rfl) ⟨Nat.le_refl _, Nat.le_refl _⟩ (fun v1 h => ?_)
  refine g_aload_n hC dX5_isFuller_5 6 rfl rfl 0 rfl ?_
  refine g_iload_n hC dX5_isFuller_6 7 rfl rfl 2 rfl ?_
  refine g_readV hC (ct_X5_livingIn l g a o p1 _ h) gY_X5_livingIn dX5_isFuller_7 10 rfl ml_X5_195 [] [] (by simp only [List.nil_append, List.append_nil]) [.int v1] rfl rfl rfl 0 9 rfl rfl ⟨Nat.le_of_ble_eq_true rfl, Nat.le_of_ble_eq_true rfl⟩ (Nat.le_of_ble_eq_true rfl) ⟨Nat.le_refl _, Nat.le_refl _⟩ (fun v2 h => ?_)
  refine g_icmp_eq hC dX5_isFuller_10 32 (by decide) 13 rfl (fun c => ?_) (fun c => ?_)
  · have h := h.1 c
    refine g_aload_n hC dX5_isFuller_32 33 rfl rfl 0 rfl ?_
    refine g_iload_n hC dX5_isFuller_33 34 rfl rfl 1 rfl ?_
    refine g_readV hC (ct_X5_pairsIn l g a o p0 _ h) gY_X5_pairsIn dX5_isFuller_34 37 rfl ml_X5_231 [] [] (by simp only [List.nil_append, List.append_nil]) [] rfl rfl rfl 0 9 rfl rfl ⟨Nat.le_of_ble_eq_true rfl, Nat.le_of_ble_eq_true rfl⟩ (Nat.le_of_ble_eq_true rfl) ⟨Nat.le_refl _, Nat.le_refl _⟩ (fun v3 h => ?_)
    refine g_aload_n hC dX5_isFuller_37 38 rfl rfl 0 rfl ?_
    refine g_iload_n hC dX5_isFuller_38 39 rfl rfl 2 rfl ?_
    refine g_readV hC (ct_X5_pairsIn l g a o p1 _ h) gY_X5_pairsIn dX5_isFuller_39 42 rfl ml_X5_231 [] [] (by simp only [List.nil_append, List.append_nil]) [.int v3] rfl rfl rfl 0 9 rfl rfl ⟨Nat.le_of_ble_eq_true rfl, Nat.le_of_ble_eq_true rfl⟩ (Nat.le_of_ble_eq_true rfl) ⟨Nat.le_refl _, Nat.le_refl _⟩ (fun v4 h => ?_)
    refine g_icmp_gt hC dX5_isFuller_42 63 (by decide) 45 rfl (fun c => ?_) (fun c => ?_)
    · have h := h.1 c
      refine g_iconst hC (1 : Int32) dX5_isFuller_63 64 rfl iconst_1 ?_
      refine g_goto hC dX5_isFuller_64 68 (by decide) ?_
      exact g_zret hC hZ rfl dX5_isFuller_68 ⟨_, rfl, rfl, h⟩
    · have h := h.2 c
      refine g_aload_n hC dX5_isFuller_45 46 rfl rfl 0 rfl ?_
      refine g_iload_n hC dX5_isFuller_46 47 rfl rfl 1 rfl ?_
      refine g_readV hC (ct_X5_pairsIn l g a o p0 _ h) gY_X5_pairsIn dX5_isFuller_47 50 rfl ml_X5_231 [] [] (by simp only [List.nil_append, List.append_nil]) [] rfl rfl rfl 0 9 rfl rfl ⟨Nat.le_of_ble_eq_true rfl, Nat.le_of_ble_eq_true rfl⟩ (Nat.le_of_ble_eq_true rfl) ⟨Nat.le_refl _, Nat.le_refl _⟩ (fun v5 h => ?_)
      refine g_aload_n hC dX5_isFuller_50 51 rfl rfl 0 rfl ?_
      refine g_iload_n hC dX5_isFuller_51 52 rfl rfl 2 rfl ?_
      refine g_readV hC (ct_X5_pairsIn l g a o p1 _ h) gY_X5_pairsIn dX5_isFuller_52 55 rfl ml_X5_231 [] [] (by simp only [List.nil_append, List.append_nil]) [.int v5] rfl rfl rfl 0 9 rfl rfl ⟨Nat.le_of_ble_eq_true rfl, Nat.le_of_ble_eq_true rfl⟩ (Nat.le_of_ble_eq_true rfl) ⟨Nat.le_refl _, Nat.le_refl _⟩ (fun v6 h => ?_)
      refine g_icmp_ne hC dX5_isFuller_55 67 (by decide) 58 rfl (fun c => ?_) (fun c => ?_)
      · have h := h.1 c
        refine g_iconst hC (0 : Int32) dX5_isFuller_67 68 rfl iconst_0 ?_
        exact g_zret hC hZ rfl dX5_isFuller_68 ⟨_, rfl, rfl, h⟩
      · have h := h.2 c
        refine g_iload_n hC dX5_isFuller_58 59 rfl rfl 1 rfl ?_
        refine g_iload_n hC dX5_isFuller_59 60 rfl rfl 2 rfl ?_
        refine g_icmp_ge hC dX5_isFuller_60 67 (by decide) 63 rfl (fun c => ?_) (fun c => ?_)
        · have h := h.1 c
          refine g_iconst hC (0 : Int32) dX5_isFuller_67 68 rfl iconst_0 ?_
          exact g_zret hC hZ rfl dX5_isFuller_68 ⟨_, rfl, rfl, h⟩
        · have h := h.2 c
          refine g_iconst hC (1 : Int32) dX5_isFuller_63 64 rfl iconst_1 ?_
          refine g_goto hC dX5_isFuller_64 68 (by decide) ?_
          exact g_zret hC hZ rfl dX5_isFuller_68 ⟨_, rfl, rfl, h⟩
  · have h := h.2 c
    refine g_aload_n hC dX5_isFuller_13 14 rfl rfl 0 rfl ?_
    refine g_iload_n hC dX5_isFuller_14 15 rfl rfl 1 rfl ?_
    refine g_readV hC (ct_X5_livingIn l g a o p0 _ h) gY_X5_livingIn dX5_isFuller_15 18 rfl ml_X5_195 [] [] (by simp only [List.nil_append, List.append_nil]) [] rfl rfl rfl 0 9 rfl rfl ⟨Nat.le_of_ble_eq_true rfl, Nat.le_of_ble_eq_true rfl⟩ (Nat.le_of_ble_eq_true rfl) ⟨Nat.le_refl _, Nat.le_refl _⟩ (fun v7 h => ?_)
    refine g_aload_n hC dX5_isFuller_18 19 rfl rfl 0 rfl ?_
    refine g_iload_n hC dX5_isFuller_19 20 rfl rfl 2 rfl ?_
    refine g_readV hC (ct_X5_livingIn l g a o p1 _ h) gY_X5_livingIn dX5_isFuller_20 23 rfl ml_X5_195 [] [] (by simp only [List.nil_append, List.append_nil]) [.int v7] rfl rfl rfl 0 9 rfl rfl ⟨Nat.le_of_ble_eq_true rfl, Nat.le_of_ble_eq_true rfl⟩ (Nat.le_of_ble_eq_true rfl) ⟨Nat.le_refl _, Nat.le_refl _⟩ (fun v8 h => ?_)
    refine g_icmp_le hC dX5_isFuller_23 30 (by decide) 26 rfl (fun c => ?_) (fun c => ?_)
    · have h := h.1 c
      refine g_iconst hC (0 : Int32) dX5_isFuller_30 31 rfl iconst_0 ?_
      exact g_zret hC hZ rfl dX5_isFuller_31 ⟨_, rfl, rfl, h⟩
    · have h := h.2 c
      refine g_iconst hC (1 : Int32) dX5_isFuller_26 27 rfl iconst_1 ?_
      refine g_goto hC dX5_isFuller_27 31 (by decide) ?_
      exact g_zret hC hZ rfl dX5_isFuller_31 ⟨_, rfl, rfl, h⟩
def wl_X5_drawerByResidents_17 (post : Int32 → Off → Prop) (K7 : Off → Int32 → Int32 → Prop) : Nat → Off → Int32 → Int32 → Int32 → Int32 → Prop
  | 0, _, _, _, _, _ => False
  | n + 1, o, x1, x2, x3, x4 => (((5 : Int32) ≤ x4 → ((¬ x3 = x1 → (∀ v4 : Int32, v4 = x2 + (1 : Int32) → K7 o x1 v4)) ∧ (x3 = x1 → post x2 o))) ∧ (¬ (5 : Int32) ≤ x4 → wp_X5_isFuller (fun v5 => ((v5 = 0 → (∀ v6 : Int32, v6 = (x3 + (0 : Int32)) → (∀ v7 : Int32, v7 = x4 + (1 : Int32) → wl_X5_drawerByResidents_17 post K7 n o x1 x2 v6 v7))) ∧ (¬ v5 = 0 → (∀ v8 : Int32, v8 = (x3 + (1 : Int32)) → (∀ v9 : Int32, v9 = x4 + (1 : Int32) → wl_X5_drawerByResidents_17 post K7 n o x1 x2 v8 v9))))) o x4 x2))
def wl_X5_drawerByResidents_7 (post : Int32 → Off → Prop) : Nat → Off → Int32 → Int32 → Prop
  | 0, _, _, _ => False
  | n + 1, o, x1, x2 => (((5 : Int32) ≤ x2 → wp_X5_fail (fun v3 o2 => post v3 o2) o (1 : Int32)) ∧ (¬ (5 : Int32) ≤ x2 → (∃ m : Nat, wl_X5_drawerByResidents_17 post (fun o x1 x2 => wl_X5_drawerByResidents_7 post n o x1 x2) m o x1 x2 (0 : Int32) (0 : Int32))))
def wp_X5_drawerByResidents (post : Int32 → Off → Prop) (o : Off) (p0 : Int32) : Prop := (∀ o1 : Off, o1 = st o 0 5 (0 : Int32) → (∃ m : Nat, wl_X5_drawerByResidents_7 post m o1 p0 (0 : Int32)))
set_option maxRecDepth 100000 in
set_option maxHeartbeats 4000000 in
theorem lp_X5_drawerByResidents_17 {x : gX} {l : Launch} {g : gE} {a : Nat → Nat} {o0 : Off} {post : Int32 → Off → Prop} (hC : gC x l cX5_drawerByResidents 5 RX5 g 5 111 0 0) (hZ : gZ x g (some .int) (modW g a o0) (pI (modW g a) post) 0 0) {K7 : Off → Int32 → Int32 → Prop} (hK7 : ∀ (o : Off) (x1 : Int32) (x2 : Int32) , K7 o x1 x2 → G x g 5 0 0 (modW g a o) 7 [(0, .ref (a 0)), (1, .int x1), (2, .int x2)] []) : ∀ (n : Nat) (o : Off) (x1 : Int32) (x2 : Int32) (x3 : Int32) (x4 : Int32) , wl_X5_drawerByResidents_17 post K7 n o x1 x2 x3 x4 → G x g 5 0 0 (modW g a o) 17 [(0, .ref (a 0)), (1, .int x1), (2, .int x2), (3, .int x3), (4, .int x4)] [] := by
  intro n
  induction n with
  | zero =>
    intro o x1 x2 x3 x4 h
    exact h.elim
  | succ n ih =>
    intro o x1 x2 x3 x4 h
    rw [wl_X5_drawerByResidents_17] at h
    refine g_iload hC dX5_drawerByResidents_17 19 rfl 4 rfl ?_
    refine g_iconst hC (5 : Int32) dX5_drawerByResidents_19 20 rfl iconst_5 ?_
    refine g_icmp_ge hC dX5_drawerByResidents_20 47 (by decide) 23 rfl (fun c => ?_) (fun c => ?_)
    · have h := h.1 c
      refine g_iload_n hC dX5_drawerByResidents_47 48 rfl rfl 3 rfl ?_
      refine g_iload_n hC dX5_drawerByResidents_48 49 rfl rfl 1 rfl ?_
      refine g_icmp_ne hC dX5_drawerByResidents_49 54 (by decide) 52 rfl (fun c => ?_) (fun c => ?_)
      · have h := h.1 c
        obtain ⟨v4, ev4⟩ : ∃ y : Int32, y = x2 + (1 : Int32) := ⟨_, rfl⟩
        have h := h v4 ev4
        refine g_iinc (v2 := v4) (lv2 := [(2, .int v4), (0, .ref (a 0)), (1, .int x1), (3, .int x3), (4, .int x4)]) hC dX5_drawerByResidents_54 57 rfl 2 rfl (by rw [iconst_1, ev4]) (by decide) rfl ?_
        refine g_goto hC dX5_drawerByResidents_57 7 (by decide) ?_
        refine g_lv (lv2 := [(0, .ref (a 0)), (1, .int x1), (2, .int v4)]) [1, 2, 0] rfl ?_
        exact hK7 o x1 v4 h
      · have h := h.2 c
        refine g_iload_n hC dX5_drawerByResidents_52 53 rfl rfl 2 rfl ?_
        exact g_iret hC hZ dX5_drawerByResidents_53 ⟨_, _, rfl, rfl, h⟩
    · have h := h.2 c
      refine g_iload_n hC dX5_drawerByResidents_23 24 rfl rfl 3 rfl ?_
      refine g_aload_n hC dX5_drawerByResidents_24 25 rfl rfl 0 rfl ?_
      refine g_iload hC dX5_drawerByResidents_25 27 rfl 4 rfl ?_
      refine g_iload_n hC dX5_drawerByResidents_27 28 rfl rfl 2 rfl ?_
      refine g_readV hC (ct_X5_isFuller l g a o x4 x2 _ h) gY_X5_isFuller dX5_drawerByResidents_28 31 rfl ml_X5_281 [] [] (by simp only [List.nil_append, List.append_nil]) [.int x3] rfl rfl rfl 0 9 rfl rfl ⟨Nat.le_of_ble_eq_true rfl, Nat.le_of_ble_eq_true rfl⟩ (Nat.le_of_ble_eq_true rfl) ⟨Nat.le_refl _, Nat.le_refl _⟩ (fun v5 h => ?_)
      refine g_if_eq hC dX5_drawerByResidents_31 38 (by decide) 34 rfl (fun c => ?_) (fun c => ?_)
      · have h := h.1 c
        refine g_iconst hC (0 : Int32) dX5_drawerByResidents_38 39 rfl iconst_0 ?_
        refine g_iadd hC dX5_drawerByResidents_39 40 rfl ?_
        refine g_topi (fun v6 ev6 => ?_)
        have h := h v6 ev6
        refine g_istore_n (lv2 := [(3, .int v6), (0, .ref (a 0)), (1, .int x1), (2, .int x2), (4, .int x4)]) hC dX5_drawerByResidents_40 41 rfl rfl (by decide) rfl ?_
        obtain ⟨v7, ev7⟩ : ∃ y : Int32, y = x4 + (1 : Int32) := ⟨_, rfl⟩
        have h := h v7 ev7
        refine g_iinc (v2 := v7) (lv2 := [(4, .int v7), (3, .int v6), (0, .ref (a 0)), (1, .int x1), (2, .int x2)]) hC dX5_drawerByResidents_41 44 rfl 4 rfl (by rw [iconst_1, ev7]) (by decide) rfl ?_
        refine g_goto hC dX5_drawerByResidents_44 17 (by decide) ?_
        refine g_lv (lv2 := [(0, .ref (a 0)), (1, .int x1), (2, .int x2), (3, .int v6), (4, .int v7)]) [2, 3, 4, 1, 0] rfl ?_
        exact ih o x1 x2 v6 v7 h
      · have h := h.2 c
        refine g_iconst hC (1 : Int32) dX5_drawerByResidents_34 35 rfl iconst_1 ?_
        refine g_goto hC dX5_drawerByResidents_35 39 (by decide) ?_
        refine g_iadd hC dX5_drawerByResidents_39 40 rfl ?_
        refine g_topi (fun v8 ev8 => ?_)
        have h := h v8 ev8
        refine g_istore_n (lv2 := [(3, .int v8), (0, .ref (a 0)), (1, .int x1), (2, .int x2), (4, .int x4)]) hC dX5_drawerByResidents_40 41 rfl rfl (by decide) rfl ?_
        obtain ⟨v9, ev9⟩ : ∃ y : Int32, y = x4 + (1 : Int32) := ⟨_, rfl⟩
        have h := h v9 ev9
        refine g_iinc (v2 := v9) (lv2 := [(4, .int v9), (3, .int v8), (0, .ref (a 0)), (1, .int x1), (2, .int x2)]) hC dX5_drawerByResidents_41 44 rfl 4 rfl (by rw [iconst_1, ev9]) (by decide) rfl ?_
        refine g_goto hC dX5_drawerByResidents_44 17 (by decide) ?_
        refine g_lv (lv2 := [(0, .ref (a 0)), (1, .int x1), (2, .int x2), (3, .int v8), (4, .int v9)]) [2, 3, 4, 1, 0] rfl ?_
        exact ih o x1 x2 v8 v9 h
set_option maxRecDepth 100000 in
set_option maxHeartbeats 4000000 in
theorem lp_X5_drawerByResidents_7 {x : gX} {l : Launch} {g : gE} {a : Nat → Nat} {o0 : Off} {post : Int32 → Off → Prop} (hC : gC x l cX5_drawerByResidents 5 RX5 g 5 111 0 0) (hZ : gZ x g (some .int) (modW g a o0) (pI (modW g a) post) 0 0) : ∀ (n : Nat) (o : Off) (x1 : Int32) (x2 : Int32) , wl_X5_drawerByResidents_7 post n o x1 x2 → G x g 5 0 0 (modW g a o) 7 [(0, .ref (a 0)), (1, .int x1), (2, .int x2)] [] := by
  intro n
  induction n with
  | zero =>
    intro o x1 x2 h
    exact h.elim
  | succ n ih =>
    intro o x1 x2 h
    rw [wl_X5_drawerByResidents_7] at h
    refine g_iload_n hC dX5_drawerByResidents_7 8 rfl rfl 2 rfl ?_
    refine g_iconst hC (5 : Int32) dX5_drawerByResidents_8 9 rfl iconst_5 ?_
    refine g_icmp_ge hC dX5_drawerByResidents_9 60 (by decide) 12 rfl (fun c => ?_) (fun c => ?_)
    · have h := h.1 c
      refine g_aload_n hC dX5_drawerByResidents_60 61 rfl rfl 0 rfl ?_
      refine g_iconst hC (1 : Int32) dX5_drawerByResidents_61 62 rfl iconst_1 ?_
      refine g_ownI hC (ct_X5_fail l g a o (1 : Int32) _ h) gY_X5_fail dX5_drawerByResidents_62 65 rfl ml_X5_88 [] rfl rfl rfl 0 9 rfl rfl ⟨Nat.le_of_ble_eq_true rfl, Nat.le_of_ble_eq_true rfl⟩ (Nat.le_of_ble_eq_true rfl) ⟨Nat.le_refl _, Nat.le_refl _⟩ (fun v3 o2 h => ?_)
      exact g_iret hC hZ dX5_drawerByResidents_65 ⟨_, _, rfl, rfl, h⟩
    · have h := h.2 c
      refine g_iconst hC (0 : Int32) dX5_drawerByResidents_12 13 rfl iconst_0 ?_
      refine g_istore_n (lv2 := [(3, .int (0 : Int32)), (0, .ref (a 0)), (1, .int x1), (2, .int x2)]) hC dX5_drawerByResidents_13 14 rfl rfl (by decide) rfl ?_
      refine g_iconst hC (0 : Int32) dX5_drawerByResidents_14 15 rfl iconst_0 ?_
      refine g_istore (lv2 := [(4, .int (0 : Int32)), (3, .int (0 : Int32)), (0, .ref (a 0)), (1, .int x1), (2, .int x2)]) hC dX5_drawerByResidents_15 17 rfl (by decide) rfl ?_
      refine g_lv (lv2 := [(0, .ref (a 0)), (1, .int x1), (2, .int x2), (3, .int (0 : Int32)), (4, .int (0 : Int32))]) [2, 3, 4, 1, 0] rfl ?_
      obtain ⟨m, h⟩ := h
      exact lp_X5_drawerByResidents_17 hC hZ ih m o x1 x2 (0 : Int32) (0 : Int32) h
set_option maxRecDepth 100000 in
set_option maxHeartbeats 4000000 in
theorem ct_X5_drawerByResidents (l : Launch) (g : gE) (a : Nat → Nat) (o : Off) (p0 : Int32) (post : Int32 → Off → Prop) (h : wp_X5_drawerByResidents post o p0) : Fn l g yX5_drawerByResidents cX5_drawerByResidents 5 (some .int) 5 111 0 0 (modW g a o) [.ref (a 0), .int p0] (pI (modW g a) post) := by
  refine Fn.of (by decide) (Nat.le_of_ble_eq_true rfl) (fun x hC hZ => ?_)
  rw [wp_X5_drawerByResidents] at h
  show G x g 5 0 0 (modW g a o) 0 [(0, .ref (a 0)), (1, .int p0)] []
  refine g_aload_n hC dX5_drawerByResidents_0 1 rfl rfl 0 rfl ?_
  refine g_iconst hC (0 : Int32) dX5_drawerByResidents_1 2 rfl iconst_0 ?_
  obtain ⟨o1, eo1⟩ : ∃ y : Off, y = st o 0 5 (0 : Int32) := ⟨_, rfl⟩
  have h := h o1 eo1
  refine g_put hC fp_X5_25 dX5_drawerByResidents_2 5 rfl 0 rfl rfl rfl (Nat.le_of_ble_eq_true rfl) (modW_p5 eo1) ?_
  refine g_iconst hC (0 : Int32) dX5_drawerByResidents_5 6 rfl iconst_0 ?_
  refine g_istore_n (lv2 := [(2, .int (0 : Int32)), (0, .ref (a 0)), (1, .int p0)]) hC dX5_drawerByResidents_6 7 rfl rfl (by decide) rfl ?_
  refine g_lv (lv2 := [(0, .ref (a 0)), (1, .int p0), (2, .int (0 : Int32))]) [1, 2, 0] rfl ?_
  obtain ⟨m, h⟩ := h
  exact lp_X5_drawerByResidents_7 hC hZ m o1 p0 (0 : Int32) h
def wl_X5_meanSize_27 (post : UInt64 → Off → Prop) : Nat → Off → Int32 → Int32 → Prop
  | 0, _, _, _ => False
  | n + 1, o, x1, x2 => (vp_in (0 : Int32) 160 ∧ (((o 1 (0 : Int32).toNatClampNeg) ≤ x2 → (vp_in (0 : Int32) 160 ∧ (vf_n64 (FP.ddiv (FP.i2d x1) (FP.i2d (o 1 (0 : Int32).toNatClampNeg))) ∧ post (FP.ddiv (FP.i2d x1) (FP.i2d (o 1 (0 : Int32).toNatClampNeg))) o))) ∧ (¬ (o 1 (0 : Int32).toNatClampNeg) ≤ x2 → wp_X5_s (fun v3 => (∀ v4 : Int32, v4 = (x1 + v3) → (∀ v5 : Int32, v5 = x2 + (1 : Int32) → wl_X5_meanSize_27 post n o v4 v5))) o x2 (1 : Int32))))
def wj_X5_meanSize_15 (post : UInt64 → Off → Prop) (o : Off) (s0 : Int32) : Prop := wp_X5_checked (fun v2 o1 => ((v2 ≤ 0 → (∃ m : Nat, wl_X5_meanSize_27 post m o1 (0 : Int32) (0 : Int32))) ∧ (¬ v2 ≤ 0 → post (0 : UInt64) o1))) o s0
def wp_X5_meanSize (post : UInt64 → Off → Prop) (o : Off) : Prop := (vp_in (0 : Int32) 160 ∧ (((o 1 (0 : Int32).toNatClampNeg) ≤ 0 → wj_X5_meanSize_15 post o (0 : Int32)) ∧ (¬ (o 1 (0 : Int32).toNatClampNeg) ≤ 0 → wj_X5_meanSize_15 post o (1 : Int32))))
set_option maxRecDepth 100000 in
set_option maxHeartbeats 4000000 in
theorem lp_X5_meanSize_27 {x : gX} {l : Launch} {g : gE} {a : Nat → Nat} {o0 : Off} {post : UInt64 → Off → Prop} (hC : gC x l cX5_meanSize 3 RX5 g 1 22 0 0) (hZ : gZ x g (some .double) (modW g a o0) (pDw (modW g a) post) 0 0) : ∀ (n : Nat) (o : Off) (x1 : Int32) (x2 : Int32) , wl_X5_meanSize_27 post n o x1 x2 → G x g 3 0 0 (modW g a o) 27 [(0, .ref (a 0)), (1, .int x1), (2, .int x2)] [] := by
  intro n
  induction n with
  | zero =>
    intro o x1 x2 h
    exact h.elim
  | succ n ih =>
    intro o x1 x2 h
    rw [wl_X5_meanSize_27] at h
    refine g_iload_n hC dX5_meanSize_27 28 rfl rfl 2 rfl ?_
    refine g_aload_n hC dX5_meanSize_28 29 rfl rfl 0 rfl ?_
    refine g_get hC fl_X5_7 dX5_meanSize_29 32 rfl 0 rfl rfl ?_
    refine g_iconst hC (0 : Int32) dX5_meanSize_32 33 rfl iconst_0 ?_
    obtain ⟨hi, h⟩ := h
    refine g_iald hC dX5_meanSize_33 34 rfl 1 rfl hi ?_
    refine g_icmp_ge hC dX5_meanSize_34 52 (by decide) 37 rfl (fun c => ?_) (fun c => ?_)
    · have h := h.1 c
      refine g_iload_n hC dX5_meanSize_52 53 rfl rfl 1 rfl ?_
      refine g_i2d hC dX5_meanSize_53 54 rfl ?_
      refine g_aload_n hC dX5_meanSize_54 55 rfl rfl 0 rfl ?_
      refine g_get hC fl_X5_7 dX5_meanSize_55 58 rfl 0 rfl rfl ?_
      refine g_iconst hC (0 : Int32) dX5_meanSize_58 59 rfl iconst_0 ?_
      obtain ⟨hi, h⟩ := h
      refine g_iald hC dX5_meanSize_59 60 rfl 1 rfl hi ?_
      refine g_i2d hC dX5_meanSize_60 61 rfl ?_
      obtain ⟨hi, h⟩ := h
      refine g_ddiv hC dX5_meanSize_61 62 rfl hi ?_
      exact g_dret hC hZ dX5_meanSize_62 ⟨_, _, rfl, rfl, h⟩
    · have h := h.2 c
      refine g_iload_n hC dX5_meanSize_37 38 rfl rfl 1 rfl ?_
      refine g_aload_n hC dX5_meanSize_38 39 rfl rfl 0 rfl ?_
      refine g_iload_n hC dX5_meanSize_39 40 rfl rfl 2 rfl ?_
      refine g_iconst hC (1 : Int32) dX5_meanSize_40 41 rfl iconst_1 ?_
      refine g_readV hC (ct_X5_s l g a o x2 (1 : Int32) _ h) gY_X5_s dX5_meanSize_41 44 rfl ml_X5_96 [] [] (by simp only [List.nil_append, List.append_nil]) [.int x1] rfl rfl rfl 0 9 rfl rfl ⟨Nat.le_of_ble_eq_true rfl, Nat.le_of_ble_eq_true rfl⟩ (Nat.le_of_ble_eq_true rfl) ⟨Nat.le_refl _, Nat.le_refl _⟩ (fun v3 h => ?_)
      refine g_iadd hC dX5_meanSize_44 45 rfl ?_
      refine g_topi (fun v4 ev4 => ?_)
      have h := h v4 ev4
      refine g_istore_n (lv2 := [(1, .int v4), (0, .ref (a 0)), (2, .int x2)]) hC dX5_meanSize_45 46 rfl rfl (by decide) rfl ?_
      obtain ⟨v5, ev5⟩ : ∃ y : Int32, y = x2 + (1 : Int32) := ⟨_, rfl⟩
      have h := h v5 ev5
      refine g_iinc (v2 := v5) (lv2 := [(2, .int v5), (1, .int v4), (0, .ref (a 0))]) hC dX5_meanSize_46 49 rfl 2 rfl (by rw [iconst_1, ev5]) (by decide) rfl ?_
      refine g_goto hC dX5_meanSize_49 27 (by decide) ?_
      refine g_lv (lv2 := [(0, .ref (a 0)), (1, .int v4), (2, .int v5)]) [2, 1, 0] rfl ?_
      exact ih o v4 v5 h
set_option maxRecDepth 100000 in
set_option maxHeartbeats 4000000 in
theorem jn_X5_meanSize_15 {x : gX} {l : Launch} {g : gE} {a : Nat → Nat} {o0 : Off} {post : UInt64 → Off → Prop} (hC : gC x l cX5_meanSize 3 RX5 g 1 22 0 0) (hZ : gZ x g (some .double) (modW g a o0) (pDw (modW g a) post) 0 0) : ∀ (o : Off) (s0 : Int32) , wj_X5_meanSize_15 post o s0 → G x g 3 0 0 (modW g a o) 15 [(0, .ref (a 0))] [.int s0, .ref (a 0)] := by
  intro o s0 h
  rw [wj_X5_meanSize_15] at h
  refine g_ownI hC (ct_X5_checked l g a o s0 _ h) gY_X5_checked dX5_meanSize_15 18 rfl ml_X5_154 [] rfl rfl rfl 0 9 rfl rfl ⟨Nat.le_of_ble_eq_true rfl, Nat.le_of_ble_eq_true rfl⟩ (Nat.le_of_ble_eq_true rfl) ⟨Nat.le_refl _, Nat.le_refl _⟩ (fun v2 o1 h => ?_)
  refine g_if_le hC dX5_meanSize_18 23 (by decide) 21 rfl (fun c => ?_) (fun c => ?_)
  · have h := h.1 c
    refine g_iconst hC (0 : Int32) dX5_meanSize_23 24 rfl iconst_0 ?_
    refine g_istore_n (lv2 := [(1, .int (0 : Int32)), (0, .ref (a 0))]) hC dX5_meanSize_24 25 rfl rfl (by decide) rfl ?_
    refine g_iconst hC (0 : Int32) dX5_meanSize_25 26 rfl iconst_0 ?_
    refine g_istore_n (lv2 := [(2, .int (0 : Int32)), (1, .int (0 : Int32)), (0, .ref (a 0))]) hC dX5_meanSize_26 27 rfl rfl (by decide) rfl ?_
    refine g_lv (lv2 := [(0, .ref (a 0)), (1, .int (0 : Int32)), (2, .int (0 : Int32))]) [2, 1, 0] rfl ?_
    obtain ⟨m, h⟩ := h
    exact lp_X5_meanSize_27 hC hZ m o1 (0 : Int32) (0 : Int32) h
  · have h := h.2 c
    refine g_dconst0 hC dX5_meanSize_21 22 rfl ?_
    exact g_dret hC hZ dX5_meanSize_22 ⟨_, _, rfl, rfl, h⟩
set_option maxRecDepth 100000 in
set_option maxHeartbeats 4000000 in
theorem ct_X5_meanSize (l : Launch) (g : gE) (a : Nat → Nat) (o : Off) (post : UInt64 → Off → Prop) (h : wp_X5_meanSize post o ) : Fn l g yX5_meanSize cX5_meanSize 3 (some .double) 1 22 0 0 (modW g a o) [.ref (a 0)] (pDw (modW g a) post) := by
  refine Fn.of (by decide) (Nat.le_of_ble_eq_true rfl) (fun x hC hZ => ?_)
  rw [wp_X5_meanSize] at h
  show G x g 3 0 0 (modW g a o) 0 [(0, .ref (a 0))] []
  refine g_aload_n hC dX5_meanSize_0 1 rfl rfl 0 rfl ?_
  refine g_aload_n hC dX5_meanSize_1 2 rfl rfl 0 rfl ?_
  refine g_get hC fl_X5_7 dX5_meanSize_2 5 rfl 0 rfl rfl ?_
  refine g_iconst hC (0 : Int32) dX5_meanSize_5 6 rfl iconst_0 ?_
  obtain ⟨hi, h⟩ := h
  refine g_iald hC dX5_meanSize_6 7 rfl 1 rfl hi ?_
  refine g_if_le hC dX5_meanSize_7 14 (by decide) 10 rfl (fun c => ?_) (fun c => ?_)
  · have h := h.1 c
    refine g_iconst hC (0 : Int32) dX5_meanSize_14 15 rfl iconst_0 ?_
    exact jn_X5_meanSize_15 hC hZ o (0 : Int32) h
  · have h := h.2 c
    refine g_iconst hC (1 : Int32) dX5_meanSize_10 11 rfl iconst_1 ?_
    refine g_goto hC dX5_meanSize_11 15 (by decide) ?_
    exact jn_X5_meanSize_15 hC hZ o (1 : Int32) h
def wl_X5_residentShare_27 (post : UInt32 → Off → Prop) : Nat → Off → Int32 → Int32 → Prop
  | 0, _, _, _ => False
  | n + 1, o, x1, x2 => (vp_in (0 : Int32) 160 ∧ (((o 1 (0 : Int32).toNatClampNeg) ≤ x2 → (vp_in (0 : Int32) 160 ∧ (vf_n32 (FP.fdiv (FP.i2f x1) (FP.i2f (o 1 (0 : Int32).toNatClampNeg))) ∧ post (FP.fdiv (FP.i2f x1) (FP.i2f (o 1 (0 : Int32).toNatClampNeg))) o))) ∧ (¬ (o 1 (0 : Int32).toNatClampNeg) ≤ x2 → wp_X5_is (fun v3 => ((v3 = 0 → (∀ v4 : Int32, v4 = (x1 + (0 : Int32)) → (∀ v5 : Int32, v5 = x2 + (1 : Int32) → wl_X5_residentShare_27 post n o v4 v5))) ∧ (¬ v3 = 0 → (∀ v6 : Int32, v6 = (x1 + (1 : Int32)) → (∀ v7 : Int32, v7 = x2 + (1 : Int32) → wl_X5_residentShare_27 post n o v6 v7))))) o x2 (3 : Int32))))
def wj_X5_residentShare_15 (post : UInt32 → Off → Prop) (o : Off) (s0 : Int32) : Prop := wp_X5_checked (fun v2 o1 => ((v2 ≤ 0 → (∃ m : Nat, wl_X5_residentShare_27 post m o1 (0 : Int32) (0 : Int32))) ∧ (¬ v2 ≤ 0 → post (0 : UInt32) o1))) o s0
def wp_X5_residentShare (post : UInt32 → Off → Prop) (o : Off) : Prop := (vp_in (0 : Int32) 160 ∧ (((o 1 (0 : Int32).toNatClampNeg) ≤ 0 → wj_X5_residentShare_15 post o (0 : Int32)) ∧ (¬ (o 1 (0 : Int32).toNatClampNeg) ≤ 0 → wj_X5_residentShare_15 post o (1 : Int32))))
set_option maxRecDepth 100000 in
set_option maxHeartbeats 4000000 in
theorem lp_X5_residentShare_27 {x : gX} {l : Launch} {g : gE} {a : Nat → Nat} {o0 : Off} {post : UInt32 → Off → Prop} (hC : gC x l cX5_residentShare 3 RX5 g 2 44 0 0) (hZ : gZ x g (some .float) (modW g a o0) (pFw (modW g a) post) 0 0) : ∀ (n : Nat) (o : Off) (x1 : Int32) (x2 : Int32) , wl_X5_residentShare_27 post n o x1 x2 → G x g 3 0 0 (modW g a o) 27 [(0, .ref (a 0)), (1, .int x1), (2, .int x2)] [] := by
  intro n
  induction n with
  | zero =>
    intro o x1 x2 h
    exact h.elim
  | succ n ih =>
    intro o x1 x2 h
    rw [wl_X5_residentShare_27] at h
    refine g_iload_n hC dX5_residentShare_27 28 rfl rfl 2 rfl ?_
    refine g_aload_n hC dX5_residentShare_28 29 rfl rfl 0 rfl ?_
    refine g_get hC fl_X5_7 dX5_residentShare_29 32 rfl 0 rfl rfl ?_
    refine g_iconst hC (0 : Int32) dX5_residentShare_32 33 rfl iconst_0 ?_
    obtain ⟨hi, h⟩ := h
    refine g_iald hC dX5_residentShare_33 34 rfl 1 rfl hi ?_
    refine g_icmp_ge hC dX5_residentShare_34 60 (by decide) 37 rfl (fun c => ?_) (fun c => ?_)
    · have h := h.1 c
      refine g_iload_n hC dX5_residentShare_60 61 rfl rfl 1 rfl ?_
      refine g_i2f hC dX5_residentShare_61 62 rfl ?_
      refine g_aload_n hC dX5_residentShare_62 63 rfl rfl 0 rfl ?_
      refine g_get hC fl_X5_7 dX5_residentShare_63 66 rfl 0 rfl rfl ?_
      refine g_iconst hC (0 : Int32) dX5_residentShare_66 67 rfl iconst_0 ?_
      obtain ⟨hi, h⟩ := h
      refine g_iald hC dX5_residentShare_67 68 rfl 1 rfl hi ?_
      refine g_i2f hC dX5_residentShare_68 69 rfl ?_
      obtain ⟨hi, h⟩ := h
      refine g_fdiv hC dX5_residentShare_69 70 rfl hi ?_
      exact g_fret hC hZ dX5_residentShare_70 ⟨_, _, rfl, rfl, h⟩
    · have h := h.2 c
      refine g_iload_n hC dX5_residentShare_37 38 rfl rfl 1 rfl ?_
      refine g_aload_n hC dX5_residentShare_38 39 rfl rfl 0 rfl ?_
      refine g_iload_n hC dX5_residentShare_39 40 rfl rfl 2 rfl ?_
      refine g_iconst hC (3 : Int32) dX5_residentShare_40 41 rfl iconst_3 ?_
      refine g_readV hC (ct_X5_is l g a o x2 (3 : Int32) _ h) gY_X5_is dX5_residentShare_41 44 rfl ml_X5_100 [] [] (by simp only [List.nil_append, List.append_nil]) [.int x1] rfl rfl rfl 0 9 rfl rfl ⟨Nat.le_of_ble_eq_true rfl, Nat.le_of_ble_eq_true rfl⟩ (Nat.le_of_ble_eq_true rfl) ⟨Nat.le_refl _, Nat.le_refl _⟩ (fun v3 h => ?_)
      refine g_if_eq hC dX5_residentShare_44 51 (by decide) 47 rfl (fun c => ?_) (fun c => ?_)
      · have h := h.1 c
        refine g_iconst hC (0 : Int32) dX5_residentShare_51 52 rfl iconst_0 ?_
        refine g_iadd hC dX5_residentShare_52 53 rfl ?_
        refine g_topi (fun v4 ev4 => ?_)
        have h := h v4 ev4
        refine g_istore_n (lv2 := [(1, .int v4), (0, .ref (a 0)), (2, .int x2)]) hC dX5_residentShare_53 54 rfl rfl (by decide) rfl ?_
        obtain ⟨v5, ev5⟩ : ∃ y : Int32, y = x2 + (1 : Int32) := ⟨_, rfl⟩
        have h := h v5 ev5
        refine g_iinc (v2 := v5) (lv2 := [(2, .int v5), (1, .int v4), (0, .ref (a 0))]) hC dX5_residentShare_54 57 rfl 2 rfl (by rw [iconst_1, ev5]) (by decide) rfl ?_
        refine g_goto hC dX5_residentShare_57 27 (by decide) ?_
        refine g_lv (lv2 := [(0, .ref (a 0)), (1, .int v4), (2, .int v5)]) [2, 1, 0] rfl ?_
        exact ih o v4 v5 h
      · have h := h.2 c
        refine g_iconst hC (1 : Int32) dX5_residentShare_47 48 rfl iconst_1 ?_
        refine g_goto hC dX5_residentShare_48 52 (by decide) ?_
        refine g_iadd hC dX5_residentShare_52 53 rfl ?_
        refine g_topi (fun v6 ev6 => ?_)
        have h := h v6 ev6
        refine g_istore_n (lv2 := [(1, .int v6), (0, .ref (a 0)), (2, .int x2)]) hC dX5_residentShare_53 54 rfl rfl (by decide) rfl ?_
        obtain ⟨v7, ev7⟩ : ∃ y : Int32, y = x2 + (1 : Int32) := ⟨_, rfl⟩
        have h := h v7 ev7
        refine g_iinc (v2 := v7) (lv2 := [(2, .int v7), (1, .int v6), (0, .ref (a 0))]) hC dX5_residentShare_54 57 rfl 2 rfl (by rw [iconst_1, ev7]) (by decide) rfl ?_
        refine g_goto hC dX5_residentShare_57 27 (by decide) ?_
        refine g_lv (lv2 := [(0, .ref (a 0)), (1, .int v6), (2, .int v7)]) [2, 1, 0] rfl ?_
        exact ih o v6 v7 h
set_option maxRecDepth 100000 in
set_option maxHeartbeats 4000000 in
theorem jn_X5_residentShare_15 {x : gX} {l : Launch} {g : gE} {a : Nat → Nat} {o0 : Off} {post : UInt32 → Off → Prop} (hC : gC x l cX5_residentShare 3 RX5 g 2 44 0 0) (hZ : gZ x g (some .float) (modW g a o0) (pFw (modW g a) post) 0 0) : ∀ (o : Off) (s0 : Int32) , wj_X5_residentShare_15 post o s0 → G x g 3 0 0 (modW g a o) 15 [(0, .ref (a 0))] [.int s0, .ref (a 0)] := by
  intro o s0 h
  rw [wj_X5_residentShare_15] at h
  refine g_ownI hC (ct_X5_checked l g a o s0 _ h) gY_X5_checked dX5_residentShare_15 18 rfl ml_X5_154 [] rfl rfl rfl 0 9 rfl rfl ⟨Nat.le_of_ble_eq_true rfl, Nat.le_of_ble_eq_true rfl⟩ (Nat.le_of_ble_eq_true rfl) ⟨Nat.le_refl _, Nat.le_refl _⟩ (fun v2 o1 h => ?_)
  refine g_if_le hC dX5_residentShare_18 23 (by decide) 21 rfl (fun c => ?_) (fun c => ?_)
  · have h := h.1 c
    refine g_iconst hC (0 : Int32) dX5_residentShare_23 24 rfl iconst_0 ?_
    refine g_istore_n (lv2 := [(1, .int (0 : Int32)), (0, .ref (a 0))]) hC dX5_residentShare_24 25 rfl rfl (by decide) rfl ?_
    refine g_iconst hC (0 : Int32) dX5_residentShare_25 26 rfl iconst_0 ?_
    refine g_istore_n (lv2 := [(2, .int (0 : Int32)), (1, .int (0 : Int32)), (0, .ref (a 0))]) hC dX5_residentShare_26 27 rfl rfl (by decide) rfl ?_
    refine g_lv (lv2 := [(0, .ref (a 0)), (1, .int (0 : Int32)), (2, .int (0 : Int32))]) [2, 1, 0] rfl ?_
    obtain ⟨m, h⟩ := h
    exact lp_X5_residentShare_27 hC hZ m o1 (0 : Int32) (0 : Int32) h
  · have h := h.2 c
    refine g_fconst0 hC dX5_residentShare_21 22 rfl ?_
    exact g_fret hC hZ dX5_residentShare_22 ⟨_, _, rfl, rfl, h⟩
set_option maxRecDepth 100000 in
set_option maxHeartbeats 4000000 in
theorem ct_X5_residentShare (l : Launch) (g : gE) (a : Nat → Nat) (o : Off) (post : UInt32 → Off → Prop) (h : wp_X5_residentShare post o ) : Fn l g yX5_residentShare cX5_residentShare 3 (some .float) 2 44 0 0 (modW g a o) [.ref (a 0)] (pFw (modW g a) post) := by
  refine Fn.of (by decide) (Nat.le_of_ble_eq_true rfl) (fun x hC hZ => ?_)
  rw [wp_X5_residentShare] at h
  show G x g 3 0 0 (modW g a o) 0 [(0, .ref (a 0))] []
  refine g_aload_n hC dX5_residentShare_0 1 rfl rfl 0 rfl ?_
  refine g_aload_n hC dX5_residentShare_1 2 rfl rfl 0 rfl ?_
  refine g_get hC fl_X5_7 dX5_residentShare_2 5 rfl 0 rfl rfl ?_
  refine g_iconst hC (0 : Int32) dX5_residentShare_5 6 rfl iconst_0 ?_
  obtain ⟨hi, h⟩ := h
  refine g_iald hC dX5_residentShare_6 7 rfl 1 rfl hi ?_
  refine g_if_le hC dX5_residentShare_7 14 (by decide) 10 rfl (fun c => ?_) (fun c => ?_)
  · have h := h.1 c
    refine g_iconst hC (0 : Int32) dX5_residentShare_14 15 rfl iconst_0 ?_
    exact jn_X5_residentShare_15 hC hZ o (0 : Int32) h
  · have h := h.2 c
    refine g_iconst hC (1 : Int32) dX5_residentShare_10 11 rfl iconst_1 ?_
    refine g_goto hC dX5_residentShare_11 15 (by decide) ?_
    exact jn_X5_residentShare_15 hC hZ o (1 : Int32) h
def wp_X5_isConsistent (post : Int32 → Off → Prop) (o : Off) : Prop := wp_X5_plain (fun v2 o1 => ((¬ v2 = (1 : Int32) → post (0 : Int32) o1) ∧ (v2 = (1 : Int32) → post (1 : Int32) o1))) o (1 : Int32)
set_option maxRecDepth 100000 in
set_option maxHeartbeats 4000000 in
theorem ct_X5_isConsistent (l : Launch) (g : gE) (a : Nat → Nat) (o : Off) (post : Int32 → Off → Prop) (h : wp_X5_isConsistent post o ) : Fn l g yX5_isConsistent cX5_isConsistent 1 (some .boolean) 1 21 0 0 (modW g a o) [.ref (a 0)] (pI (modW g a) post) := by
  refine Fn.of (by decide) (Nat.le_of_ble_eq_true rfl) (fun x hC hZ => ?_)
  rw [wp_X5_isConsistent] at h
  show G x g 1 0 0 (modW g a o) 0 [(0, .ref (a 0))] []
  refine g_aload_n hC dX5_isConsistent_0 1 rfl rfl 0 rfl ?_
  refine g_iconst hC (1 : Int32) dX5_isConsistent_1 2 rfl iconst_1 ?_
  refine g_ownI hC (ct_X5_plain l g a o (1 : Int32) _ h) gY_X5_plain dX5_isConsistent_2 5 rfl ml_X5_148 [] rfl rfl rfl 0 9 rfl rfl ⟨Nat.le_of_ble_eq_true rfl, Nat.le_of_ble_eq_true rfl⟩ (Nat.le_of_ble_eq_true rfl) ⟨Nat.le_refl _, Nat.le_refl _⟩ (fun v2 o1 h => ?_)
  refine g_iconst hC (1 : Int32) dX5_isConsistent_5 6 rfl iconst_1 ?_
  refine g_icmp_ne hC dX5_isConsistent_6 13 (by decide) 9 rfl (fun c => ?_) (fun c => ?_)
  · have h := h.1 c
    refine g_iconst hC (0 : Int32) dX5_isConsistent_13 14 rfl iconst_0 ?_
    exact g_zret hC hZ rfl dX5_isConsistent_14 ⟨_, _, rfl, rfl, h⟩
  · have h := h.2 c
    refine g_iconst hC (1 : Int32) dX5_isConsistent_9 10 rfl iconst_1 ?_
    refine g_goto hC dX5_isConsistent_10 14 (by decide) ?_
    exact g_zret hC hZ rfl dX5_isConsistent_14 ⟨_, _, rfl, rfl, h⟩
def wp_X5_write (post : Off → Prop) (o : Off) (p0 : Int32) : Prop := (vp_in (o 0 15) 40 ∧ (∀ o1 : Off, o1 = st o 6 (o 0 15).toNatClampNeg p0 → (∀ o2 : Off, o2 = st o1 0 15 ((o1 0 15) + (1 : Int32)) → post o2)))
set_option maxRecDepth 100000 in
set_option maxHeartbeats 4000000 in
theorem ct_X5_write (l : Launch) (g : gE) (a : Nat → Nat) (o : Off) (p0 : Int32) (post : Off → Prop) (h : wp_X5_write post o p0) : Fn l g yX5_write cX5_write 2 none 0 0 0 0 (modW g a o) [.ref (a 0), .int p0] (pV (modW g a) post) := by
  refine Fn.of (by decide) (Nat.le_of_ble_eq_true rfl) (fun x hC hZ => ?_)
  rw [wp_X5_write] at h
  show G x g 2 0 0 (modW g a o) 0 [(0, .ref (a 0)), (1, .int p0)] []
  refine g_aload_n hC dX5_write_0 1 rfl rfl 0 rfl ?_
  refine g_get hC fl_X5_54 dX5_write_1 4 rfl 0 rfl rfl ?_
  refine g_aload_n hC dX5_write_4 5 rfl rfl 0 rfl ?_
  refine g_get hC fl_X5_57 dX5_write_5 8 rfl 0 rfl rfl ?_
  refine g_iload_n hC dX5_write_8 9 rfl rfl 1 rfl ?_
  obtain ⟨hi, h⟩ := h
  obtain ⟨o1, eo1⟩ : ∃ y : Off, y = st o 6 (o 0 15).toNatClampNeg p0 := ⟨_, rfl⟩
  have h := h o1 eo1
  refine g_iast hC dX5_write_9 10 rfl 6 rfl hi (modW_s6 eo1) ?_
  refine g_aload_n hC dX5_write_10 11 rfl rfl 0 rfl ?_
  refine g_dup hC dX5_write_11 12 rfl rfl ?_
  refine g_get hC fl_X5_57 dX5_write_12 15 rfl 0 rfl rfl ?_
  refine g_iconst hC (1 : Int32) dX5_write_15 16 rfl iconst_1 ?_
  refine g_iadd hC dX5_write_16 17 rfl ?_
  obtain ⟨o2, eo2⟩ : ∃ y : Off, y = st o1 0 15 ((o1 0 15) + (1 : Int32)) := ⟨_, rfl⟩
  have h := h o2 eo2
  refine g_put hC fp_X5_57 dX5_write_17 20 rfl 0 rfl rfl rfl (Nat.le_of_ble_eq_true rfl) (modW_p15 eo2) ?_
  exact g_vret hC hZ dX5_write_20 ⟨_, rfl, rfl, h⟩
def wl_X5_writeNumber_18 (post : Off → Prop) : Nat → Off → Int32 → Int32 → Prop
  | 0, _, _, _ => False
  | n + 1, o, x1, x2 => ((x2 ≤ 0 → post o) ∧ (¬ x2 ≤ 0 → (¬ x2 = 0 ∧ wp_X5_write (fun o1 => (∀ v2 : Int32, v2 = (x2 / (10 : Int32)) → wl_X5_writeNumber_18 post n o1 x1 v2)) o ((48 : Int32) + ((x1 / x2) - (x1 / x2) / (10 : Int32) * (10 : Int32))))))
def wl_X5_writeNumber_2 (post : Off → Prop) : Nat → Off → Int32 → Int32 → Prop
  | 0, _, _, _ => False
  | n + 1, o, x1, x2 => (¬ x2 = 0 ∧ (((x1 / x2) ≤ (9 : Int32) → (∃ m : Nat, wl_X5_writeNumber_18 post m o x1 x2)) ∧ (¬ (x1 / x2) ≤ (9 : Int32) → (∀ v3 : Int32, v3 = (x2 * (10 : Int32)) → wl_X5_writeNumber_2 post n o x1 v3))))
def wp_X5_writeNumber (post : Off → Prop) (o : Off) (p0 : Int32) : Prop := (∃ m : Nat, wl_X5_writeNumber_2 post m o p0 (1 : Int32))
set_option maxRecDepth 100000 in
set_option maxHeartbeats 4000000 in
theorem lp_X5_writeNumber_18 {x : gX} {l : Launch} {g : gE} {a : Nat → Nat} {o0 : Off} {post : Off → Prop} (hC : gC x l cX5_writeNumber 3 RX5 g 1 21 0 0) (hZ : gZ x g none (modW g a o0) (pV (modW g a) post) 0 0) : ∀ (n : Nat) (o : Off) (x1 : Int32) (x2 : Int32) , wl_X5_writeNumber_18 post n o x1 x2 → G x g 3 0 0 (modW g a o) 18 [(0, .ref (a 0)), (1, .int x1), (2, .int x2)] [] := by
  intro n
  induction n with
  | zero =>
    intro o x1 x2 h
    exact h.elim
  | succ n ih =>
    intro o x1 x2 h
    rw [wl_X5_writeNumber_18] at h
    refine g_iload_n hC dX5_writeNumber_18 19 rfl rfl 2 rfl ?_
    refine g_if_le hC dX5_writeNumber_19 43 (by decide) 22 rfl (fun c => ?_) (fun c => ?_)
    · have h := h.1 c
      exact g_vret hC hZ dX5_writeNumber_43 ⟨_, rfl, rfl, h⟩
    · have h := h.2 c
      refine g_aload_n hC dX5_writeNumber_22 23 rfl rfl 0 rfl ?_
      refine g_bipush hC (48 : Int32) dX5_writeNumber_23 25 rfl bipush_48 ?_
      refine g_iload_n hC dX5_writeNumber_25 26 rfl rfl 1 rfl ?_
      refine g_iload_n hC dX5_writeNumber_26 27 rfl rfl 2 rfl ?_
      obtain ⟨hi, h⟩ := h
      refine g_idiv hC dX5_writeNumber_27 28 rfl hi ?_
      refine g_bipush hC (10 : Int32) dX5_writeNumber_28 30 rfl bipush_10 ?_
      refine g_irem hC dX5_writeNumber_30 31 rfl (by decide) ?_
      refine g_iadd hC dX5_writeNumber_31 32 rfl ?_
      refine g_ownV hC (ct_X5_write l g a o ((48 : Int32) + ((x1 / x2) - (x1 / x2) / (10 : Int32) * (10 : Int32))) _ h) gY_X5_write dX5_writeNumber_32 35 rfl ml_X5_284 [] rfl rfl rfl 0 9 rfl rfl ⟨Nat.le_of_ble_eq_true rfl, Nat.le_of_ble_eq_true rfl⟩ (Nat.le_of_ble_eq_true rfl) ⟨Nat.le_refl _, Nat.le_refl _⟩ (fun o1 h => ?_)
      refine g_iload_n hC dX5_writeNumber_35 36 rfl rfl 2 rfl ?_
      refine g_bipush hC (10 : Int32) dX5_writeNumber_36 38 rfl bipush_10 ?_
      refine g_idiv hC dX5_writeNumber_38 39 rfl (by decide) ?_
      refine g_topi (fun v2 ev2 => ?_)
      have h := h v2 ev2
      refine g_istore_n (lv2 := [(2, .int v2), (0, .ref (a 0)), (1, .int x1)]) hC dX5_writeNumber_39 40 rfl rfl (by decide) rfl ?_
      refine g_goto hC dX5_writeNumber_40 18 (by decide) ?_
      refine g_lv (lv2 := [(0, .ref (a 0)), (1, .int x1), (2, .int v2)]) [1, 2, 0] rfl ?_
      exact ih o1 x1 v2 h
set_option maxRecDepth 100000 in
set_option maxHeartbeats 4000000 in
theorem lp_X5_writeNumber_2 {x : gX} {l : Launch} {g : gE} {a : Nat → Nat} {o0 : Off} {post : Off → Prop} (hC : gC x l cX5_writeNumber 3 RX5 g 1 21 0 0) (hZ : gZ x g none (modW g a o0) (pV (modW g a) post) 0 0) : ∀ (n : Nat) (o : Off) (x1 : Int32) (x2 : Int32) , wl_X5_writeNumber_2 post n o x1 x2 → G x g 3 0 0 (modW g a o) 2 [(0, .ref (a 0)), (1, .int x1), (2, .int x2)] [] := by
  intro n
  induction n with
  | zero =>
    intro o x1 x2 h
    exact h.elim
  | succ n ih =>
    intro o x1 x2 h
    rw [wl_X5_writeNumber_2] at h
    refine g_iload_n hC dX5_writeNumber_2 3 rfl rfl 1 rfl ?_
    refine g_iload_n hC dX5_writeNumber_3 4 rfl rfl 2 rfl ?_
    obtain ⟨hi, h⟩ := h
    refine g_idiv hC dX5_writeNumber_4 5 rfl hi ?_
    refine g_bipush hC (9 : Int32) dX5_writeNumber_5 7 rfl bipush_9 ?_
    refine g_icmp_le hC dX5_writeNumber_7 18 (by decide) 10 rfl (fun c => ?_) (fun c => ?_)
    · have h := h.1 c
      obtain ⟨m, h⟩ := h
      exact lp_X5_writeNumber_18 hC hZ m o x1 x2 h
    · have h := h.2 c
      refine g_iload_n hC dX5_writeNumber_10 11 rfl rfl 2 rfl ?_
      refine g_bipush hC (10 : Int32) dX5_writeNumber_11 13 rfl bipush_10 ?_
      refine g_imul hC dX5_writeNumber_13 14 rfl ?_
      refine g_topi (fun v3 ev3 => ?_)
      have h := h v3 ev3
      refine g_istore_n (lv2 := [(2, .int v3), (0, .ref (a 0)), (1, .int x1)]) hC dX5_writeNumber_14 15 rfl rfl (by decide) rfl ?_
      refine g_goto hC dX5_writeNumber_15 2 (by decide) ?_
      refine g_lv (lv2 := [(0, .ref (a 0)), (1, .int x1), (2, .int v3)]) [1, 2, 0] rfl ?_
      exact ih o x1 v3 h
set_option maxRecDepth 100000 in
set_option maxHeartbeats 4000000 in
theorem ct_X5_writeNumber (l : Launch) (g : gE) (a : Nat → Nat) (o : Off) (p0 : Int32) (post : Off → Prop) (h : wp_X5_writeNumber post o p0) : Fn l g yX5_writeNumber cX5_writeNumber 3 none 1 21 0 0 (modW g a o) [.ref (a 0), .int p0] (pV (modW g a) post) := by
  refine Fn.of (by decide) (Nat.le_of_ble_eq_true rfl) (fun x hC hZ => ?_)
  rw [wp_X5_writeNumber] at h
  show G x g 3 0 0 (modW g a o) 0 [(0, .ref (a 0)), (1, .int p0)] []
  refine g_iconst hC (1 : Int32) dX5_writeNumber_0 1 rfl iconst_1 ?_
  refine g_istore_n (lv2 := [(2, .int (1 : Int32)), (0, .ref (a 0)), (1, .int p0)]) hC dX5_writeNumber_1 2 rfl rfl (by decide) rfl ?_
  refine g_lv (lv2 := [(0, .ref (a 0)), (1, .int p0), (2, .int (1 : Int32))]) [1, 2, 0] rfl ?_
  obtain ⟨m, h⟩ := h
  exact lp_X5_writeNumber_2 hC hZ m o p0 (1 : Int32) h
def wj_X5_writeSock_168 (post : Int32 → Off → Prop) (o : Off) (x1 : Int32) (s0 : Int32) : Prop := wp_X5_writeNumber (fun o22 => wp_X5_isPaired (fun v23 => ((¬ v23 = 0 → wp_X5_write (fun o24 => wp_X5_s (fun v25 => wp_X5_writeNumber (fun o26 => post (o26 0 15) o26) o24 v25) o24 x1 (7 : Int32)) o22 (43 : Int32)) ∧ (v23 = 0 → post (o22 0 15) o22))) o22 x1) o s0
def wj_X5_writeSock_139 (post : Int32 → Off → Prop) (o : Off) (x1 : Int32) (s0 : Int32) : Prop := wp_X5_write (fun o19 => wp_X5_is (fun v20 => ((v20 = 0 → wp_X5_s (fun v21 => wj_X5_writeSock_168 post o19 x1 v21) o19 x1 (4 : Int32)) ∧ (¬ v20 = 0 → wp_X5_s (fun v27 => wj_X5_writeSock_168 post o19 x1 v27) o19 x1 (6 : Int32)))) o19 x1 (3 : Int32)) o s0
def wj_X5_writeSock_95 (post : Int32 → Off → Prop) (o : Off) (x1 : Int32) (s0 : Int32) : Prop := wp_X5_write (fun o14 => wp_X5_is (fun v15 => ((v15 = 0 → wp_X5_s (fun v16 => wp_X5_writeNumber (fun o17 => wp_X5_is (fun v18 => ((v18 = 0 → wj_X5_writeSock_139 post o17 x1 (47 : Int32)) ∧ (¬ v18 = 0 → wj_X5_writeSock_139 post o17 x1 (60 : Int32)))) o17 x1 (3 : Int32)) o14 v16) o14 x1 (3 : Int32)) ∧ (¬ v15 = 0 → post (o14 0 15) o14))) o14 x1 (0 : Int32)) o s0
def wp_X5_writeSock (post : Int32 → Off → Prop) (o : Off) (p0 : Int32) : Prop := wp_X5_isSock (fun v1 => wp_X5_checked (fun v3 o2 => ((v3 ≤ 0 → (∀ o4 : Off, o4 = st o2 0 15 (0 : Int32) → wp_X5_writeNumber (fun o5 => wp_X5_write (fun o6 => wp_X5_s (fun v7 => wp_X5_write (fun o8 => wp_X5_s (fun v9 => wp_X5_writeNumber (fun o10 => wp_X5_is (fun v11 => ((v11 = 0 → wp_X5_is (fun v12 => ((v12 = 0 → wp_X5_is (fun v13 => ((v13 = 0 → wj_X5_writeSock_95 post o10 p0 (64 : Int32)) ∧ (¬ v13 = 0 → wj_X5_writeSock_95 post o10 p0 (120 : Int32)))) o10 p0 (2 : Int32)) ∧ (¬ v12 = 0 → wj_X5_writeSock_95 post o10 p0 (63 : Int32)))) o10 p0 (1 : Int32)) ∧ (¬ v11 = 0 → wj_X5_writeSock_95 post o10 p0 (45 : Int32)))) o10 p0 (0 : Int32)) o8 v9) o8 p0 (1 : Int32)) o6 v7) o6 p0 (0 : Int32)) o5 (58 : Int32)) o4 p0)) ∧ (¬ v3 ≤ 0 → post (0 : Int32) o2))) o v1) o p0
set_option maxRecDepth 100000 in
set_option maxHeartbeats 4000000 in
theorem jn_X5_writeSock_168 {x : gX} {l : Launch} {g : gE} {a : Nat → Nat} {o0 : Off} {post : Int32 → Off → Prop} (hC : gC x l cX5_writeSock 2 RX5 g 2 44 0 0) (hZ : gZ x g (some .int) (modW g a o0) (pI (modW g a) post) 0 0) : ∀ (o : Off) (x1 : Int32) (s0 : Int32) , wj_X5_writeSock_168 post o x1 s0 → G x g 2 0 0 (modW g a o) 168 [(0, .ref (a 0)), (1, .int x1)] [.int s0, .ref (a 0)] := by
  intro o x1 s0 h
  rw [wj_X5_writeSock_168] at h
  refine g_ownV hC (ct_X5_writeNumber l g a o s0 _ h) gY_X5_writeNumber dX5_writeSock_168 171 rfl ml_X5_287 [] rfl rfl rfl 0 9 rfl rfl ⟨Nat.le_of_ble_eq_true rfl, Nat.le_of_ble_eq_true rfl⟩ (Nat.le_of_ble_eq_true rfl) ⟨Nat.le_refl _, Nat.le_refl _⟩ (fun o22 h => ?_)
  refine g_aload_n hC dX5_writeSock_171 172 rfl rfl 0 rfl ?_
  refine g_iload_n hC dX5_writeSock_172 173 rfl rfl 1 rfl ?_
  refine g_readV hC (ct_X5_isPaired l g a o22 x1 _ h) gY_X5_isPaired dX5_writeSock_173 176 rfl ml_X5_110 [] [] (by simp only [List.nil_append, List.append_nil]) [] rfl rfl rfl 0 9 rfl rfl ⟨Nat.le_of_ble_eq_true rfl, Nat.le_of_ble_eq_true rfl⟩ (Nat.le_of_ble_eq_true rfl) ⟨Nat.le_refl _, Nat.le_refl _⟩ (fun v23 h => ?_)
  refine g_if_ne hC dX5_writeSock_176 184 (by decide) 179 rfl (fun c => ?_) (fun c => ?_)
  · have h := h.1 c
    refine g_aload_n hC dX5_writeSock_184 185 rfl rfl 0 rfl ?_
    refine g_bipush hC (43 : Int32) dX5_writeSock_185 187 rfl bipush_43 ?_
    refine g_ownV hC (ct_X5_write l g a o22 (43 : Int32) _ h) gY_X5_write dX5_writeSock_187 190 rfl ml_X5_284 [] rfl rfl rfl 0 9 rfl rfl ⟨Nat.le_of_ble_eq_true rfl, Nat.le_of_ble_eq_true rfl⟩ (Nat.le_of_ble_eq_true rfl) ⟨Nat.le_refl _, Nat.le_refl _⟩ (fun o24 h => ?_)
    refine g_aload_n hC dX5_writeSock_190 191 rfl rfl 0 rfl ?_
    refine g_aload_n hC dX5_writeSock_191 192 rfl rfl 0 rfl ?_
    refine g_iload_n hC dX5_writeSock_192 193 rfl rfl 1 rfl ?_
    refine g_bipush hC (7 : Int32) dX5_writeSock_193 195 rfl bipush_7 ?_
    refine g_readV hC (ct_X5_s l g a o24 x1 (7 : Int32) _ h) gY_X5_s dX5_writeSock_195 198 rfl ml_X5_96 [] [] (by simp only [List.nil_append, List.append_nil]) [.ref (a 0)] rfl rfl rfl 0 9 rfl rfl ⟨Nat.le_of_ble_eq_true rfl, Nat.le_of_ble_eq_true rfl⟩ (Nat.le_of_ble_eq_true rfl) ⟨Nat.le_refl _, Nat.le_refl _⟩ (fun v25 h => ?_)
    refine g_ownV hC (ct_X5_writeNumber l g a o24 v25 _ h) gY_X5_writeNumber dX5_writeSock_198 201 rfl ml_X5_287 [] rfl rfl rfl 0 9 rfl rfl ⟨Nat.le_of_ble_eq_true rfl, Nat.le_of_ble_eq_true rfl⟩ (Nat.le_of_ble_eq_true rfl) ⟨Nat.le_refl _, Nat.le_refl _⟩ (fun o26 h => ?_)
    refine g_aload_n hC dX5_writeSock_201 202 rfl rfl 0 rfl ?_
    refine g_get hC fl_X5_57 dX5_writeSock_202 205 rfl 0 rfl rfl ?_
    exact g_iret hC hZ dX5_writeSock_205 ⟨_, _, rfl, rfl, h⟩
  · have h := h.2 c
    refine g_aload_n hC dX5_writeSock_179 180 rfl rfl 0 rfl ?_
    refine g_get hC fl_X5_57 dX5_writeSock_180 183 rfl 0 rfl rfl ?_
    exact g_iret hC hZ dX5_writeSock_183 ⟨_, _, rfl, rfl, h⟩
set_option maxRecDepth 100000 in
set_option maxHeartbeats 4000000 in
theorem jn_X5_writeSock_139 {x : gX} {l : Launch} {g : gE} {a : Nat → Nat} {o0 : Off} {post : Int32 → Off → Prop} (hC : gC x l cX5_writeSock 2 RX5 g 2 44 0 0) (hZ : gZ x g (some .int) (modW g a o0) (pI (modW g a) post) 0 0) : ∀ (o : Off) (x1 : Int32) (s0 : Int32) , wj_X5_writeSock_139 post o x1 s0 → G x g 2 0 0 (modW g a o) 139 [(0, .ref (a 0)), (1, .int x1)] [.int s0, .ref (a 0)] := by
  intro o x1 s0 h
  rw [wj_X5_writeSock_139] at h
  refine g_ownV hC (ct_X5_write l g a o s0 _ h) gY_X5_write dX5_writeSock_139 142 rfl ml_X5_284 [] rfl rfl rfl 0 9 rfl rfl ⟨Nat.le_of_ble_eq_true rfl, Nat.le_of_ble_eq_true rfl⟩ (Nat.le_of_ble_eq_true rfl) ⟨Nat.le_refl _, Nat.le_refl _⟩ (fun o19 h => ?_)
  refine g_aload_n hC dX5_writeSock_142 143 rfl rfl 0 rfl ?_
  refine g_aload_n hC dX5_writeSock_143 144 rfl rfl 0 rfl ?_
  refine g_iload_n hC dX5_writeSock_144 145 rfl rfl 1 rfl ?_
  refine g_iconst hC (3 : Int32) dX5_writeSock_145 146 rfl iconst_3 ?_
  refine g_readV hC (ct_X5_is l g a o19 x1 (3 : Int32) _ h) gY_X5_is dX5_writeSock_146 149 rfl ml_X5_100 [] [] (by simp only [List.nil_append, List.append_nil]) [.ref (a 0)] rfl rfl rfl 0 9 rfl rfl ⟨Nat.le_of_ble_eq_true rfl, Nat.le_of_ble_eq_true rfl⟩ (Nat.le_of_ble_eq_true rfl) ⟨Nat.le_refl _, Nat.le_refl _⟩ (fun v20 h => ?_)
  refine g_if_eq hC dX5_writeSock_149 162 (by decide) 152 rfl (fun c => ?_) (fun c => ?_)
  · have h := h.1 c
    refine g_aload_n hC dX5_writeSock_162 163 rfl rfl 0 rfl ?_
    refine g_iload_n hC dX5_writeSock_163 164 rfl rfl 1 rfl ?_
    refine g_iconst hC (4 : Int32) dX5_writeSock_164 165 rfl iconst_4 ?_
    refine g_readV hC (ct_X5_s l g a o19 x1 (4 : Int32) _ h) gY_X5_s dX5_writeSock_165 168 rfl ml_X5_96 [] [] (by simp only [List.nil_append, List.append_nil]) [.ref (a 0)] rfl rfl rfl 0 9 rfl rfl ⟨Nat.le_of_ble_eq_true rfl, Nat.le_of_ble_eq_true rfl⟩ (Nat.le_of_ble_eq_true rfl) ⟨Nat.le_refl _, Nat.le_refl _⟩ (fun v21 h => ?_)
    exact jn_X5_writeSock_168 hC hZ o19 x1 v21 h
  · have h := h.2 c
    refine g_aload_n hC dX5_writeSock_152 153 rfl rfl 0 rfl ?_
    refine g_iload_n hC dX5_writeSock_153 154 rfl rfl 1 rfl ?_
    refine g_bipush hC (6 : Int32) dX5_writeSock_154 156 rfl bipush_6 ?_
    refine g_readV hC (ct_X5_s l g a o19 x1 (6 : Int32) _ h) gY_X5_s dX5_writeSock_156 159 rfl ml_X5_96 [] [] (by simp only [List.nil_append, List.append_nil]) [.ref (a 0)] rfl rfl rfl 0 9 rfl rfl ⟨Nat.le_of_ble_eq_true rfl, Nat.le_of_ble_eq_true rfl⟩ (Nat.le_of_ble_eq_true rfl) ⟨Nat.le_refl _, Nat.le_refl _⟩ (fun v27 h => ?_)
    refine g_goto hC dX5_writeSock_159 168 (by decide) ?_
    exact jn_X5_writeSock_168 hC hZ o19 x1 v27 h
set_option maxRecDepth 100000 in
set_option maxHeartbeats 4000000 in
theorem jn_X5_writeSock_95 {x : gX} {l : Launch} {g : gE} {a : Nat → Nat} {o0 : Off} {post : Int32 → Off → Prop} (hC : gC x l cX5_writeSock 2 RX5 g 2 44 0 0) (hZ : gZ x g (some .int) (modW g a o0) (pI (modW g a) post) 0 0) : ∀ (o : Off) (x1 : Int32) (s0 : Int32) , wj_X5_writeSock_95 post o x1 s0 → G x g 2 0 0 (modW g a o) 95 [(0, .ref (a 0)), (1, .int x1)] [.int s0, .ref (a 0)] := by
  intro o x1 s0 h
  rw [wj_X5_writeSock_95] at h
  refine g_ownV hC (ct_X5_write l g a o s0 _ h) gY_X5_write dX5_writeSock_95 98 rfl ml_X5_284 [] rfl rfl rfl 0 9 rfl rfl ⟨Nat.le_of_ble_eq_true rfl, Nat.le_of_ble_eq_true rfl⟩ (Nat.le_of_ble_eq_true rfl) ⟨Nat.le_refl _, Nat.le_refl _⟩ (fun o14 h => ?_)
  refine g_aload_n hC dX5_writeSock_98 99 rfl rfl 0 rfl ?_
  refine g_iload_n hC dX5_writeSock_99 100 rfl rfl 1 rfl ?_
  refine g_iconst hC (0 : Int32) dX5_writeSock_100 101 rfl iconst_0 ?_
  refine g_readV hC (ct_X5_is l g a o14 x1 (0 : Int32) _ h) gY_X5_is dX5_writeSock_101 104 rfl ml_X5_100 [] [] (by simp only [List.nil_append, List.append_nil]) [] rfl rfl rfl 0 9 rfl rfl ⟨Nat.le_of_ble_eq_true rfl, Nat.le_of_ble_eq_true rfl⟩ (Nat.le_of_ble_eq_true rfl) ⟨Nat.le_refl _, Nat.le_refl _⟩ (fun v15 h => ?_)
  refine g_if_eq hC dX5_writeSock_104 112 (by decide) 107 rfl (fun c => ?_) (fun c => ?_)
  · have h := h.1 c
    refine g_aload_n hC dX5_writeSock_112 113 rfl rfl 0 rfl ?_
    refine g_aload_n hC dX5_writeSock_113 114 rfl rfl 0 rfl ?_
    refine g_iload_n hC dX5_writeSock_114 115 rfl rfl 1 rfl ?_
    refine g_iconst hC (3 : Int32) dX5_writeSock_115 116 rfl iconst_3 ?_
    refine g_readV hC (ct_X5_s l g a o14 x1 (3 : Int32) _ h) gY_X5_s dX5_writeSock_116 119 rfl ml_X5_96 [] [] (by simp only [List.nil_append, List.append_nil]) [.ref (a 0)] rfl rfl rfl 0 9 rfl rfl ⟨Nat.le_of_ble_eq_true rfl, Nat.le_of_ble_eq_true rfl⟩ (Nat.le_of_ble_eq_true rfl) ⟨Nat.le_refl _, Nat.le_refl _⟩ (fun v16 h => ?_)
    refine g_ownV hC (ct_X5_writeNumber l g a o14 v16 _ h) gY_X5_writeNumber dX5_writeSock_119 122 rfl ml_X5_287 [] rfl rfl rfl 0 9 rfl rfl ⟨Nat.le_of_ble_eq_true rfl, Nat.le_of_ble_eq_true rfl⟩ (Nat.le_of_ble_eq_true rfl) ⟨Nat.le_refl _, Nat.le_refl _⟩ (fun o17 h => ?_)
    refine g_aload_n hC dX5_writeSock_122 123 rfl rfl 0 rfl ?_
    refine g_aload_n hC dX5_writeSock_123 124 rfl rfl 0 rfl ?_
    refine g_iload_n hC dX5_writeSock_124 125 rfl rfl 1 rfl ?_
    refine g_iconst hC (3 : Int32) dX5_writeSock_125 126 rfl iconst_3 ?_
    refine g_readV hC (ct_X5_is l g a o17 x1 (3 : Int32) _ h) gY_X5_is dX5_writeSock_126 129 rfl ml_X5_100 [] [] (by simp only [List.nil_append, List.append_nil]) [.ref (a 0)] rfl rfl rfl 0 9 rfl rfl ⟨Nat.le_of_ble_eq_true rfl, Nat.le_of_ble_eq_true rfl⟩ (Nat.le_of_ble_eq_true rfl) ⟨Nat.le_refl _, Nat.le_refl _⟩ (fun v18 h => ?_)
    refine g_if_eq hC dX5_writeSock_129 137 (by decide) 132 rfl (fun c => ?_) (fun c => ?_)
    · have h := h.1 c
      refine g_bipush hC (47 : Int32) dX5_writeSock_137 139 rfl bipush_47 ?_
      exact jn_X5_writeSock_139 hC hZ o17 x1 (47 : Int32) h
    · have h := h.2 c
      refine g_bipush hC (60 : Int32) dX5_writeSock_132 134 rfl bipush_60 ?_
      refine g_goto hC dX5_writeSock_134 139 (by decide) ?_
      exact jn_X5_writeSock_139 hC hZ o17 x1 (60 : Int32) h
  · have h := h.2 c
    refine g_aload_n hC dX5_writeSock_107 108 rfl rfl 0 rfl ?_
    refine g_get hC fl_X5_57 dX5_writeSock_108 111 rfl 0 rfl rfl ?_
    exact g_iret hC hZ dX5_writeSock_111 ⟨_, _, rfl, rfl, h⟩
set_option maxRecDepth 100000 in
set_option maxHeartbeats 4000000 in
theorem ct_X5_writeSock (l : Launch) (g : gE) (a : Nat → Nat) (o : Off) (p0 : Int32) (post : Int32 → Off → Prop) (h : wp_X5_writeSock post o p0) : Fn l g yX5_writeSock cX5_writeSock 2 (some .int) 2 44 0 0 (modW g a o) [.ref (a 0), .int p0] (pI (modW g a) post) := by
  refine Fn.of (by decide) (Nat.le_of_ble_eq_true rfl) (fun x hC hZ => ?_)
  rw [wp_X5_writeSock] at h
  show G x g 2 0 0 (modW g a o) 0 [(0, .ref (a 0)), (1, .int p0)] []
  refine g_aload_n hC dX5_writeSock_0 1 rfl rfl 0 rfl ?_
  refine g_aload_n hC dX5_writeSock_1 2 rfl rfl 0 rfl ?_
  refine g_iload_n hC dX5_writeSock_2 3 rfl rfl 1 rfl ?_
  refine g_readV hC (ct_X5_isSock l g a o p0 _ h) gY_X5_isSock dX5_writeSock_3 6 rfl ml_X5_151 [] [] (by simp only [List.nil_append, List.append_nil]) [.ref (a 0)] rfl rfl rfl 0 9 rfl rfl ⟨Nat.le_of_ble_eq_true rfl, Nat.le_of_ble_eq_true rfl⟩ (Nat.le_of_ble_eq_true rfl) ⟨Nat.le_refl _, Nat.le_refl _⟩ (fun v1 h => ?_)
  refine g_ownI hC (ct_X5_checked l g a o v1 _ h) gY_X5_checked dX5_writeSock_6 9 rfl ml_X5_154 [] rfl rfl rfl 0 9 rfl rfl ⟨Nat.le_of_ble_eq_true rfl, Nat.le_of_ble_eq_true rfl⟩ (Nat.le_of_ble_eq_true rfl) ⟨Nat.le_refl _, Nat.le_refl _⟩ (fun v3 o2 h => ?_)
  refine g_if_le hC dX5_writeSock_9 14 (by decide) 12 rfl (fun c => ?_) (fun c => ?_)
  · have h := h.1 c
    refine g_aload_n hC dX5_writeSock_14 15 rfl rfl 0 rfl ?_
    refine g_iconst hC (0 : Int32) dX5_writeSock_15 16 rfl iconst_0 ?_
    obtain ⟨o4, eo4⟩ : ∃ y : Off, y = st o2 0 15 (0 : Int32) := ⟨_, rfl⟩
    have h := h o4 eo4
    refine g_put hC fp_X5_57 dX5_writeSock_16 19 rfl 0 rfl rfl rfl (Nat.le_of_ble_eq_true rfl) (modW_p15 eo4) ?_
    refine g_aload_n hC dX5_writeSock_19 20 rfl rfl 0 rfl ?_
    refine g_iload_n hC dX5_writeSock_20 21 rfl rfl 1 rfl ?_
    refine g_ownV hC (ct_X5_writeNumber l g a o4 p0 _ h) gY_X5_writeNumber dX5_writeSock_21 24 rfl ml_X5_287 [] rfl rfl rfl 0 9 rfl rfl ⟨Nat.le_of_ble_eq_true rfl, Nat.le_of_ble_eq_true rfl⟩ (Nat.le_of_ble_eq_true rfl) ⟨Nat.le_refl _, Nat.le_refl _⟩ (fun o5 h => ?_)
    refine g_aload_n hC dX5_writeSock_24 25 rfl rfl 0 rfl ?_
    refine g_bipush hC (58 : Int32) dX5_writeSock_25 27 rfl bipush_58 ?_
    refine g_ownV hC (ct_X5_write l g a o5 (58 : Int32) _ h) gY_X5_write dX5_writeSock_27 30 rfl ml_X5_284 [] rfl rfl rfl 0 9 rfl rfl ⟨Nat.le_of_ble_eq_true rfl, Nat.le_of_ble_eq_true rfl⟩ (Nat.le_of_ble_eq_true rfl) ⟨Nat.le_refl _, Nat.le_refl _⟩ (fun o6 h => ?_)
    refine g_aload_n hC dX5_writeSock_30 31 rfl rfl 0 rfl ?_
    refine g_aload_n hC dX5_writeSock_31 32 rfl rfl 0 rfl ?_
    refine g_iload_n hC dX5_writeSock_32 33 rfl rfl 1 rfl ?_
    refine g_iconst hC (0 : Int32) dX5_writeSock_33 34 rfl iconst_0 ?_
    refine g_readV hC (ct_X5_s l g a o6 p0 (0 : Int32) _ h) gY_X5_s dX5_writeSock_34 37 rfl ml_X5_96 [] [] (by simp only [List.nil_append, List.append_nil]) [.ref (a 0)] rfl rfl rfl 0 9 rfl rfl ⟨Nat.le_of_ble_eq_true rfl, Nat.le_of_ble_eq_true rfl⟩ (Nat.le_of_ble_eq_true rfl) ⟨Nat.le_refl _, Nat.le_refl _⟩ (fun v7 h => ?_)
    refine g_ownV hC (ct_X5_write l g a o6 v7 _ h) gY_X5_write dX5_writeSock_37 40 rfl ml_X5_284 [] rfl rfl rfl 0 9 rfl rfl ⟨Nat.le_of_ble_eq_true rfl, Nat.le_of_ble_eq_true rfl⟩ (Nat.le_of_ble_eq_true rfl) ⟨Nat.le_refl _, Nat.le_refl _⟩ (fun o8 h => ?_)
    refine g_aload_n hC dX5_writeSock_40 41 rfl rfl 0 rfl ?_
    refine g_aload_n hC dX5_writeSock_41 42 rfl rfl 0 rfl ?_
    refine g_iload_n hC dX5_writeSock_42 43 rfl rfl 1 rfl ?_
    refine g_iconst hC (1 : Int32) dX5_writeSock_43 44 rfl iconst_1 ?_
    refine g_readV hC (ct_X5_s l g a o8 p0 (1 : Int32) _ h) gY_X5_s dX5_writeSock_44 47 rfl ml_X5_96 [] [] (by simp only [List.nil_append, List.append_nil]) [.ref (a 0)] rfl rfl rfl 0 9 rfl rfl ⟨Nat.le_of_ble_eq_true rfl, Nat.le_of_ble_eq_true rfl⟩ (Nat.le_of_ble_eq_true rfl) ⟨Nat.le_refl _, Nat.le_refl _⟩ (fun v9 h => ?_)
    refine g_ownV hC (ct_X5_writeNumber l g a o8 v9 _ h) gY_X5_writeNumber dX5_writeSock_47 50 rfl ml_X5_287 [] rfl rfl rfl 0 9 rfl rfl ⟨Nat.le_of_ble_eq_true rfl, Nat.le_of_ble_eq_true rfl⟩ (Nat.le_of_ble_eq_true rfl) ⟨Nat.le_refl _, Nat.le_refl _⟩ (fun o10 h => ?_)
    refine g_aload_n hC dX5_writeSock_50 51 rfl rfl 0 rfl ?_
    refine g_aload_n hC dX5_writeSock_51 52 rfl rfl 0 rfl ?_
    refine g_iload_n hC dX5_writeSock_52 53 rfl rfl 1 rfl ?_
    refine g_iconst hC (0 : Int32) dX5_writeSock_53 54 rfl iconst_0 ?_
    refine g_readV hC (ct_X5_is l g a o10 p0 (0 : Int32) _ h) gY_X5_is dX5_writeSock_54 57 rfl ml_X5_100 [] [] (by simp only [List.nil_append, List.append_nil]) [.ref (a 0)] rfl rfl rfl 0 9 rfl rfl ⟨Nat.le_of_ble_eq_true rfl, Nat.le_of_ble_eq_true rfl⟩ (Nat.le_of_ble_eq_true rfl) ⟨Nat.le_refl _, Nat.le_refl _⟩ (fun v11 h => ?_)
    refine g_if_eq hC dX5_writeSock_57 65 (by decide) 60 rfl (fun c => ?_) (fun c => ?_)
    · have h := h.1 c
      refine g_aload_n hC dX5_writeSock_65 66 rfl rfl 0 rfl ?_
      refine g_iload_n hC dX5_writeSock_66 67 rfl rfl 1 rfl ?_
      refine g_iconst hC (1 : Int32) dX5_writeSock_67 68 rfl iconst_1 ?_
      refine g_readV hC (ct_X5_is l g a o10 p0 (1 : Int32) _ h) gY_X5_is dX5_writeSock_68 71 rfl ml_X5_100 [] [] (by simp only [List.nil_append, List.append_nil]) [.ref (a 0)] rfl rfl rfl 0 9 rfl rfl ⟨Nat.le_of_ble_eq_true rfl, Nat.le_of_ble_eq_true rfl⟩ (Nat.le_of_ble_eq_true rfl) ⟨Nat.le_refl _, Nat.le_refl _⟩ (fun v12 h => ?_)
      refine g_if_eq hC dX5_writeSock_71 79 (by decide) 74 rfl (fun c => ?_) (fun c => ?_)
      · have h := h.1 c
        refine g_aload_n hC dX5_writeSock_79 80 rfl rfl 0 rfl ?_
        refine g_iload_n hC dX5_writeSock_80 81 rfl rfl 1 rfl ?_
        refine g_iconst hC (2 : Int32) dX5_writeSock_81 82 rfl iconst_2 ?_
        refine g_readV hC (ct_X5_is l g a o10 p0 (2 : Int32) _ h) gY_X5_is dX5_writeSock_82 85 rfl ml_X5_100 [] [] (by simp only [List.nil_append, List.append_nil]) [.ref (a 0)] rfl rfl rfl 0 9 rfl rfl ⟨Nat.le_of_ble_eq_true rfl, Nat.le_of_ble_eq_true rfl⟩ (Nat.le_of_ble_eq_true rfl) ⟨Nat.le_refl _, Nat.le_refl _⟩ (fun v13 h => ?_)
        refine g_if_eq hC dX5_writeSock_85 93 (by decide) 88 rfl (fun c => ?_) (fun c => ?_)
        · have h := h.1 c
          refine g_bipush hC (64 : Int32) dX5_writeSock_93 95 rfl bipush_64 ?_
          exact jn_X5_writeSock_95 hC hZ o10 p0 (64 : Int32) h
        · have h := h.2 c
          refine g_bipush hC (120 : Int32) dX5_writeSock_88 90 rfl bipush_120 ?_
          refine g_goto hC dX5_writeSock_90 95 (by decide) ?_
          exact jn_X5_writeSock_95 hC hZ o10 p0 (120 : Int32) h
      · have h := h.2 c
        refine g_bipush hC (63 : Int32) dX5_writeSock_74 76 rfl bipush_63 ?_
        refine g_goto hC dX5_writeSock_76 95 (by decide) ?_
        exact jn_X5_writeSock_95 hC hZ o10 p0 (63 : Int32) h
    · have h := h.2 c
      refine g_bipush hC (45 : Int32) dX5_writeSock_60 62 rfl bipush_45 ?_
      refine g_goto hC dX5_writeSock_62 95 (by decide) ?_
      exact jn_X5_writeSock_95 hC hZ o10 p0 (45 : Int32) h
  · have h := h.2 c
    refine g_iconst hC (0 : Int32) dX5_writeSock_12 13 rfl iconst_0 ?_
    exact g_iret hC hZ dX5_writeSock_13 ⟨_, _, rfl, rfl, h⟩
def wp_X5_outputAt (post : Int32 → Off → Prop) (o : Off) (p0 : Int32) : Prop := wp_X5_in (fun v1 => wp_X5_checked (fun v3 o2 => ((v3 ≤ 0 → (vp_in p0 40 ∧ (isC ((((o2 6 p0.toNatClampNeg)).toUInt32 % 65536).toInt32) ∧ post ((((o2 6 p0.toNatClampNeg)).toUInt32 % 65536).toInt32) o2))) ∧ (¬ v3 ≤ 0 → (isC (32 : Int32) ∧ post (32 : Int32) o2)))) o v1) p0 (0 : Int32) ((o 0 15) - (1 : Int32))
set_option maxRecDepth 100000 in
set_option maxHeartbeats 4000000 in
theorem ct_X5_outputAt (l : Launch) (g : gE) (a : Nat → Nat) (o : Off) (p0 : Int32) (post : Int32 → Off → Prop) (h : wp_X5_outputAt post o p0) : Fn l g yX5_outputAt cX5_outputAt 2 (some .char) 1 22 0 0 (modW g a o) [.ref (a 0), .int p0] (pI (modW g a) post) := by
  refine Fn.of (by decide) (Nat.le_of_ble_eq_true rfl) (fun x hC hZ => ?_)
  rw [wp_X5_outputAt] at h
  show G x g 2 0 0 (modW g a o) 0 [(0, .ref (a 0)), (1, .int p0)] []
  refine g_aload_n hC dX5_outputAt_0 1 rfl rfl 0 rfl ?_
  refine g_iload_n hC dX5_outputAt_1 2 rfl rfl 1 rfl ?_
  refine g_iconst hC (0 : Int32) dX5_outputAt_2 3 rfl iconst_0 ?_
  refine g_aload_n hC dX5_outputAt_3 4 rfl rfl 0 rfl ?_
  refine g_get hC fl_X5_57 dX5_outputAt_4 7 rfl 0 rfl rfl ?_
  refine g_iconst hC (1 : Int32) dX5_outputAt_7 8 rfl iconst_1 ?_
  refine g_isub hC dX5_outputAt_8 9 rfl ?_
  refine g_readS hC (ct_X5_in l g p0 (0 : Int32) ((o 0 15) - (1 : Int32)) _ h) gY_X5_in dX5_outputAt_9 12 rfl ml_X5_92 [] _ rfl [.ref (a 0)] rfl rfl ⟨Nat.le_of_ble_eq_true rfl, Nat.le_of_ble_eq_true rfl⟩ (Nat.le_of_ble_eq_true rfl) ⟨Nat.le_refl _, Nat.le_refl _⟩ (fun v1 h => ?_)
  refine g_ownI hC (ct_X5_checked l g a o v1 _ h) gY_X5_checked dX5_outputAt_12 15 rfl ml_X5_154 [] rfl rfl rfl 0 9 rfl rfl ⟨Nat.le_of_ble_eq_true rfl, Nat.le_of_ble_eq_true rfl⟩ (Nat.le_of_ble_eq_true rfl) ⟨Nat.le_refl _, Nat.le_refl _⟩ (fun v3 o2 h => ?_)
  refine g_if_le hC dX5_outputAt_15 23 (by decide) 18 rfl (fun c => ?_) (fun c => ?_)
  · have h := h.1 c
    refine g_aload_n hC dX5_outputAt_23 24 rfl rfl 0 rfl ?_
    refine g_get hC fl_X5_54 dX5_outputAt_24 27 rfl 0 rfl rfl ?_
    refine g_iload_n hC dX5_outputAt_27 28 rfl rfl 1 rfl ?_
    obtain ⟨hi, h⟩ := h
    refine g_iald hC dX5_outputAt_28 29 rfl 6 rfl hi ?_
    refine g_i2c hC dX5_outputAt_29 30 rfl ?_
    obtain ⟨hb, h⟩ := h
    exact g_zret hC hZ (hb) dX5_outputAt_30 ⟨_, _, rfl, rfl, h⟩
  · have h := h.2 c
    refine g_bipush hC (32 : Int32) dX5_outputAt_18 20 rfl bipush_32 ?_
    refine g_goto hC dX5_outputAt_20 30 (by decide) ?_
    obtain ⟨hb, h⟩ := h
    exact g_zret hC hZ (hb) dX5_outputAt_30 ⟨_, _, rfl, rfl, h⟩
def wj_X5_appendInput_30 (post : Int32 → Off → Prop) (o : Off) (x1 : Int32) (s0 : Int32) : Prop := (∀ o2 : Off, o2 = st o 0 5 s0 → (((o2 0 5) ≤ 0 → (vp_in (o2 0 19) 60 ∧ (∀ o3 : Off, o3 = st o2 7 (o2 0 19).toNatClampNeg x1 → (∀ o4 : Off, o4 = st o3 0 19 ((o3 0 19) + (1 : Int32)) → post (o4 0 19) o4)))) ∧ (¬ (o2 0 5) ≤ 0 → post (0 : Int32) o2)))
def wp_X5_appendInput (post : Int32 → Off → Prop) (o : Off) (p0 : Int32) : Prop := wp_X5_in (fun v1 => ((¬ v1 = 0 → ((¬ (o 0 19) = (60 : Int32) → wj_X5_appendInput_30 post o p0 (0 : Int32)) ∧ ((o 0 19) = (60 : Int32) → wj_X5_appendInput_30 post o p0 (2 : Int32)))) ∧ (v1 = 0 → wj_X5_appendInput_30 post o p0 (1 : Int32)))) p0 (32 : Int32) (126 : Int32)
set_option maxRecDepth 100000 in
set_option maxHeartbeats 4000000 in
theorem jn_X5_appendInput_30 {x : gX} {l : Launch} {g : gE} {a : Nat → Nat} {o0 : Off} {post : Int32 → Off → Prop} (hC : gC x l cX5_appendInput 2 RX5 g 1 22 0 0) (hZ : gZ x g (some .int) (modW g a o0) (pI (modW g a) post) 0 0) : ∀ (o : Off) (x1 : Int32) (s0 : Int32) , wj_X5_appendInput_30 post o x1 s0 → G x g 2 0 0 (modW g a o) 30 [(0, .ref (a 0)), (1, .int x1)] [.int s0, .ref (a 0)] := by
  intro o x1 s0 h
  rw [wj_X5_appendInput_30] at h
  obtain ⟨o2, eo2⟩ : ∃ y : Off, y = st o 0 5 s0 := ⟨_, rfl⟩
  have h := h o2 eo2
  refine g_put hC fp_X5_25 dX5_appendInput_30 33 rfl 0 rfl rfl rfl (Nat.le_of_ble_eq_true rfl) (modW_p5 eo2) ?_
  refine g_aload_n hC dX5_appendInput_33 34 rfl rfl 0 rfl ?_
  refine g_get hC fl_X5_25 dX5_appendInput_34 37 rfl 0 rfl rfl ?_
  refine g_if_le hC dX5_appendInput_37 42 (by decide) 40 rfl (fun c => ?_) (fun c => ?_)
  · have h := h.1 c
    refine g_aload_n hC dX5_appendInput_42 43 rfl rfl 0 rfl ?_
    refine g_get hC fl_X5_60 dX5_appendInput_43 46 rfl 0 rfl rfl ?_
    refine g_aload_n hC dX5_appendInput_46 47 rfl rfl 0 rfl ?_
    refine g_get hC fl_X5_69 dX5_appendInput_47 50 rfl 0 rfl rfl ?_
    refine g_iload_n hC dX5_appendInput_50 51 rfl rfl 1 rfl ?_
    obtain ⟨hi, h⟩ := h
    obtain ⟨o3, eo3⟩ : ∃ y : Off, y = st o2 7 (o2 0 19).toNatClampNeg x1 := ⟨_, rfl⟩
    have h := h o3 eo3
    refine g_iast hC dX5_appendInput_51 52 rfl 7 rfl hi (modW_s7 eo3) ?_
    refine g_aload_n hC dX5_appendInput_52 53 rfl rfl 0 rfl ?_
    refine g_dup hC dX5_appendInput_53 54 rfl rfl ?_
    refine g_get hC fl_X5_69 dX5_appendInput_54 57 rfl 0 rfl rfl ?_
    refine g_iconst hC (1 : Int32) dX5_appendInput_57 58 rfl iconst_1 ?_
    refine g_iadd hC dX5_appendInput_58 59 rfl ?_
    obtain ⟨o4, eo4⟩ : ∃ y : Off, y = st o3 0 19 ((o3 0 19) + (1 : Int32)) := ⟨_, rfl⟩
    have h := h o4 eo4
    refine g_put hC fp_X5_69 dX5_appendInput_59 62 rfl 0 rfl rfl rfl (Nat.le_of_ble_eq_true rfl) (modW_p19 eo4) ?_
    refine g_aload_n hC dX5_appendInput_62 63 rfl rfl 0 rfl ?_
    refine g_get hC fl_X5_69 dX5_appendInput_63 66 rfl 0 rfl rfl ?_
    exact g_iret hC hZ dX5_appendInput_66 ⟨_, _, rfl, rfl, h⟩
  · have h := h.2 c
    refine g_iconst hC (0 : Int32) dX5_appendInput_40 41 rfl iconst_0 ?_
    exact g_iret hC hZ dX5_appendInput_41 ⟨_, _, rfl, rfl, h⟩
set_option maxRecDepth 100000 in
set_option maxHeartbeats 4000000 in
theorem ct_X5_appendInput (l : Launch) (g : gE) (a : Nat → Nat) (o : Off) (p0 : Int32) (post : Int32 → Off → Prop) (h : wp_X5_appendInput post o p0) : Fn l g yX5_appendInput cX5_appendInput 2 (some .int) 1 22 0 0 (modW g a o) [.ref (a 0), .int p0] (pI (modW g a) post) := by
  refine Fn.of (by decide) (Nat.le_of_ble_eq_true rfl) (fun x hC hZ => ?_)
  rw [wp_X5_appendInput] at h
  show G x g 2 0 0 (modW g a o) 0 [(0, .ref (a 0)), (1, .int p0)] []
  refine g_aload_n hC dX5_appendInput_0 1 rfl rfl 0 rfl ?_
  refine g_iload_n hC dX5_appendInput_1 2 rfl rfl 1 rfl ?_
  refine g_bipush hC (32 : Int32) dX5_appendInput_2 4 rfl bipush_32 ?_
  refine g_bipush hC (126 : Int32) dX5_appendInput_4 6 rfl bipush_126 ?_
  refine g_readS hC (ct_X5_in l g p0 (32 : Int32) (126 : Int32) _ h) gY_X5_in dX5_appendInput_6 9 rfl ml_X5_92 [] _ rfl [.ref (a 0)] rfl rfl ⟨Nat.le_of_ble_eq_true rfl, Nat.le_of_ble_eq_true rfl⟩ (Nat.le_of_ble_eq_true rfl) ⟨Nat.le_refl _, Nat.le_refl _⟩ (fun v1 h => ?_)
  refine g_if_ne hC dX5_appendInput_9 16 (by decide) 12 rfl (fun c => ?_) (fun c => ?_)
  · have h := h.1 c
    refine g_aload_n hC dX5_appendInput_16 17 rfl rfl 0 rfl ?_
    refine g_get hC fl_X5_69 dX5_appendInput_17 20 rfl 0 rfl rfl ?_
    refine g_bipush hC (60 : Int32) dX5_appendInput_20 22 rfl bipush_60 ?_
    refine g_icmp_ne hC dX5_appendInput_22 29 (by decide) 25 rfl (fun c => ?_) (fun c => ?_)
    · have h := h.1 c
      refine g_iconst hC (0 : Int32) dX5_appendInput_29 30 rfl iconst_0 ?_
      exact jn_X5_appendInput_30 hC hZ o p0 (0 : Int32) h
    · have h := h.2 c
      refine g_iconst hC (2 : Int32) dX5_appendInput_25 26 rfl iconst_2 ?_
      refine g_goto hC dX5_appendInput_26 30 (by decide) ?_
      exact jn_X5_appendInput_30 hC hZ o p0 (2 : Int32) h
  · have h := h.2 c
    refine g_iconst hC (1 : Int32) dX5_appendInput_12 13 rfl iconst_1 ?_
    refine g_goto hC dX5_appendInput_13 30 (by decide) ?_
    exact jn_X5_appendInput_30 hC hZ o p0 (1 : Int32) h
def wp_X5_mark (post : Int32 → Prop) (o : Off) : Prop := ((¬ (o 0 23) = 0 → post (-1 : Int32)) ∧ ((o 0 23) = 0 → (((o 0 20) ≤ (o 0 21) → post (-1 : Int32)) ∧ (¬ (o 0 20) ≤ (o 0 21) → (vp_in (o 0 21) 60 ∧ post (o 7 (o 0 21).toNatClampNeg))))))
set_option maxRecDepth 100000 in
set_option maxHeartbeats 4000000 in
theorem ct_X5_mark (l : Launch) (g : gE) (a : Nat → Nat) (o : Off) (post : Int32 → Prop) (h : wp_X5_mark post o ) : Fn l g yX5_mark cX5_mark 1 (some .int) 0 0 0 0 (modW g a o) [.ref (a 0)] (pR (modW g a o) post) := by
  refine Fn.of (by decide) (Nat.le_of_ble_eq_true rfl) (fun x hC hZ => ?_)
  rw [wp_X5_mark] at h
  show G x g 1 0 0 (modW g a o) 0 [(0, .ref (a 0))] []
  refine g_aload_n hC dX5_mark_0 1 rfl rfl 0 rfl ?_
  refine g_get hC fl_X5_81 dX5_mark_1 4 rfl 0 rfl rfl ?_
  refine g_if_ne hC dX5_mark_4 30 (by decide) 7 rfl (fun c => ?_) (fun c => ?_)
  · have h := h.1 c
    refine g_iconst hC (-1 : Int32) dX5_mark_30 31 rfl iconst_m1 ?_
    exact g_iret hC hZ dX5_mark_31 ⟨_, rfl, rfl, h⟩
  · have h := h.2 c
    refine g_aload_n hC dX5_mark_7 8 rfl rfl 0 rfl ?_
    refine g_get hC fl_X5_75 dX5_mark_8 11 rfl 0 rfl rfl ?_
    refine g_aload_n hC dX5_mark_11 12 rfl rfl 0 rfl ?_
    refine g_get hC fl_X5_72 dX5_mark_12 15 rfl 0 rfl rfl ?_
    refine g_icmp_ge hC dX5_mark_15 30 (by decide) 18 rfl (fun c => ?_) (fun c => ?_)
    · have h := h.1 c
      refine g_iconst hC (-1 : Int32) dX5_mark_30 31 rfl iconst_m1 ?_
      exact g_iret hC hZ dX5_mark_31 ⟨_, rfl, rfl, h⟩
    · have h := h.2 c
      refine g_aload_n hC dX5_mark_18 19 rfl rfl 0 rfl ?_
      refine g_get hC fl_X5_60 dX5_mark_19 22 rfl 0 rfl rfl ?_
      refine g_aload_n hC dX5_mark_22 23 rfl rfl 0 rfl ?_
      refine g_get hC fl_X5_75 dX5_mark_23 26 rfl 0 rfl rfl ?_
      obtain ⟨hi, h⟩ := h
      refine g_iald hC dX5_mark_26 27 rfl 7 rfl hi ?_
      refine g_goto hC dX5_mark_27 31 (by decide) ?_
      exact g_iret hC hZ dX5_mark_31 ⟨_, rfl, rfl, h⟩
def wj_X5_next_14 (post : Int32 → Off → Prop) (o : Off) (s0 : Int32) (s1 : Int32) : Prop := (isB (s1 ||| s0) ∧ (∀ o1 : Off, o1 = st o 0 23 (s1 ||| s0) → (((o1 0 23) = 0 → (∀ o2 : Off, o2 = st o1 0 21 ((o1 0 21) + (1 : Int32)) → (vp_in ((o2 0 21) - (1 : Int32)) 60 ∧ post (o2 7 ((o2 0 21) - (1 : Int32)).toNatClampNeg) o2))) ∧ (¬ (o1 0 23) = 0 → post (0 : Int32) o1))))
def wp_X5_next (post : Int32 → Off → Prop) (o : Off) (p0 : Int32) : Prop := ((¬ p0 = 0 → wj_X5_next_14 post o (0 : Int32) (o 0 23)) ∧ (p0 = 0 → wj_X5_next_14 post o (1 : Int32) (o 0 23)))
set_option maxRecDepth 100000 in
set_option maxHeartbeats 4000000 in
theorem jn_X5_next_14 {x : gX} {l : Launch} {g : gE} {a : Nat → Nat} {o0 : Off} {post : Int32 → Off → Prop} (hC : gC x l cX5_next 2 RX5 g 0 0 0 0) (hZ : gZ x g (some .int) (modW g a o0) (pI (modW g a) post) 0 0) : ∀ (o : Off) (s0 : Int32) (s1 : Int32) , wj_X5_next_14 post o s0 s1 → G x g 2 0 0 (modW g a o) 14 [(0, .ref (a 0))] [.int s0, .int s1, .ref (a 0)] := by
  intro o s0 s1 h
  rw [wj_X5_next_14] at h
  refine g_ior hC dX5_next_14 15 rfl ?_
  obtain ⟨hb, h⟩ := h
  obtain ⟨o1, eo1⟩ : ∃ y : Off, y = st o 0 23 (s1 ||| s0) := ⟨_, rfl⟩
  have h := h o1 eo1
  refine g_put hC fp_X5_81 dX5_next_15 18 rfl 0 rfl (isB_n hb) (isB_f hb) (Nat.le_of_ble_eq_true rfl) (modW_p23 eo1) ?_
  refine g_aload_n hC dX5_next_18 19 rfl rfl 0 rfl ?_
  refine g_get hC fl_X5_81 dX5_next_19 22 rfl 0 rfl rfl ?_
  refine g_if_eq hC dX5_next_22 27 (by decide) 25 rfl (fun c => ?_) (fun c => ?_)
  · have h := h.1 c
    refine g_aload_n hC dX5_next_27 28 rfl rfl 0 rfl ?_
    refine g_dup hC dX5_next_28 29 rfl rfl ?_
    refine g_get hC fl_X5_75 dX5_next_29 32 rfl 0 rfl rfl ?_
    refine g_iconst hC (1 : Int32) dX5_next_32 33 rfl iconst_1 ?_
    refine g_iadd hC dX5_next_33 34 rfl ?_
    obtain ⟨o2, eo2⟩ : ∃ y : Off, y = st o1 0 21 ((o1 0 21) + (1 : Int32)) := ⟨_, rfl⟩
    have h := h o2 eo2
    refine g_put hC fp_X5_75 dX5_next_34 37 rfl 0 rfl rfl rfl (Nat.le_of_ble_eq_true rfl) (modW_p21 eo2) ?_
    refine g_aload_n hC dX5_next_37 38 rfl rfl 0 rfl ?_
    refine g_get hC fl_X5_60 dX5_next_38 41 rfl 0 rfl rfl ?_
    refine g_aload_n hC dX5_next_41 42 rfl rfl 0 rfl ?_
    refine g_get hC fl_X5_75 dX5_next_42 45 rfl 0 rfl rfl ?_
    refine g_iconst hC (1 : Int32) dX5_next_45 46 rfl iconst_1 ?_
    refine g_isub hC dX5_next_46 47 rfl ?_
    obtain ⟨hi, h⟩ := h
    refine g_iald hC dX5_next_47 48 rfl 7 rfl hi ?_
    exact g_iret hC hZ dX5_next_48 ⟨_, _, rfl, rfl, h⟩
  · have h := h.2 c
    refine g_iconst hC (0 : Int32) dX5_next_25 26 rfl iconst_0 ?_
    exact g_iret hC hZ dX5_next_26 ⟨_, _, rfl, rfl, h⟩
set_option maxRecDepth 100000 in
set_option maxHeartbeats 4000000 in
theorem ct_X5_next (l : Launch) (g : gE) (a : Nat → Nat) (o : Off) (p0 : Int32) (post : Int32 → Off → Prop) (h : wp_X5_next post o p0) : Fn l g yX5_next cX5_next 2 (some .int) 0 0 0 0 (modW g a o) [.ref (a 0), .int p0] (pI (modW g a) post) := by
  refine Fn.of (by decide) (Nat.le_of_ble_eq_true rfl) (fun x hC hZ => ?_)
  rw [wp_X5_next] at h
  show G x g 2 0 0 (modW g a o) 0 [(0, .ref (a 0)), (1, .int p0)] []
  refine g_aload_n hC dX5_next_0 1 rfl rfl 0 rfl ?_
  refine g_dup hC dX5_next_1 2 rfl rfl ?_
  refine g_get hC fl_X5_81 dX5_next_2 5 rfl 0 rfl rfl ?_
  refine g_iload_n hC dX5_next_5 6 rfl rfl 1 rfl ?_
  refine g_if_ne hC dX5_next_6 13 (by decide) 9 rfl (fun c => ?_) (fun c => ?_)
  · have h := h.1 c
    refine g_iconst hC (0 : Int32) dX5_next_13 14 rfl iconst_0 ?_
    refine g_lv (lv2 := [(0, .ref (a 0))]) [0] rfl ?_
    exact jn_X5_next_14 hC hZ o (0 : Int32) (o 0 23) h
  · have h := h.2 c
    refine g_iconst hC (1 : Int32) dX5_next_9 10 rfl iconst_1 ?_
    refine g_goto hC dX5_next_10 14 (by decide) ?_
    refine g_lv (lv2 := [(0, .ref (a 0))]) [0] rfl ?_
    exact jn_X5_next_14 hC hZ o (1 : Int32) (o 0 23) h
def wp_X5_digit (post : Int32 → Off → Prop) (o : Off) : Prop := wp_X5_mark (fun v1 => wp_X5_in (fun v2 => wp_X5_next (fun v4 o3 => post (v4 - (48 : Int32)) o3) o v2) v1 (48 : Int32) (57 : Int32)) o 
set_option maxRecDepth 100000 in
set_option maxHeartbeats 4000000 in
theorem ct_X5_digit (l : Launch) (g : gE) (a : Nat → Nat) (o : Off) (post : Int32 → Off → Prop) (h : wp_X5_digit post o ) : Fn l g yX5_digit cX5_digit 1 (some .int) 1 22 0 0 (modW g a o) [.ref (a 0)] (pI (modW g a) post) := by
  refine Fn.of (by decide) (Nat.le_of_ble_eq_true rfl) (fun x hC hZ => ?_)
  rw [wp_X5_digit] at h
  show G x g 1 0 0 (modW g a o) 0 [(0, .ref (a 0))] []
  refine g_aload_n hC dX5_digit_0 1 rfl rfl 0 rfl ?_
  refine g_aload_n hC dX5_digit_1 2 rfl rfl 0 rfl ?_
  refine g_readV hC (ct_X5_mark l g a o  _ h) gY_X5_mark dX5_digit_2 5 rfl ml_X5_290 [] [] (by simp only [List.nil_append, List.append_nil]) [.ref (a 0)] rfl rfl rfl 0 9 rfl rfl ⟨Nat.le_of_ble_eq_true rfl, Nat.le_of_ble_eq_true rfl⟩ (Nat.le_of_ble_eq_true rfl) ⟨Nat.le_refl _, Nat.le_refl _⟩ (fun v1 h => ?_)
  refine g_bipush hC (48 : Int32) dX5_digit_5 7 rfl bipush_48 ?_
  refine g_bipush hC (57 : Int32) dX5_digit_7 9 rfl bipush_57 ?_
  refine g_readS hC (ct_X5_in l g v1 (48 : Int32) (57 : Int32) _ h) gY_X5_in dX5_digit_9 12 rfl ml_X5_92 [] _ rfl [.ref (a 0)] rfl rfl ⟨Nat.le_of_ble_eq_true rfl, Nat.le_of_ble_eq_true rfl⟩ (Nat.le_of_ble_eq_true rfl) ⟨Nat.le_refl _, Nat.le_refl _⟩ (fun v2 h => ?_)
  refine g_ownI hC (ct_X5_next l g a o v2 _ h) gY_X5_next dX5_digit_12 15 rfl ml_X5_293 [] rfl rfl rfl 0 9 rfl rfl ⟨Nat.le_of_ble_eq_true rfl, Nat.le_of_ble_eq_true rfl⟩ (Nat.le_of_ble_eq_true rfl) ⟨Nat.le_refl _, Nat.le_refl _⟩ (fun v4 o3 h => ?_)
  refine g_bipush hC (48 : Int32) dX5_digit_15 17 rfl bipush_48 ?_
  refine g_isub hC dX5_digit_17 18 rfl ?_
  exact g_iret hC hZ dX5_digit_18 ⟨_, _, rfl, rfl, h⟩
def wp_X5_number (post : Int32 → Off → Prop) (o : Off) : Prop := wp_X5_digit (fun v2 o1 => wp_X5_mark (fun v3 => wp_X5_in (fun v4 => ((v4 = 0 → post v2 o1) ∧ (¬ v4 = 0 → wp_X5_digit (fun v6 o5 => post (((10 : Int32) * v2) + v6) o5) o1 ))) v3 (48 : Int32) (57 : Int32)) o1 ) o 
set_option maxRecDepth 100000 in
set_option maxHeartbeats 4000000 in
theorem ct_X5_number (l : Launch) (g : gE) (a : Nat → Nat) (o : Off) (post : Int32 → Off → Prop) (h : wp_X5_number post o ) : Fn l g yX5_number cX5_number 2 (some .int) 2 42 0 0 (modW g a o) [.ref (a 0)] (pI (modW g a) post) := by
  refine Fn.of (by decide) (Nat.le_of_ble_eq_true rfl) (fun x hC hZ => ?_)
  rw [wp_X5_number] at h
  show G x g 2 0 0 (modW g a o) 0 [(0, .ref (a 0))] []
  refine g_aload_n hC dX5_number_0 1 rfl rfl 0 rfl ?_
  refine g_ownI hC (ct_X5_digit l g a o  _ h) gY_X5_digit dX5_number_1 4 rfl ml_X5_296 [] rfl rfl rfl 0 9 rfl rfl ⟨Nat.le_of_ble_eq_true rfl, Nat.le_of_ble_eq_true rfl⟩ (Nat.le_of_ble_eq_true rfl) ⟨Nat.le_refl _, Nat.le_refl _⟩ (fun v2 o1 h => ?_)
  refine g_istore_n (lv2 := [(1, .int v2), (0, .ref (a 0))]) hC dX5_number_4 5 rfl rfl (by decide) rfl ?_
  refine g_aload_n hC dX5_number_5 6 rfl rfl 1 rfl ?_
  refine g_readV hC (ct_X5_mark l g a o1  _ h) gY_X5_mark dX5_number_6 9 rfl ml_X5_290 [] [] (by simp only [List.nil_append, List.append_nil]) [] rfl rfl rfl 0 9 rfl rfl ⟨Nat.le_of_ble_eq_true rfl, Nat.le_of_ble_eq_true rfl⟩ (Nat.le_of_ble_eq_true rfl) ⟨Nat.le_refl _, Nat.le_refl _⟩ (fun v3 h => ?_)
  refine g_bipush hC (48 : Int32) dX5_number_9 11 rfl bipush_48 ?_
  refine g_bipush hC (57 : Int32) dX5_number_11 13 rfl bipush_57 ?_
  refine g_readS hC (ct_X5_in l g v3 (48 : Int32) (57 : Int32) _ h) gY_X5_in dX5_number_13 16 rfl ml_X5_92 [] _ rfl [] rfl rfl ⟨Nat.le_of_ble_eq_true rfl, Nat.le_of_ble_eq_true rfl⟩ (Nat.le_of_ble_eq_true rfl) ⟨Nat.le_refl _, Nat.le_refl _⟩ (fun v4 h => ?_)
  refine g_if_eq hC dX5_number_16 31 (by decide) 19 rfl (fun c => ?_) (fun c => ?_)
  · have h := h.1 c
    refine g_iload_n hC dX5_number_31 32 rfl rfl 0 rfl ?_
    exact g_iret hC hZ dX5_number_32 ⟨_, _, rfl, rfl, h⟩
  · have h := h.2 c
    refine g_bipush hC (10 : Int32) dX5_number_19 21 rfl bipush_10 ?_
    refine g_iload_n hC dX5_number_21 22 rfl rfl 0 rfl ?_
    refine g_imul hC dX5_number_22 23 rfl ?_
    refine g_aload_n hC dX5_number_23 24 rfl rfl 1 rfl ?_
    refine g_ownI hC (ct_X5_digit l g a o1  _ h) gY_X5_digit dX5_number_24 27 rfl ml_X5_296 [.int ((10 : Int32) * v2)] rfl rfl rfl 0 9 rfl rfl ⟨Nat.le_of_ble_eq_true rfl, Nat.le_of_ble_eq_true rfl⟩ (Nat.le_of_ble_eq_true rfl) ⟨Nat.le_refl _, Nat.le_refl _⟩ (fun v6 o5 h => ?_)
    refine g_iadd hC dX5_number_27 28 rfl ?_
    refine g_goto hC dX5_number_28 32 (by decide) ?_
    exact g_iret hC hZ dX5_number_32 ⟨_, _, rfl, rfl, h⟩
def wj_X5_colour_16 (post : Int32 → Off → Prop) (o : Off) (s0 : Int32) : Prop := wp_X5_next (fun v4 o3 => post v4 o3) o s0
def wp_X5_colour (post : Int32 → Off → Prop) (o : Off) : Prop := wp_X5_mark (fun v1 => wp_X5_bitOf (fun v2 => ((v2 ≤ 0 → wj_X5_colour_16 post o (0 : Int32)) ∧ (¬ v2 ≤ 0 → wj_X5_colour_16 post o (1 : Int32)))) v1) o 
set_option maxRecDepth 100000 in
set_option maxHeartbeats 4000000 in
theorem jn_X5_colour_16 {x : gX} {l : Launch} {g : gE} {a : Nat → Nat} {o0 : Off} {post : Int32 → Off → Prop} (hC : gC x l cX5_colour 1 RX5 g 1 21 0 0) (hZ : gZ x g (some .int) (modW g a o0) (pI (modW g a) post) 0 0) : ∀ (o : Off) (s0 : Int32) , wj_X5_colour_16 post o s0 → G x g 1 0 0 (modW g a o) 16 [] [.int s0, .ref (a 0)] := by
  intro o s0 h
  rw [wj_X5_colour_16] at h
  refine g_ownI hC (ct_X5_next l g a o s0 _ h) gY_X5_next dX5_colour_16 19 rfl ml_X5_293 [] rfl rfl rfl 0 9 rfl rfl ⟨Nat.le_of_ble_eq_true rfl, Nat.le_of_ble_eq_true rfl⟩ (Nat.le_of_ble_eq_true rfl) ⟨Nat.le_refl _, Nat.le_refl _⟩ (fun v4 o3 h => ?_)
  exact g_iret hC hZ dX5_colour_19 ⟨_, _, rfl, rfl, h⟩
set_option maxRecDepth 100000 in
set_option maxHeartbeats 4000000 in
theorem ct_X5_colour (l : Launch) (g : gE) (a : Nat → Nat) (o : Off) (post : Int32 → Off → Prop) (h : wp_X5_colour post o ) : Fn l g yX5_colour cX5_colour 1 (some .int) 1 21 0 0 (modW g a o) [.ref (a 0)] (pI (modW g a) post) := by
  refine Fn.of (by decide) (Nat.le_of_ble_eq_true rfl) (fun x hC hZ => ?_)
  rw [wp_X5_colour] at h
  show G x g 1 0 0 (modW g a o) 0 [(0, .ref (a 0))] []
  refine g_aload_n hC dX5_colour_0 1 rfl rfl 0 rfl ?_
  refine g_aload_n hC dX5_colour_1 2 rfl rfl 0 rfl ?_
  refine g_readV hC (ct_X5_mark l g a o  _ h) gY_X5_mark dX5_colour_2 5 rfl ml_X5_290 [] [] (by simp only [List.nil_append, List.append_nil]) [.ref (a 0)] rfl rfl rfl 0 9 rfl rfl ⟨Nat.le_of_ble_eq_true rfl, Nat.le_of_ble_eq_true rfl⟩ (Nat.le_of_ble_eq_true rfl) ⟨Nat.le_refl _, Nat.le_refl _⟩ (fun v1 h => ?_)
  refine g_readS hC (ct_X5_bitOf l g v1 _ h) gY_X5_bitOf dX5_colour_5 8 rfl ml_X5_114 [] _ rfl [.ref (a 0)] rfl rfl ⟨Nat.le_of_ble_eq_true rfl, Nat.le_of_ble_eq_true rfl⟩ (Nat.le_of_ble_eq_true rfl) ⟨Nat.le_refl _, Nat.le_refl _⟩ (fun v2 h => ?_)
  refine g_if_le hC dX5_colour_8 15 (by decide) 11 rfl (fun c => ?_) (fun c => ?_)
  · have h := h.1 c
    refine g_iconst hC (0 : Int32) dX5_colour_15 16 rfl iconst_0 ?_
    refine g_lv (lv2 := []) [] rfl ?_
    exact jn_X5_colour_16 hC hZ o (0 : Int32) h
  · have h := h.2 c
    refine g_iconst hC (1 : Int32) dX5_colour_11 12 rfl iconst_1 ?_
    refine g_goto hC dX5_colour_12 16 (by decide) ?_
    refine g_lv (lv2 := []) [] rfl ?_
    exact jn_X5_colour_16 hC hZ o (1 : Int32) h
def wp_X5_clause (post : Int32 → Off → Prop) (o : Off) : Prop := wp_X5_mark (fun v1 => wp_X5_isClause (fun v2 => wp_X5_next (fun v4 o3 => post v4 o3) o v2) v1) o 
set_option maxRecDepth 100000 in
set_option maxHeartbeats 4000000 in
theorem ct_X5_clause (l : Launch) (g : gE) (a : Nat → Nat) (o : Off) (post : Int32 → Off → Prop) (h : wp_X5_clause post o ) : Fn l g yX5_clause cX5_clause 1 (some .int) 1 21 0 0 (modW g a o) [.ref (a 0)] (pI (modW g a) post) := by
  refine Fn.of (by decide) (Nat.le_of_ble_eq_true rfl) (fun x hC hZ => ?_)
  rw [wp_X5_clause] at h
  show G x g 1 0 0 (modW g a o) 0 [(0, .ref (a 0))] []
  refine g_aload_n hC dX5_clause_0 1 rfl rfl 0 rfl ?_
  refine g_aload_n hC dX5_clause_1 2 rfl rfl 0 rfl ?_
  refine g_readV hC (ct_X5_mark l g a o  _ h) gY_X5_mark dX5_clause_2 5 rfl ml_X5_290 [] [] (by simp only [List.nil_append, List.append_nil]) [.ref (a 0)] rfl rfl rfl 0 9 rfl rfl ⟨Nat.le_of_ble_eq_true rfl, Nat.le_of_ble_eq_true rfl⟩ (Nat.le_of_ble_eq_true rfl) ⟨Nat.le_refl _, Nat.le_refl _⟩ (fun v1 h => ?_)
  refine g_readS hC (ct_X5_isClause l g v1 _ h) gY_X5_isClause dX5_clause_5 8 rfl ml_X5_266 [] _ rfl [.ref (a 0)] rfl rfl ⟨Nat.le_of_ble_eq_true rfl, Nat.le_of_ble_eq_true rfl⟩ (Nat.le_of_ble_eq_true rfl) ⟨Nat.le_refl _, Nat.le_refl _⟩ (fun v2 h => ?_)
  refine g_ownI hC (ct_X5_next l g a o v2 _ h) gY_X5_next dX5_clause_8 11 rfl ml_X5_293 [] rfl rfl rfl 0 9 rfl rfl ⟨Nat.le_of_ble_eq_true rfl, Nat.le_of_ble_eq_true rfl⟩ (Nat.le_of_ble_eq_true rfl) ⟨Nat.le_refl _, Nat.le_refl _⟩ (fun v4 o3 h => ?_)
  exact g_iret hC hZ dX5_clause_11 ⟨_, _, rfl, rfl, h⟩
def wj_X5_sign_14 (post : Off → Prop) (o : Off) (s0 : Int32) : Prop := wp_X5_next (fun v3 o2 => post o2) o s0
def wp_X5_sign (post : Off → Prop) (o : Off) (p0 : Int32) : Prop := wp_X5_mark (fun v1 => ((¬ v1 = p0 → wj_X5_sign_14 post o (0 : Int32)) ∧ (v1 = p0 → wj_X5_sign_14 post o (1 : Int32)))) o 
set_option maxRecDepth 100000 in
set_option maxHeartbeats 4000000 in
theorem jn_X5_sign_14 {x : gX} {l : Launch} {g : gE} {a : Nat → Nat} {o0 : Off} {post : Off → Prop} (hC : gC x l cX5_sign 3 RX5 g 1 21 0 0) (hZ : gZ x g none (modW g a o0) (pV (modW g a) post) 0 0) : ∀ (o : Off) (s0 : Int32) , wj_X5_sign_14 post o s0 → G x g 3 0 0 (modW g a o) 14 [] [.int s0, .ref (a 0)] := by
  intro o s0 h
  rw [wj_X5_sign_14] at h
  refine g_ownI hC (ct_X5_next l g a o s0 _ h) gY_X5_next dX5_sign_14 17 rfl ml_X5_293 [] rfl rfl rfl 0 9 rfl rfl ⟨Nat.le_of_ble_eq_true rfl, Nat.le_of_ble_eq_true rfl⟩ (Nat.le_of_ble_eq_true rfl) ⟨Nat.le_refl _, Nat.le_refl _⟩ (fun v3 o2 h => ?_)
  refine g_istore_n (lv2 := [(2, .int v3)]) hC dX5_sign_17 18 rfl rfl (by decide) rfl ?_
  exact g_vret hC hZ dX5_sign_18 ⟨_, rfl, rfl, h⟩
set_option maxRecDepth 100000 in
set_option maxHeartbeats 4000000 in
theorem ct_X5_sign (l : Launch) (g : gE) (a : Nat → Nat) (o : Off) (p0 : Int32) (post : Off → Prop) (h : wp_X5_sign post o p0) : Fn l g yX5_sign cX5_sign 3 none 1 21 0 0 (modW g a o) [.ref (a 0), .int p0] (pV (modW g a) post) := by
  refine Fn.of (by decide) (Nat.le_of_ble_eq_true rfl) (fun x hC hZ => ?_)
  rw [wp_X5_sign] at h
  show G x g 3 0 0 (modW g a o) 0 [(0, .ref (a 0)), (1, .int p0)] []
  refine g_aload_n hC dX5_sign_0 1 rfl rfl 0 rfl ?_
  refine g_aload_n hC dX5_sign_1 2 rfl rfl 0 rfl ?_
  refine g_readV hC (ct_X5_mark l g a o  _ h) gY_X5_mark dX5_sign_2 5 rfl ml_X5_290 [] [] (by simp only [List.nil_append, List.append_nil]) [.ref (a 0)] rfl rfl rfl 0 9 rfl rfl ⟨Nat.le_of_ble_eq_true rfl, Nat.le_of_ble_eq_true rfl⟩ (Nat.le_of_ble_eq_true rfl) ⟨Nat.le_refl _, Nat.le_refl _⟩ (fun v1 h => ?_)
  refine g_iload_n hC dX5_sign_5 6 rfl rfl 1 rfl ?_
  refine g_icmp_ne hC dX5_sign_6 13 (by decide) 9 rfl (fun c => ?_) (fun c => ?_)
  · have h := h.1 c
    refine g_iconst hC (0 : Int32) dX5_sign_13 14 rfl iconst_0 ?_
    refine g_lv (lv2 := []) [] rfl ?_
    exact jn_X5_sign_14 hC hZ o (0 : Int32) h
  · have h := h.2 c
    refine g_iconst hC (1 : Int32) dX5_sign_9 10 rfl iconst_1 ?_
    refine g_goto hC dX5_sign_10 14 (by decide) ?_
    refine g_lv (lv2 := []) [] rfl ?_
    exact jn_X5_sign_14 hC hZ o (1 : Int32) h
def wp_X5_keeps (post : Off → Prop) (o : Off) (p0 : Int32) (p1 : Int32) (p2 : Int32) : Prop := (vp_in ((3 : Int32) * (o 0 22)) 96 ∧ (∀ o1 : Off, o1 = st o 9 ((3 : Int32) * (o 0 22)).toNatClampNeg p0 → (vp_in (((3 : Int32) * (o1 0 22)) + (1 : Int32)) 96 ∧ (∀ o2 : Off, o2 = st o1 9 (((3 : Int32) * (o1 0 22)) + (1 : Int32)).toNatClampNeg p1 → (vp_in (((3 : Int32) * (o2 0 22)) + (2 : Int32)) 96 ∧ (∀ o3 : Off, o3 = st o2 9 (((3 : Int32) * (o2 0 22)) + (2 : Int32)).toNatClampNeg p2 → post o3))))))
set_option maxRecDepth 100000 in
set_option maxHeartbeats 4000000 in
theorem ct_X5_keeps (l : Launch) (g : gE) (a : Nat → Nat) (o : Off) (p0 : Int32) (p1 : Int32) (p2 : Int32) (post : Off → Prop) (h : wp_X5_keeps post o p0 p1 p2) : Fn l g yX5_keeps cX5_keeps 4 none 0 0 0 0 (modW g a o) [.ref (a 0), .int p0, .int p1, .int p2] (pV (modW g a) post) := by
  refine Fn.of (by decide) (Nat.le_of_ble_eq_true rfl) (fun x hC hZ => ?_)
  rw [wp_X5_keeps] at h
  show G x g 4 0 0 (modW g a o) 0 [(0, .ref (a 0)), (1, .int p0), (2, .int p1), (3, .int p2)] []
  refine g_aload_n hC dX5_keeps_0 1 rfl rfl 0 rfl ?_
  refine g_get hC fl_X5_66 dX5_keeps_1 4 rfl 0 rfl rfl ?_
  refine g_iconst hC (3 : Int32) dX5_keeps_4 5 rfl iconst_3 ?_
  refine g_aload_n hC dX5_keeps_5 6 rfl rfl 0 rfl ?_
  refine g_get hC fl_X5_78 dX5_keeps_6 9 rfl 0 rfl rfl ?_
  refine g_imul hC dX5_keeps_9 10 rfl ?_
  refine g_iload_n hC dX5_keeps_10 11 rfl rfl 1 rfl ?_
  obtain ⟨hi, h⟩ := h
  obtain ⟨o1, eo1⟩ : ∃ y : Off, y = st o 9 ((3 : Int32) * (o 0 22)).toNatClampNeg p0 := ⟨_, rfl⟩
  have h := h o1 eo1
  refine g_iast hC dX5_keeps_11 12 rfl 9 rfl hi (modW_s9 eo1) ?_
  refine g_aload_n hC dX5_keeps_12 13 rfl rfl 0 rfl ?_
  refine g_get hC fl_X5_66 dX5_keeps_13 16 rfl 0 rfl rfl ?_
  refine g_iconst hC (3 : Int32) dX5_keeps_16 17 rfl iconst_3 ?_
  refine g_aload_n hC dX5_keeps_17 18 rfl rfl 0 rfl ?_
  refine g_get hC fl_X5_78 dX5_keeps_18 21 rfl 0 rfl rfl ?_
  refine g_imul hC dX5_keeps_21 22 rfl ?_
  refine g_iconst hC (1 : Int32) dX5_keeps_22 23 rfl iconst_1 ?_
  refine g_iadd hC dX5_keeps_23 24 rfl ?_
  refine g_iload_n hC dX5_keeps_24 25 rfl rfl 2 rfl ?_
  obtain ⟨hi, h⟩ := h
  obtain ⟨o2, eo2⟩ : ∃ y : Off, y = st o1 9 (((3 : Int32) * (o1 0 22)) + (1 : Int32)).toNatClampNeg p1 := ⟨_, rfl⟩
  have h := h o2 eo2
  refine g_iast hC dX5_keeps_25 26 rfl 9 rfl hi (modW_s9 eo2) ?_
  refine g_aload_n hC dX5_keeps_26 27 rfl rfl 0 rfl ?_
  refine g_get hC fl_X5_66 dX5_keeps_27 30 rfl 0 rfl rfl ?_
  refine g_iconst hC (3 : Int32) dX5_keeps_30 31 rfl iconst_3 ?_
  refine g_aload_n hC dX5_keeps_31 32 rfl rfl 0 rfl ?_
  refine g_get hC fl_X5_78 dX5_keeps_32 35 rfl 0 rfl rfl ?_
  refine g_imul hC dX5_keeps_35 36 rfl ?_
  refine g_iconst hC (2 : Int32) dX5_keeps_36 37 rfl iconst_2 ?_
  refine g_iadd hC dX5_keeps_37 38 rfl ?_
  refine g_iload_n hC dX5_keeps_38 39 rfl rfl 3 rfl ?_
  obtain ⟨hi, h⟩ := h
  obtain ⟨o3, eo3⟩ : ∃ y : Off, y = st o2 9 (((3 : Int32) * (o2 0 22)) + (2 : Int32)).toNatClampNeg p2 := ⟨_, rfl⟩
  have h := h o3 eo3
  refine g_iast hC dX5_keeps_39 40 rfl 9 rfl hi (modW_s9 eo3) ?_
  exact g_vret hC hZ dX5_keeps_40 ⟨_, rfl, rfl, h⟩
def wj_X5_command_428 (post : Off → Prop) (o : Off) : Prop := ((¬ (o 0 23) = 0 → post o) ∧ ((o 0 23) = 0 → (∀ o11 : Off, o11 = st o 0 22 ((o 0 22) + (1 : Int32)) → post o11)))
def wj_X5_command_109 (post : Off → Prop) (o : Off) (x1 : Int32) (s0 : Int32) : Prop := wp_X5_next (fun v3 o2 => (((o2 0 23) = 0 → (vp_in (o2 0 22) 32 ∧ (∀ o4 : Off, o4 = st o2 8 (o2 0 22).toNatClampNeg x1 → ((x1 = (97 : Int32) → wp_X5_number (fun v6 o5 => wp_X5_sign (fun o7 => wp_X5_digit (fun v9 o8 => wp_X5_keeps (fun o10 => wj_X5_command_428 post o10) o8 v6 v9 (0 : Int32)) o7 ) o5 (62 : Int32)) o4 ) ∧ (¬ x1 = (97 : Int32) → ((x1 = (98 : Int32) → wp_X5_digit (fun v13 o12 => wp_X5_colour (fun v15 o14 => wp_X5_keeps (fun o16 => wj_X5_command_428 post o16) o14 v13 v15 (0 : Int32)) o12 ) o4 ) ∧ (¬ x1 = (98 : Int32) → ((x1 = (100 : Int32) → wp_X5_digit (fun v18 o17 => wp_X5_keeps (fun o19 => wj_X5_command_428 post o19) o17 v18 (0 : Int32) (0 : Int32)) o4 ) ∧ (¬ x1 = (100 : Int32) → ((x1 = (101 : Int32) → wp_X5_digit (fun v21 o20 => wp_X5_digit (fun v23 o22 => wp_X5_keeps (fun o24 => wj_X5_command_428 post o24) o22 v21 v23 (0 : Int32)) o20 ) o4 ) ∧ (¬ x1 = (101 : Int32) → ((x1 = (106 : Int32) → wp_X5_number (fun v26 o25 => wp_X5_sign (fun o27 => wp_X5_number (fun v29 o28 => wp_X5_keeps (fun o30 => wj_X5_command_428 post o30) o28 v26 v29 (0 : Int32)) o27 ) o25 (38 : Int32)) o4 ) ∧ (¬ x1 = (106 : Int32) → ((x1 = (109 : Int32) → wp_X5_number (fun v32 o31 => wp_X5_sign (fun o33 => wp_X5_digit (fun v35 o34 => wp_X5_keeps (fun o36 => wj_X5_command_428 post o36) o34 v32 v35 (0 : Int32)) o33 ) o31 (62 : Int32)) o4 ) ∧ (¬ x1 = (109 : Int32) → ((x1 = (110 : Int32) → wp_X5_colour (fun v38 o37 => wp_X5_digit (fun v40 o39 => wp_X5_keeps (fun o41 => wj_X5_command_428 post o41) o39 v38 v40 (0 : Int32)) o37 ) o4 ) ∧ (¬ x1 = (110 : Int32) → ((x1 = (113 : Int32) → wp_X5_digit (fun v43 o42 => wp_X5_sign (fun o44 => wp_X5_digit (fun v46 o45 => wp_X5_keeps (fun o47 => wj_X5_command_428 post o47) o45 v43 v46 (0 : Int32)) o44 ) o42 (61 : Int32)) o4 ) ∧ (¬ x1 = (113 : Int32) → ((x1 = (114 : Int32) → wp_X5_number (fun v49 o48 => wp_X5_sign (fun o50 => wp_X5_digit (fun v52 o51 => wp_X5_keeps (fun o53 => wj_X5_command_428 post o53) o51 v49 v52 (0 : Int32)) o50 ) o48 (43 : Int32)) o4 ) ∧ (¬ x1 = (114 : Int32) → ((x1 = (116 : Int32) → wp_X5_digit (fun v55 o54 => wp_X5_digit (fun v57 o56 => wp_X5_clause (fun v59 o58 => wp_X5_keeps (fun o60 => wj_X5_command_428 post o60) o58 v55 v57 v59) o56 ) o54 ) o4 ) ∧ (¬ x1 = (116 : Int32) → ((x1 = (117 : Int32) → wp_X5_digit (fun v62 o61 => wp_X5_colour (fun v64 o63 => wp_X5_keeps (fun o65 => wj_X5_command_428 post o65) o63 v62 v64 (0 : Int32)) o61 ) o4 ) ∧ (¬ x1 = (117 : Int32) → wp_X5_number (fun v67 o66 => wp_X5_keeps (fun o68 => wj_X5_command_428 post o68) o66 v67 (0 : Int32) (0 : Int32)) o4 ))))))))))))))))))))))))) ∧ (¬ (o2 0 23) = 0 → post o2))) o s0
def wj_X5_command_104 (post : Off → Prop) (o : Off) (x1 : Int32) : Prop := wj_X5_command_109 post o x1 (1 : Int32)
def wp_X5_command (post : Off → Prop) (o : Off) : Prop := wp_X5_mark (fun v1 => ((v1 = (110 : Int32) → wj_X5_command_104 post o v1) ∧ (¬ v1 = (110 : Int32) → ((v1 = (97 : Int32) → wj_X5_command_104 post o v1) ∧ (¬ v1 = (97 : Int32) → ((v1 = (119 : Int32) → wj_X5_command_104 post o v1) ∧ (¬ v1 = (119 : Int32) → ((v1 = (112 : Int32) → wj_X5_command_104 post o v1) ∧ (¬ v1 = (112 : Int32) → ((v1 = (100 : Int32) → wj_X5_command_104 post o v1) ∧ (¬ v1 = (100 : Int32) → ((v1 = (114 : Int32) → wj_X5_command_104 post o v1) ∧ (¬ v1 = (114 : Int32) → ((v1 = (108 : Int32) → wj_X5_command_104 post o v1) ∧ (¬ v1 = (108 : Int32) → ((v1 = (109 : Int32) → wj_X5_command_104 post o v1) ∧ (¬ v1 = (109 : Int32) → ((v1 = (106 : Int32) → wj_X5_command_104 post o v1) ∧ (¬ v1 = (106 : Int32) → ((v1 = (107 : Int32) → wj_X5_command_104 post o v1) ∧ (¬ v1 = (107 : Int32) → ((v1 = (113 : Int32) → wj_X5_command_104 post o v1) ∧ (¬ v1 = (113 : Int32) → ((v1 = (98 : Int32) → wj_X5_command_104 post o v1) ∧ (¬ v1 = (98 : Int32) → ((v1 = (117 : Int32) → wj_X5_command_104 post o v1) ∧ (¬ v1 = (117 : Int32) → ((v1 = (116 : Int32) → wj_X5_command_104 post o v1) ∧ (¬ v1 = (116 : Int32) → ((v1 = (101 : Int32) → wj_X5_command_104 post o v1) ∧ (¬ v1 = (101 : Int32) → ((¬ v1 = (121 : Int32) → wj_X5_command_109 post o v1 (0 : Int32)) ∧ (v1 = (121 : Int32) → wj_X5_command_104 post o v1))))))))))))))))))))))))))))))))) o 
set_option maxRecDepth 100000 in
set_option maxHeartbeats 4000000 in
theorem jn_X5_command_428 {x : gX} {l : Launch} {g : gE} {a : Nat → Nat} {o0 : Off} {post : Off → Prop} (hC : gC x l cX5_command 4 RX5 g 3 63 0 0) (hZ : gZ x g none (modW g a o0) (pV (modW g a) post) 0 0) : ∀ (o : Off) , wj_X5_command_428 post o → G x g 4 0 0 (modW g a o) 428 [(0, .ref (a 0))] [] := by
  intro o h
  rw [wj_X5_command_428] at h
  refine g_aload_n hC dX5_command_428 429 rfl rfl 0 rfl ?_
  refine g_get hC fl_X5_81 dX5_command_429 432 rfl 0 rfl rfl ?_
  refine g_if_ne hC dX5_command_432 445 (by decide) 435 rfl (fun c => ?_) (fun c => ?_)
  · have h := h.1 c
    exact g_vret hC hZ dX5_command_445 ⟨_, rfl, rfl, h⟩
  · have h := h.2 c
    refine g_aload_n hC dX5_command_435 436 rfl rfl 0 rfl ?_
    refine g_dup hC dX5_command_436 437 rfl rfl ?_
    refine g_get hC fl_X5_78 dX5_command_437 440 rfl 0 rfl rfl ?_
    refine g_iconst hC (1 : Int32) dX5_command_440 441 rfl iconst_1 ?_
    refine g_iadd hC dX5_command_441 442 rfl ?_
    obtain ⟨o11, eo11⟩ : ∃ y : Off, y = st o 0 22 ((o 0 22) + (1 : Int32)) := ⟨_, rfl⟩
    have h := h o11 eo11
    refine g_put hC fp_X5_78 dX5_command_442 445 rfl 0 rfl rfl rfl (Nat.le_of_ble_eq_true rfl) (modW_p22 eo11) ?_
    exact g_vret hC hZ dX5_command_445 ⟨_, rfl, rfl, h⟩
set_option maxRecDepth 100000 in
set_option maxHeartbeats 4000000 in
theorem jn_X5_command_109 {x : gX} {l : Launch} {g : gE} {a : Nat → Nat} {o0 : Off} {post : Off → Prop} (hC : gC x l cX5_command 4 RX5 g 3 63 0 0) (hZ : gZ x g none (modW g a o0) (pV (modW g a) post) 0 0) : ∀ (o : Off) (x1 : Int32) (s0 : Int32) , wj_X5_command_109 post o x1 s0 → G x g 4 0 0 (modW g a o) 109 [(0, .ref (a 0)), (1, .int x1)] [.int s0, .ref (a 0)] := by
  intro o x1 s0 h
  rw [wj_X5_command_109] at h
  refine g_ownI hC (ct_X5_next l g a o s0 _ h) gY_X5_next dX5_command_109 112 rfl ml_X5_293 [] rfl rfl rfl 0 9 rfl rfl ⟨Nat.le_of_ble_eq_true rfl, Nat.le_of_ble_eq_true rfl⟩ (Nat.le_of_ble_eq_true rfl) ⟨Nat.le_refl _, Nat.le_refl _⟩ (fun v3 o2 h => ?_)
  refine g_istore_n (lv2 := [(3, .int v3), (0, .ref (a 0)), (1, .int x1)]) hC dX5_command_112 113 rfl rfl (by decide) rfl ?_
  refine g_aload_n hC dX5_command_113 114 rfl rfl 1 rfl ?_
  refine g_get hC fl_X5_81 dX5_command_114 117 rfl 0 rfl rfl ?_
  refine g_if_eq hC dX5_command_117 121 (by decide) 120 rfl (fun c => ?_) (fun c => ?_)
  · have h := h.1 c
    refine g_aload_n hC dX5_command_121 122 rfl rfl 1 rfl ?_
    refine g_get hC fl_X5_63 dX5_command_122 125 rfl 0 rfl rfl ?_
    refine g_aload_n hC dX5_command_125 126 rfl rfl 1 rfl ?_
    refine g_get hC fl_X5_78 dX5_command_126 129 rfl 0 rfl rfl ?_
    refine g_iload_n hC dX5_command_129 130 rfl rfl 2 rfl ?_
    obtain ⟨hi, h⟩ := h
    obtain ⟨o4, eo4⟩ : ∃ y : Off, y = st o2 8 (o2 0 22).toNatClampNeg x1 := ⟨_, rfl⟩
    have h := h o4 eo4
    refine g_iast hC dX5_command_130 131 rfl 8 rfl hi (modW_s8 eo4) ?_
    refine g_iload_n hC dX5_command_131 132 rfl rfl 2 rfl ?_
    by_cases c97 : x1 = (97 : Int32)
    · have h := h.1 c97
      refine g_tableIn hC dX5_command_132 (by rw [c97]; decide) (by rw [c97]; decide) (off := 118) (by rw [c97]; rfl) 250 (by decide) ?_
      refine g_aload_n hC dX5_command_250 251 rfl rfl 1 rfl ?_
      refine g_ownI hC (ct_X5_number l g a o4  _ h) gY_X5_number dX5_command_251 254 rfl ml_X5_305 [] rfl rfl rfl 0 9 rfl rfl ⟨Nat.le_of_ble_eq_true rfl, Nat.le_of_ble_eq_true rfl⟩ (Nat.le_of_ble_eq_true rfl) ⟨Nat.le_refl _, Nat.le_refl _⟩ (fun v6 o5 h => ?_)
      refine g_istore_n (lv2 := [(2, .int v6), (3, .int v3), (0, .ref (a 0)), (1, .int x1)]) hC dX5_command_254 255 rfl rfl (by decide) rfl ?_
      refine g_aload_n hC dX5_command_255 256 rfl rfl 2 rfl ?_
      refine g_bipush hC (62 : Int32) dX5_command_256 258 rfl bipush_62 ?_
      refine g_ownV hC (ct_X5_sign l g a o5 (62 : Int32) _ h) gY_X5_sign dX5_command_258 261 rfl ml_X5_308 [] rfl rfl rfl 0 9 rfl rfl ⟨Nat.le_of_ble_eq_true rfl, Nat.le_of_ble_eq_true rfl⟩ (Nat.le_of_ble_eq_true rfl) ⟨Nat.le_refl _, Nat.le_refl _⟩ (fun o7 h => ?_)
      refine g_aload_n hC dX5_command_261 262 rfl rfl 2 rfl ?_
      refine g_iload_n hC dX5_command_262 263 rfl rfl 0 rfl ?_
      refine g_aload_n hC dX5_command_263 264 rfl rfl 2 rfl ?_
      refine g_ownI hC (ct_X5_digit l g a o7  _ h) gY_X5_digit dX5_command_264 267 rfl ml_X5_296 [.int v6, .ref (a 0)] rfl rfl rfl 0 9 rfl rfl ⟨Nat.le_of_ble_eq_true rfl, Nat.le_of_ble_eq_true rfl⟩ (Nat.le_of_ble_eq_true rfl) ⟨Nat.le_refl _, Nat.le_refl _⟩ (fun v9 o8 h => ?_)
      refine g_iconst hC (0 : Int32) dX5_command_267 268 rfl iconst_0 ?_
      refine g_ownV hC (ct_X5_keeps l g a o8 v6 v9 (0 : Int32) _ h) gY_X5_keeps dX5_command_268 271 rfl ml_X5_302 [] rfl rfl rfl 0 9 rfl rfl ⟨Nat.le_of_ble_eq_true rfl, Nat.le_of_ble_eq_true rfl⟩ (Nat.le_of_ble_eq_true rfl) ⟨Nat.le_refl _, Nat.le_refl _⟩ (fun o10 h => ?_)
      refine g_goto hC dX5_command_271 428 (by decide) ?_
      refine g_lv (lv2 := [(0, .ref (a 0))]) [2] rfl ?_
      exact jn_X5_command_428 hC hZ o10 h
    have h := h.2 c97
    by_cases c98 : x1 = (98 : Int32)
    · have h := h.1 c98
      refine g_tableIn hC dX5_command_132 (by rw [c98]; decide) (by rw [c98]; decide) (off := 214) (by rw [c98]; rfl) 346 (by decide) ?_
      refine g_aload_n hC dX5_command_346 347 rfl rfl 1 rfl ?_
      refine g_ownI hC (ct_X5_digit l g a o4  _ h) gY_X5_digit dX5_command_347 350 rfl ml_X5_296 [] rfl rfl rfl 0 9 rfl rfl ⟨Nat.le_of_ble_eq_true rfl, Nat.le_of_ble_eq_true rfl⟩ (Nat.le_of_ble_eq_true rfl) ⟨Nat.le_refl _, Nat.le_refl _⟩ (fun v13 o12 h => ?_)
      refine g_istore_n (lv2 := [(2, .int v13), (3, .int v3), (0, .ref (a 0)), (1, .int x1)]) hC dX5_command_350 351 rfl rfl (by decide) rfl ?_
      refine g_aload_n hC dX5_command_351 352 rfl rfl 2 rfl ?_
      refine g_iload_n hC dX5_command_352 353 rfl rfl 0 rfl ?_
      refine g_aload_n hC dX5_command_353 354 rfl rfl 2 rfl ?_
      refine g_ownI hC (ct_X5_colour l g a o12  _ h) gY_X5_colour dX5_command_354 357 rfl ml_X5_299 [.int v13, .ref (a 0)] rfl rfl rfl 0 9 rfl rfl ⟨Nat.le_of_ble_eq_true rfl, Nat.le_of_ble_eq_true rfl⟩ (Nat.le_of_ble_eq_true rfl) ⟨Nat.le_refl _, Nat.le_refl _⟩ (fun v15 o14 h => ?_)
      refine g_iconst hC (0 : Int32) dX5_command_357 358 rfl iconst_0 ?_
      refine g_ownV hC (ct_X5_keeps l g a o14 v13 v15 (0 : Int32) _ h) gY_X5_keeps dX5_command_358 361 rfl ml_X5_302 [] rfl rfl rfl 0 9 rfl rfl ⟨Nat.le_of_ble_eq_true rfl, Nat.le_of_ble_eq_true rfl⟩ (Nat.le_of_ble_eq_true rfl) ⟨Nat.le_refl _, Nat.le_refl _⟩ (fun o16 h => ?_)
      refine g_goto hC dX5_command_361 428 (by decide) ?_
      refine g_lv (lv2 := [(0, .ref (a 0))]) [2] rfl ?_
      exact jn_X5_command_428 hC hZ o16 h
    have h := h.2 c98
    by_cases c100 : x1 = (100 : Int32)
    · have h := h.1 c100
      refine g_tableIn hC dX5_command_132 (by rw [c100]; decide) (by rw [c100]; decide) (off := 273) (by rw [c100]; rfl) 405 (by decide) ?_
      refine g_aload_n hC dX5_command_405 406 rfl rfl 1 rfl ?_
      refine g_aload_n hC dX5_command_406 407 rfl rfl 1 rfl ?_
      refine g_ownI hC (ct_X5_digit l g a o4  _ h) gY_X5_digit dX5_command_407 410 rfl ml_X5_296 [.ref (a 0)] rfl rfl rfl 0 9 rfl rfl ⟨Nat.le_of_ble_eq_true rfl, Nat.le_of_ble_eq_true rfl⟩ (Nat.le_of_ble_eq_true rfl) ⟨Nat.le_refl _, Nat.le_refl _⟩ (fun v18 o17 h => ?_)
      refine g_iconst hC (0 : Int32) dX5_command_410 411 rfl iconst_0 ?_
      refine g_iconst hC (0 : Int32) dX5_command_411 412 rfl iconst_0 ?_
      refine g_ownV hC (ct_X5_keeps l g a o17 v18 (0 : Int32) (0 : Int32) _ h) gY_X5_keeps dX5_command_412 415 rfl ml_X5_302 [] rfl rfl rfl 0 9 rfl rfl ⟨Nat.le_of_ble_eq_true rfl, Nat.le_of_ble_eq_true rfl⟩ (Nat.le_of_ble_eq_true rfl) ⟨Nat.le_refl _, Nat.le_refl _⟩ (fun o19 h => ?_)
      refine g_goto hC dX5_command_415 428 (by decide) ?_
      refine g_lv (lv2 := [(0, .ref (a 0))]) [1] rfl ?_
      exact jn_X5_command_428 hC hZ o19 h
    have h := h.2 c100
    by_cases c101 : x1 = (101 : Int32)
    · have h := h.1 c101
      refine g_tableIn hC dX5_command_132 (by rw [c101]; decide) (by rw [c101]; decide) (off := 255) (by rw [c101]; rfl) 387 (by decide) ?_
      refine g_aload_n hC dX5_command_387 388 rfl rfl 1 rfl ?_
      refine g_ownI hC (ct_X5_digit l g a o4  _ h) gY_X5_digit dX5_command_388 391 rfl ml_X5_296 [] rfl rfl rfl 0 9 rfl rfl ⟨Nat.le_of_ble_eq_true rfl, Nat.le_of_ble_eq_true rfl⟩ (Nat.le_of_ble_eq_true rfl) ⟨Nat.le_refl _, Nat.le_refl _⟩ (fun v21 o20 h => ?_)
      refine g_istore_n (lv2 := [(2, .int v21), (3, .int v3), (0, .ref (a 0)), (1, .int x1)]) hC dX5_command_391 392 rfl rfl (by decide) rfl ?_
      refine g_aload_n hC dX5_command_392 393 rfl rfl 2 rfl ?_
      refine g_iload_n hC dX5_command_393 394 rfl rfl 0 rfl ?_
      refine g_aload_n hC dX5_command_394 395 rfl rfl 2 rfl ?_
      refine g_ownI hC (ct_X5_digit l g a o20  _ h) gY_X5_digit dX5_command_395 398 rfl ml_X5_296 [.int v21, .ref (a 0)] rfl rfl rfl 0 9 rfl rfl ⟨Nat.le_of_ble_eq_true rfl, Nat.le_of_ble_eq_true rfl⟩ (Nat.le_of_ble_eq_true rfl) ⟨Nat.le_refl _, Nat.le_refl _⟩ (fun v23 o22 h => ?_)
      refine g_iconst hC (0 : Int32) dX5_command_398 399 rfl iconst_0 ?_
      refine g_ownV hC (ct_X5_keeps l g a o22 v21 v23 (0 : Int32) _ h) gY_X5_keeps dX5_command_399 402 rfl ml_X5_302 [] rfl rfl rfl 0 9 rfl rfl ⟨Nat.le_of_ble_eq_true rfl, Nat.le_of_ble_eq_true rfl⟩ (Nat.le_of_ble_eq_true rfl) ⟨Nat.le_refl _, Nat.le_refl _⟩ (fun o24 h => ?_)
      refine g_goto hC dX5_command_402 428 (by decide) ?_
      refine g_lv (lv2 := [(0, .ref (a 0))]) [2] rfl ?_
      exact jn_X5_command_428 hC hZ o24 h
    have h := h.2 c101
    by_cases c106 : x1 = (106 : Int32)
    · have h := h.1 c106
      refine g_tableIn hC dX5_command_132 (by rw [c106]; decide) (by rw [c106]; decide) (off := 166) (by rw [c106]; rfl) 298 (by decide) ?_
      refine g_aload_n hC dX5_command_298 299 rfl rfl 1 rfl ?_
      refine g_ownI hC (ct_X5_number l g a o4  _ h) gY_X5_number dX5_command_299 302 rfl ml_X5_305 [] rfl rfl rfl 0 9 rfl rfl ⟨Nat.le_of_ble_eq_true rfl, Nat.le_of_ble_eq_true rfl⟩ (Nat.le_of_ble_eq_true rfl) ⟨Nat.le_refl _, Nat.le_refl _⟩ (fun v26 o25 h => ?_)
      refine g_istore_n (lv2 := [(2, .int v26), (3, .int v3), (0, .ref (a 0)), (1, .int x1)]) hC dX5_command_302 303 rfl rfl (by decide) rfl ?_
      refine g_aload_n hC dX5_command_303 304 rfl rfl 2 rfl ?_
      refine g_bipush hC (38 : Int32) dX5_command_304 306 rfl bipush_38 ?_
      refine g_ownV hC (ct_X5_sign l g a o25 (38 : Int32) _ h) gY_X5_sign dX5_command_306 309 rfl ml_X5_308 [] rfl rfl rfl 0 9 rfl rfl ⟨Nat.le_of_ble_eq_true rfl, Nat.le_of_ble_eq_true rfl⟩ (Nat.le_of_ble_eq_true rfl) ⟨Nat.le_refl _, Nat.le_refl _⟩ (fun o27 h => ?_)
      refine g_aload_n hC dX5_command_309 310 rfl rfl 2 rfl ?_
      refine g_iload_n hC dX5_command_310 311 rfl rfl 0 rfl ?_
      refine g_aload_n hC dX5_command_311 312 rfl rfl 2 rfl ?_
      refine g_ownI hC (ct_X5_number l g a o27  _ h) gY_X5_number dX5_command_312 315 rfl ml_X5_305 [.int v26, .ref (a 0)] rfl rfl rfl 0 9 rfl rfl ⟨Nat.le_of_ble_eq_true rfl, Nat.le_of_ble_eq_true rfl⟩ (Nat.le_of_ble_eq_true rfl) ⟨Nat.le_refl _, Nat.le_refl _⟩ (fun v29 o28 h => ?_)
      refine g_iconst hC (0 : Int32) dX5_command_315 316 rfl iconst_0 ?_
      refine g_ownV hC (ct_X5_keeps l g a o28 v26 v29 (0 : Int32) _ h) gY_X5_keeps dX5_command_316 319 rfl ml_X5_302 [] rfl rfl rfl 0 9 rfl rfl ⟨Nat.le_of_ble_eq_true rfl, Nat.le_of_ble_eq_true rfl⟩ (Nat.le_of_ble_eq_true rfl) ⟨Nat.le_refl _, Nat.le_refl _⟩ (fun o30 h => ?_)
      refine g_goto hC dX5_command_319 428 (by decide) ?_
      refine g_lv (lv2 := [(0, .ref (a 0))]) [2] rfl ?_
      exact jn_X5_command_428 hC hZ o30 h
    have h := h.2 c106
    by_cases c109 : x1 = (109 : Int32)
    · have h := h.1 c109
      refine g_tableIn hC dX5_command_132 (by rw [c109]; decide) (by rw [c109]; decide) (off := 118) (by rw [c109]; rfl) 250 (by decide) ?_
      refine g_aload_n hC dX5_command_250 251 rfl rfl 1 rfl ?_
      refine g_ownI hC (ct_X5_number l g a o4  _ h) gY_X5_number dX5_command_251 254 rfl ml_X5_305 [] rfl rfl rfl 0 9 rfl rfl ⟨Nat.le_of_ble_eq_true rfl, Nat.le_of_ble_eq_true rfl⟩ (Nat.le_of_ble_eq_true rfl) ⟨Nat.le_refl _, Nat.le_refl _⟩ (fun v32 o31 h => ?_)
      refine g_istore_n (lv2 := [(2, .int v32), (3, .int v3), (0, .ref (a 0)), (1, .int x1)]) hC dX5_command_254 255 rfl rfl (by decide) rfl ?_
      refine g_aload_n hC dX5_command_255 256 rfl rfl 2 rfl ?_
      refine g_bipush hC (62 : Int32) dX5_command_256 258 rfl bipush_62 ?_
      refine g_ownV hC (ct_X5_sign l g a o31 (62 : Int32) _ h) gY_X5_sign dX5_command_258 261 rfl ml_X5_308 [] rfl rfl rfl 0 9 rfl rfl ⟨Nat.le_of_ble_eq_true rfl, Nat.le_of_ble_eq_true rfl⟩ (Nat.le_of_ble_eq_true rfl) ⟨Nat.le_refl _, Nat.le_refl _⟩ (fun o33 h => ?_)
      refine g_aload_n hC dX5_command_261 262 rfl rfl 2 rfl ?_
      refine g_iload_n hC dX5_command_262 263 rfl rfl 0 rfl ?_
      refine g_aload_n hC dX5_command_263 264 rfl rfl 2 rfl ?_
      refine g_ownI hC (ct_X5_digit l g a o33  _ h) gY_X5_digit dX5_command_264 267 rfl ml_X5_296 [.int v32, .ref (a 0)] rfl rfl rfl 0 9 rfl rfl ⟨Nat.le_of_ble_eq_true rfl, Nat.le_of_ble_eq_true rfl⟩ (Nat.le_of_ble_eq_true rfl) ⟨Nat.le_refl _, Nat.le_refl _⟩ (fun v35 o34 h => ?_)
      refine g_iconst hC (0 : Int32) dX5_command_267 268 rfl iconst_0 ?_
      refine g_ownV hC (ct_X5_keeps l g a o34 v32 v35 (0 : Int32) _ h) gY_X5_keeps dX5_command_268 271 rfl ml_X5_302 [] rfl rfl rfl 0 9 rfl rfl ⟨Nat.le_of_ble_eq_true rfl, Nat.le_of_ble_eq_true rfl⟩ (Nat.le_of_ble_eq_true rfl) ⟨Nat.le_refl _, Nat.le_refl _⟩ (fun o36 h => ?_)
      refine g_goto hC dX5_command_271 428 (by decide) ?_
      refine g_lv (lv2 := [(0, .ref (a 0))]) [2] rfl ?_
      exact jn_X5_command_428 hC hZ o36 h
    have h := h.2 c109
    by_cases c110 : x1 = (110 : Int32)
    · have h := h.1 c110
      refine g_tableIn hC dX5_command_132 (by rw [c110]; decide) (by rw [c110]; decide) (off := 100) (by rw [c110]; rfl) 232 (by decide) ?_
      refine g_aload_n hC dX5_command_232 233 rfl rfl 1 rfl ?_
      refine g_ownI hC (ct_X5_colour l g a o4  _ h) gY_X5_colour dX5_command_233 236 rfl ml_X5_299 [] rfl rfl rfl 0 9 rfl rfl ⟨Nat.le_of_ble_eq_true rfl, Nat.le_of_ble_eq_true rfl⟩ (Nat.le_of_ble_eq_true rfl) ⟨Nat.le_refl _, Nat.le_refl _⟩ (fun v38 o37 h => ?_)
      refine g_istore_n (lv2 := [(2, .int v38), (3, .int v3), (0, .ref (a 0)), (1, .int x1)]) hC dX5_command_236 237 rfl rfl (by decide) rfl ?_
      refine g_aload_n hC dX5_command_237 238 rfl rfl 2 rfl ?_
      refine g_iload_n hC dX5_command_238 239 rfl rfl 0 rfl ?_
      refine g_aload_n hC dX5_command_239 240 rfl rfl 2 rfl ?_
      refine g_ownI hC (ct_X5_digit l g a o37  _ h) gY_X5_digit dX5_command_240 243 rfl ml_X5_296 [.int v38, .ref (a 0)] rfl rfl rfl 0 9 rfl rfl ⟨Nat.le_of_ble_eq_true rfl, Nat.le_of_ble_eq_true rfl⟩ (Nat.le_of_ble_eq_true rfl) ⟨Nat.le_refl _, Nat.le_refl _⟩ (fun v40 o39 h => ?_)
      refine g_iconst hC (0 : Int32) dX5_command_243 244 rfl iconst_0 ?_
      refine g_ownV hC (ct_X5_keeps l g a o39 v38 v40 (0 : Int32) _ h) gY_X5_keeps dX5_command_244 247 rfl ml_X5_302 [] rfl rfl rfl 0 9 rfl rfl ⟨Nat.le_of_ble_eq_true rfl, Nat.le_of_ble_eq_true rfl⟩ (Nat.le_of_ble_eq_true rfl) ⟨Nat.le_refl _, Nat.le_refl _⟩ (fun o41 h => ?_)
      refine g_goto hC dX5_command_247 428 (by decide) ?_
      refine g_lv (lv2 := [(0, .ref (a 0))]) [2] rfl ?_
      exact jn_X5_command_428 hC hZ o41 h
    have h := h.2 c110
    by_cases c113 : x1 = (113 : Int32)
    · have h := h.1 c113
      refine g_tableIn hC dX5_command_132 (by rw [c113]; decide) (by rw [c113]; decide) (off := 190) (by rw [c113]; rfl) 322 (by decide) ?_
      refine g_aload_n hC dX5_command_322 323 rfl rfl 1 rfl ?_
      refine g_ownI hC (ct_X5_digit l g a o4  _ h) gY_X5_digit dX5_command_323 326 rfl ml_X5_296 [] rfl rfl rfl 0 9 rfl rfl ⟨Nat.le_of_ble_eq_true rfl, Nat.le_of_ble_eq_true rfl⟩ (Nat.le_of_ble_eq_true rfl) ⟨Nat.le_refl _, Nat.le_refl _⟩ (fun v43 o42 h => ?_)
      refine g_istore_n (lv2 := [(2, .int v43), (3, .int v3), (0, .ref (a 0)), (1, .int x1)]) hC dX5_command_326 327 rfl rfl (by decide) rfl ?_
      refine g_aload_n hC dX5_command_327 328 rfl rfl 2 rfl ?_
      refine g_bipush hC (61 : Int32) dX5_command_328 330 rfl bipush_61 ?_
      refine g_ownV hC (ct_X5_sign l g a o42 (61 : Int32) _ h) gY_X5_sign dX5_command_330 333 rfl ml_X5_308 [] rfl rfl rfl 0 9 rfl rfl ⟨Nat.le_of_ble_eq_true rfl, Nat.le_of_ble_eq_true rfl⟩ (Nat.le_of_ble_eq_true rfl) ⟨Nat.le_refl _, Nat.le_refl _⟩ (fun o44 h => ?_)
      refine g_aload_n hC dX5_command_333 334 rfl rfl 2 rfl ?_
      refine g_iload_n hC dX5_command_334 335 rfl rfl 0 rfl ?_
      refine g_aload_n hC dX5_command_335 336 rfl rfl 2 rfl ?_
      refine g_ownI hC (ct_X5_digit l g a o44  _ h) gY_X5_digit dX5_command_336 339 rfl ml_X5_296 [.int v43, .ref (a 0)] rfl rfl rfl 0 9 rfl rfl ⟨Nat.le_of_ble_eq_true rfl, Nat.le_of_ble_eq_true rfl⟩ (Nat.le_of_ble_eq_true rfl) ⟨Nat.le_refl _, Nat.le_refl _⟩ (fun v46 o45 h => ?_)
      refine g_iconst hC (0 : Int32) dX5_command_339 340 rfl iconst_0 ?_
      refine g_ownV hC (ct_X5_keeps l g a o45 v43 v46 (0 : Int32) _ h) gY_X5_keeps dX5_command_340 343 rfl ml_X5_302 [] rfl rfl rfl 0 9 rfl rfl ⟨Nat.le_of_ble_eq_true rfl, Nat.le_of_ble_eq_true rfl⟩ (Nat.le_of_ble_eq_true rfl) ⟨Nat.le_refl _, Nat.le_refl _⟩ (fun o47 h => ?_)
      refine g_goto hC dX5_command_343 428 (by decide) ?_
      refine g_lv (lv2 := [(0, .ref (a 0))]) [2] rfl ?_
      exact jn_X5_command_428 hC hZ o47 h
    have h := h.2 c113
    by_cases c114 : x1 = (114 : Int32)
    · have h := h.1 c114
      refine g_tableIn hC dX5_command_132 (by rw [c114]; decide) (by rw [c114]; decide) (off := 142) (by rw [c114]; rfl) 274 (by decide) ?_
      refine g_aload_n hC dX5_command_274 275 rfl rfl 1 rfl ?_
      refine g_ownI hC (ct_X5_number l g a o4  _ h) gY_X5_number dX5_command_275 278 rfl ml_X5_305 [] rfl rfl rfl 0 9 rfl rfl ⟨Nat.le_of_ble_eq_true rfl, Nat.le_of_ble_eq_true rfl⟩ (Nat.le_of_ble_eq_true rfl) ⟨Nat.le_refl _, Nat.le_refl _⟩ (fun v49 o48 h => ?_)
      refine g_istore_n (lv2 := [(2, .int v49), (3, .int v3), (0, .ref (a 0)), (1, .int x1)]) hC dX5_command_278 279 rfl rfl (by decide) rfl ?_
      refine g_aload_n hC dX5_command_279 280 rfl rfl 2 rfl ?_
      refine g_bipush hC (43 : Int32) dX5_command_280 282 rfl bipush_43 ?_
      refine g_ownV hC (ct_X5_sign l g a o48 (43 : Int32) _ h) gY_X5_sign dX5_command_282 285 rfl ml_X5_308 [] rfl rfl rfl 0 9 rfl rfl ⟨Nat.le_of_ble_eq_true rfl, Nat.le_of_ble_eq_true rfl⟩ (Nat.le_of_ble_eq_true rfl) ⟨Nat.le_refl _, Nat.le_refl _⟩ (fun o50 h => ?_)
      refine g_aload_n hC dX5_command_285 286 rfl rfl 2 rfl ?_
      refine g_iload_n hC dX5_command_286 287 rfl rfl 0 rfl ?_
      refine g_aload_n hC dX5_command_287 288 rfl rfl 2 rfl ?_
      refine g_ownI hC (ct_X5_digit l g a o50  _ h) gY_X5_digit dX5_command_288 291 rfl ml_X5_296 [.int v49, .ref (a 0)] rfl rfl rfl 0 9 rfl rfl ⟨Nat.le_of_ble_eq_true rfl, Nat.le_of_ble_eq_true rfl⟩ (Nat.le_of_ble_eq_true rfl) ⟨Nat.le_refl _, Nat.le_refl _⟩ (fun v52 o51 h => ?_)
      refine g_iconst hC (0 : Int32) dX5_command_291 292 rfl iconst_0 ?_
      refine g_ownV hC (ct_X5_keeps l g a o51 v49 v52 (0 : Int32) _ h) gY_X5_keeps dX5_command_292 295 rfl ml_X5_302 [] rfl rfl rfl 0 9 rfl rfl ⟨Nat.le_of_ble_eq_true rfl, Nat.le_of_ble_eq_true rfl⟩ (Nat.le_of_ble_eq_true rfl) ⟨Nat.le_refl _, Nat.le_refl _⟩ (fun o53 h => ?_)
      refine g_goto hC dX5_command_295 428 (by decide) ?_
      refine g_lv (lv2 := [(0, .ref (a 0))]) [2] rfl ?_
      exact jn_X5_command_428 hC hZ o53 h
    have h := h.2 c114
    by_cases c116 : x1 = (116 : Int32)
    · have h := h.1 c116
      refine g_tableIn hC dX5_command_132 (by rw [c116]; decide) (by rw [c116]; decide) (off := 232) (by rw [c116]; rfl) 364 (by decide) ?_
      refine g_aload_n hC dX5_command_364 365 rfl rfl 1 rfl ?_
      refine g_ownI hC (ct_X5_digit l g a o4  _ h) gY_X5_digit dX5_command_365 368 rfl ml_X5_296 [] rfl rfl rfl 0 9 rfl rfl ⟨Nat.le_of_ble_eq_true rfl, Nat.le_of_ble_eq_true rfl⟩ (Nat.le_of_ble_eq_true rfl) ⟨Nat.le_refl _, Nat.le_refl _⟩ (fun v55 o54 h => ?_)
      refine g_istore_n (lv2 := [(2, .int v55), (3, .int v3), (0, .ref (a 0)), (1, .int x1)]) hC dX5_command_368 369 rfl rfl (by decide) rfl ?_
      refine g_aload_n hC dX5_command_369 370 rfl rfl 2 rfl ?_
      refine g_ownI hC (ct_X5_digit l g a o54  _ h) gY_X5_digit dX5_command_370 373 rfl ml_X5_296 [] rfl rfl rfl 0 9 rfl rfl ⟨Nat.le_of_ble_eq_true rfl, Nat.le_of_ble_eq_true rfl⟩ (Nat.le_of_ble_eq_true rfl) ⟨Nat.le_refl _, Nat.le_refl _⟩ (fun v57 o56 h => ?_)
      refine g_istore_n (lv2 := [(3, .int v57), (2, .int v55), (0, .ref (a 0)), (1, .int x1)]) hC dX5_command_373 374 rfl rfl (by decide) rfl ?_
      refine g_aload_n hC dX5_command_374 375 rfl rfl 2 rfl ?_
      refine g_iload_n hC dX5_command_375 376 rfl rfl 1 rfl ?_
      refine g_iload_n hC dX5_command_376 377 rfl rfl 0 rfl ?_
      refine g_aload_n hC dX5_command_377 378 rfl rfl 2 rfl ?_
      refine g_ownI hC (ct_X5_clause l g a o56  _ h) gY_X5_clause dX5_command_378 381 rfl ml_X5_311 [.int v57, .int v55, .ref (a 0)] rfl rfl rfl 0 9 rfl rfl ⟨Nat.le_of_ble_eq_true rfl, Nat.le_of_ble_eq_true rfl⟩ (Nat.le_of_ble_eq_true rfl) ⟨Nat.le_refl _, Nat.le_refl _⟩ (fun v59 o58 h => ?_)
      refine g_ownV hC (ct_X5_keeps l g a o58 v55 v57 v59 _ h) gY_X5_keeps dX5_command_381 384 rfl ml_X5_302 [] rfl rfl rfl 0 9 rfl rfl ⟨Nat.le_of_ble_eq_true rfl, Nat.le_of_ble_eq_true rfl⟩ (Nat.le_of_ble_eq_true rfl) ⟨Nat.le_refl _, Nat.le_refl _⟩ (fun o60 h => ?_)
      refine g_goto hC dX5_command_384 428 (by decide) ?_
      refine g_lv (lv2 := [(0, .ref (a 0))]) [2] rfl ?_
      exact jn_X5_command_428 hC hZ o60 h
    have h := h.2 c116
    by_cases c117 : x1 = (117 : Int32)
    · have h := h.1 c117
      refine g_tableIn hC dX5_command_132 (by rw [c117]; decide) (by rw [c117]; decide) (off := 214) (by rw [c117]; rfl) 346 (by decide) ?_
      refine g_aload_n hC dX5_command_346 347 rfl rfl 1 rfl ?_
      refine g_ownI hC (ct_X5_digit l g a o4  _ h) gY_X5_digit dX5_command_347 350 rfl ml_X5_296 [] rfl rfl rfl 0 9 rfl rfl ⟨Nat.le_of_ble_eq_true rfl, Nat.le_of_ble_eq_true rfl⟩ (Nat.le_of_ble_eq_true rfl) ⟨Nat.le_refl _, Nat.le_refl _⟩ (fun v62 o61 h => ?_)
      refine g_istore_n (lv2 := [(2, .int v62), (3, .int v3), (0, .ref (a 0)), (1, .int x1)]) hC dX5_command_350 351 rfl rfl (by decide) rfl ?_
      refine g_aload_n hC dX5_command_351 352 rfl rfl 2 rfl ?_
      refine g_iload_n hC dX5_command_352 353 rfl rfl 0 rfl ?_
      refine g_aload_n hC dX5_command_353 354 rfl rfl 2 rfl ?_
      refine g_ownI hC (ct_X5_colour l g a o61  _ h) gY_X5_colour dX5_command_354 357 rfl ml_X5_299 [.int v62, .ref (a 0)] rfl rfl rfl 0 9 rfl rfl ⟨Nat.le_of_ble_eq_true rfl, Nat.le_of_ble_eq_true rfl⟩ (Nat.le_of_ble_eq_true rfl) ⟨Nat.le_refl _, Nat.le_refl _⟩ (fun v64 o63 h => ?_)
      refine g_iconst hC (0 : Int32) dX5_command_357 358 rfl iconst_0 ?_
      refine g_ownV hC (ct_X5_keeps l g a o63 v62 v64 (0 : Int32) _ h) gY_X5_keeps dX5_command_358 361 rfl ml_X5_302 [] rfl rfl rfl 0 9 rfl rfl ⟨Nat.le_of_ble_eq_true rfl, Nat.le_of_ble_eq_true rfl⟩ (Nat.le_of_ble_eq_true rfl) ⟨Nat.le_refl _, Nat.le_refl _⟩ (fun o65 h => ?_)
      refine g_goto hC dX5_command_361 428 (by decide) ?_
      refine g_lv (lv2 := [(0, .ref (a 0))]) [2] rfl ?_
      exact jn_X5_command_428 hC hZ o65 h
    have h := h.2 c117
    have hdef : G x g 4 0 0 (modW g a o4) 418 [(3, .int v3), (0, .ref (a 0)), (1, .int x1)] [] := by
      refine g_aload_n hC dX5_command_418 419 rfl rfl 1 rfl ?_
      refine g_aload_n hC dX5_command_419 420 rfl rfl 1 rfl ?_
      refine g_ownI hC (ct_X5_number l g a o4  _ h) gY_X5_number dX5_command_420 423 rfl ml_X5_305 [.ref (a 0)] rfl rfl rfl 0 9 rfl rfl ⟨Nat.le_of_ble_eq_true rfl, Nat.le_of_ble_eq_true rfl⟩ (Nat.le_of_ble_eq_true rfl) ⟨Nat.le_refl _, Nat.le_refl _⟩ (fun v67 o66 h => ?_)
      refine g_iconst hC (0 : Int32) dX5_command_423 424 rfl iconst_0 ?_
      refine g_iconst hC (0 : Int32) dX5_command_424 425 rfl iconst_0 ?_
      refine g_ownV hC (ct_X5_keeps l g a o66 v67 (0 : Int32) (0 : Int32) _ h) gY_X5_keeps dX5_command_425 428 rfl ml_X5_302 [] rfl rfl rfl 0 9 rfl rfl ⟨Nat.le_of_ble_eq_true rfl, Nat.le_of_ble_eq_true rfl⟩ (Nat.le_of_ble_eq_true rfl) ⟨Nat.le_refl _, Nat.le_refl _⟩ (fun o68 h => ?_)
      refine g_lv (lv2 := [(0, .ref (a 0))]) [1] rfl ?_
      exact jn_X5_command_428 hC hZ o68 h
    have n97 : ¬ (x1).toInt = 97 := fun q => c97 (Int32.toInt_inj.mp q)
    have n98 : ¬ (x1).toInt = 98 := fun q => c98 (Int32.toInt_inj.mp q)
    have n100 : ¬ (x1).toInt = 100 := fun q => c100 (Int32.toInt_inj.mp q)
    have n101 : ¬ (x1).toInt = 101 := fun q => c101 (Int32.toInt_inj.mp q)
    have n106 : ¬ (x1).toInt = 106 := fun q => c106 (Int32.toInt_inj.mp q)
    have n109 : ¬ (x1).toInt = 109 := fun q => c109 (Int32.toInt_inj.mp q)
    have n110 : ¬ (x1).toInt = 110 := fun q => c110 (Int32.toInt_inj.mp q)
    have n113 : ¬ (x1).toInt = 113 := fun q => c113 (Int32.toInt_inj.mp q)
    have n114 : ¬ (x1).toInt = 114 := fun q => c114 (Int32.toInt_inj.mp q)
    have n116 : ¬ (x1).toInt = 116 := fun q => c116 (Int32.toInt_inj.mp q)
    have n117 : ¬ (x1).toInt = 117 := fun q => c117 (Int32.toInt_inj.mp q)
    by_cases hb : (x1).toInt < 97 ∨ 117 < (x1).toInt
    · exact g_tableOut hC dX5_command_132 hb 418 (by decide) hdef
    · rcases (show (x1).toInt = 99 ∨ (x1).toInt = 102 ∨ (x1).toInt = 103 ∨ (x1).toInt = 104 ∨ (x1).toInt = 105 ∨ (x1).toInt = 107 ∨ (x1).toInt = 108 ∨ (x1).toInt = 111 ∨ (x1).toInt = 112 ∨ (x1).toInt = 115 by omega) with q | q | q | q | q | q | q | q | q | q
      · exact g_tableIn hC dX5_command_132 (by omega) (by omega) (off := 286) (by rw [q]; rfl) 418 (by decide) hdef
      · exact g_tableIn hC dX5_command_132 (by omega) (by omega) (off := 286) (by rw [q]; rfl) 418 (by decide) hdef
      · exact g_tableIn hC dX5_command_132 (by omega) (by omega) (off := 286) (by rw [q]; rfl) 418 (by decide) hdef
      · exact g_tableIn hC dX5_command_132 (by omega) (by omega) (off := 286) (by rw [q]; rfl) 418 (by decide) hdef
      · exact g_tableIn hC dX5_command_132 (by omega) (by omega) (off := 286) (by rw [q]; rfl) 418 (by decide) hdef
      · exact g_tableIn hC dX5_command_132 (by omega) (by omega) (off := 286) (by rw [q]; rfl) 418 (by decide) hdef
      · exact g_tableIn hC dX5_command_132 (by omega) (by omega) (off := 286) (by rw [q]; rfl) 418 (by decide) hdef
      · exact g_tableIn hC dX5_command_132 (by omega) (by omega) (off := 286) (by rw [q]; rfl) 418 (by decide) hdef
      · exact g_tableIn hC dX5_command_132 (by omega) (by omega) (off := 286) (by rw [q]; rfl) 418 (by decide) hdef
      · exact g_tableIn hC dX5_command_132 (by omega) (by omega) (off := 286) (by rw [q]; rfl) 418 (by decide) hdef
  · have h := h.2 c
    exact g_vret hC hZ dX5_command_120 ⟨_, rfl, rfl, h⟩
set_option maxRecDepth 100000 in
set_option maxHeartbeats 4000000 in
theorem jn_X5_command_104 {x : gX} {l : Launch} {g : gE} {a : Nat → Nat} {o0 : Off} {post : Off → Prop} (hC : gC x l cX5_command 4 RX5 g 3 63 0 0) (hZ : gZ x g none (modW g a o0) (pV (modW g a) post) 0 0) : ∀ (o : Off) (x1 : Int32) , wj_X5_command_104 post o x1 → G x g 4 0 0 (modW g a o) 104 [(0, .ref (a 0)), (1, .int x1)] [.ref (a 0)] := by
  intro o x1 h
  rw [wj_X5_command_104] at h
  refine g_iconst hC (1 : Int32) dX5_command_104 105 rfl iconst_1 ?_
  refine g_goto hC dX5_command_105 109 (by decide) ?_
  exact jn_X5_command_109 hC hZ o x1 (1 : Int32) h
set_option maxRecDepth 100000 in
set_option maxHeartbeats 4000000 in
theorem ct_X5_command (l : Launch) (g : gE) (a : Nat → Nat) (o : Off) (post : Off → Prop) (h : wp_X5_command post o ) : Fn l g yX5_command cX5_command 4 none 3 63 0 0 (modW g a o) [.ref (a 0)] (pV (modW g a) post) := by
  refine Fn.of (by decide) (Nat.le_of_ble_eq_true rfl) (fun x hC hZ => ?_)
  rw [wp_X5_command] at h
  show G x g 4 0 0 (modW g a o) 0 [(0, .ref (a 0))] []
  refine g_aload_n hC dX5_command_0 1 rfl rfl 0 rfl ?_
  refine g_readV hC (ct_X5_mark l g a o  _ h) gY_X5_mark dX5_command_1 4 rfl ml_X5_290 [] [] (by simp only [List.nil_append, List.append_nil]) [] rfl rfl rfl 0 9 rfl rfl ⟨Nat.le_of_ble_eq_true rfl, Nat.le_of_ble_eq_true rfl⟩ (Nat.le_of_ble_eq_true rfl) ⟨Nat.le_refl _, Nat.le_refl _⟩ (fun v1 h => ?_)
  refine g_istore_n (lv2 := [(1, .int v1), (0, .ref (a 0))]) hC dX5_command_4 5 rfl rfl (by decide) rfl ?_
  refine g_iconst hC (0 : Int32) dX5_command_5 6 rfl iconst_0 ?_
  refine g_istore_n (lv2 := [(2, .int (0 : Int32)), (1, .int v1), (0, .ref (a 0))]) hC dX5_command_6 7 rfl rfl (by decide) rfl ?_
  refine g_aload_n hC dX5_command_7 8 rfl rfl 2 rfl ?_
  refine g_iload_n hC dX5_command_8 9 rfl rfl 1 rfl ?_
  refine g_bipush hC (110 : Int32) dX5_command_9 11 rfl bipush_110 ?_
  refine g_icmp_eq hC dX5_command_11 104 (by decide) 14 rfl (fun c => ?_) (fun c => ?_)
  · have h := h.1 c
    refine g_lv (lv2 := [(0, .ref (a 0)), (1, .int v1)]) [2, 1] rfl ?_
    exact jn_X5_command_104 hC hZ o v1 h
  · have h := h.2 c
    refine g_iload_n hC dX5_command_14 15 rfl rfl 1 rfl ?_
    refine g_bipush hC (97 : Int32) dX5_command_15 17 rfl bipush_97 ?_
    refine g_icmp_eq hC dX5_command_17 104 (by decide) 20 rfl (fun c => ?_) (fun c => ?_)
    · have h := h.1 c
      refine g_lv (lv2 := [(0, .ref (a 0)), (1, .int v1)]) [2, 1] rfl ?_
      exact jn_X5_command_104 hC hZ o v1 h
    · have h := h.2 c
      refine g_iload_n hC dX5_command_20 21 rfl rfl 1 rfl ?_
      refine g_bipush hC (119 : Int32) dX5_command_21 23 rfl bipush_119 ?_
      refine g_icmp_eq hC dX5_command_23 104 (by decide) 26 rfl (fun c => ?_) (fun c => ?_)
      · have h := h.1 c
        refine g_lv (lv2 := [(0, .ref (a 0)), (1, .int v1)]) [2, 1] rfl ?_
        exact jn_X5_command_104 hC hZ o v1 h
      · have h := h.2 c
        refine g_iload_n hC dX5_command_26 27 rfl rfl 1 rfl ?_
        refine g_bipush hC (112 : Int32) dX5_command_27 29 rfl bipush_112 ?_
        refine g_icmp_eq hC dX5_command_29 104 (by decide) 32 rfl (fun c => ?_) (fun c => ?_)
        · have h := h.1 c
          refine g_lv (lv2 := [(0, .ref (a 0)), (1, .int v1)]) [2, 1] rfl ?_
          exact jn_X5_command_104 hC hZ o v1 h
        · have h := h.2 c
          refine g_iload_n hC dX5_command_32 33 rfl rfl 1 rfl ?_
          refine g_bipush hC (100 : Int32) dX5_command_33 35 rfl bipush_100 ?_
          refine g_icmp_eq hC dX5_command_35 104 (by decide) 38 rfl (fun c => ?_) (fun c => ?_)
          · have h := h.1 c
            refine g_lv (lv2 := [(0, .ref (a 0)), (1, .int v1)]) [2, 1] rfl ?_
            exact jn_X5_command_104 hC hZ o v1 h
          · have h := h.2 c
            refine g_iload_n hC dX5_command_38 39 rfl rfl 1 rfl ?_
            refine g_bipush hC (114 : Int32) dX5_command_39 41 rfl bipush_114 ?_
            refine g_icmp_eq hC dX5_command_41 104 (by decide) 44 rfl (fun c => ?_) (fun c => ?_)
            · have h := h.1 c
              refine g_lv (lv2 := [(0, .ref (a 0)), (1, .int v1)]) [2, 1] rfl ?_
              exact jn_X5_command_104 hC hZ o v1 h
            · have h := h.2 c
              refine g_iload_n hC dX5_command_44 45 rfl rfl 1 rfl ?_
              refine g_bipush hC (108 : Int32) dX5_command_45 47 rfl bipush_108 ?_
              refine g_icmp_eq hC dX5_command_47 104 (by decide) 50 rfl (fun c => ?_) (fun c => ?_)
              · have h := h.1 c
                refine g_lv (lv2 := [(0, .ref (a 0)), (1, .int v1)]) [2, 1] rfl ?_
                exact jn_X5_command_104 hC hZ o v1 h
              · have h := h.2 c
                refine g_iload_n hC dX5_command_50 51 rfl rfl 1 rfl ?_
                refine g_bipush hC (109 : Int32) dX5_command_51 53 rfl bipush_109 ?_
                refine g_icmp_eq hC dX5_command_53 104 (by decide) 56 rfl (fun c => ?_) (fun c => ?_)
                · have h := h.1 c
                  refine g_lv (lv2 := [(0, .ref (a 0)), (1, .int v1)]) [2, 1] rfl ?_
                  exact jn_X5_command_104 hC hZ o v1 h
                · have h := h.2 c
                  refine g_iload_n hC dX5_command_56 57 rfl rfl 1 rfl ?_
                  refine g_bipush hC (106 : Int32) dX5_command_57 59 rfl bipush_106 ?_
                  refine g_icmp_eq hC dX5_command_59 104 (by decide) 62 rfl (fun c => ?_) (fun c => ?_)
                  · have h := h.1 c
                    refine g_lv (lv2 := [(0, .ref (a 0)), (1, .int v1)]) [2, 1] rfl ?_
                    exact jn_X5_command_104 hC hZ o v1 h
                  · have h := h.2 c
                    refine g_iload_n hC dX5_command_62 63 rfl rfl 1 rfl ?_
                    refine g_bipush hC (107 : Int32) dX5_command_63 65 rfl bipush_107 ?_
                    refine g_icmp_eq hC dX5_command_65 104 (by decide) 68 rfl (fun c => ?_) (fun c => ?_)
                    · have h := h.1 c
                      refine g_lv (lv2 := [(0, .ref (a 0)), (1, .int v1)]) [2, 1] rfl ?_
                      exact jn_X5_command_104 hC hZ o v1 h
                    · have h := h.2 c
                      refine g_iload_n hC dX5_command_68 69 rfl rfl 1 rfl ?_
                      refine g_bipush hC (113 : Int32) dX5_command_69 71 rfl bipush_113 ?_
                      refine g_icmp_eq hC dX5_command_71 104 (by decide) 74 rfl (fun c => ?_) (fun c => ?_)
                      · have h := h.1 c
                        refine g_lv (lv2 := [(0, .ref (a 0)), (1, .int v1)]) [2, 1] rfl ?_
                        exact jn_X5_command_104 hC hZ o v1 h
                      · have h := h.2 c
                        refine g_iload_n hC dX5_command_74 75 rfl rfl 1 rfl ?_
                        refine g_bipush hC (98 : Int32) dX5_command_75 77 rfl bipush_98 ?_
                        refine g_icmp_eq hC dX5_command_77 104 (by decide) 80 rfl (fun c => ?_) (fun c => ?_)
                        · have h := h.1 c
                          refine g_lv (lv2 := [(0, .ref (a 0)), (1, .int v1)]) [2, 1] rfl ?_
                          exact jn_X5_command_104 hC hZ o v1 h
                        · have h := h.2 c
                          refine g_iload_n hC dX5_command_80 81 rfl rfl 1 rfl ?_
                          refine g_bipush hC (117 : Int32) dX5_command_81 83 rfl bipush_117 ?_
                          refine g_icmp_eq hC dX5_command_83 104 (by decide) 86 rfl (fun c => ?_) (fun c => ?_)
                          · have h := h.1 c
                            refine g_lv (lv2 := [(0, .ref (a 0)), (1, .int v1)]) [2, 1] rfl ?_
                            exact jn_X5_command_104 hC hZ o v1 h
                          · have h := h.2 c
                            refine g_iload_n hC dX5_command_86 87 rfl rfl 1 rfl ?_
                            refine g_bipush hC (116 : Int32) dX5_command_87 89 rfl bipush_116 ?_
                            refine g_icmp_eq hC dX5_command_89 104 (by decide) 92 rfl (fun c => ?_) (fun c => ?_)
                            · have h := h.1 c
                              refine g_lv (lv2 := [(0, .ref (a 0)), (1, .int v1)]) [2, 1] rfl ?_
                              exact jn_X5_command_104 hC hZ o v1 h
                            · have h := h.2 c
                              refine g_iload_n hC dX5_command_92 93 rfl rfl 1 rfl ?_
                              refine g_bipush hC (101 : Int32) dX5_command_93 95 rfl bipush_101 ?_
                              refine g_icmp_eq hC dX5_command_95 104 (by decide) 98 rfl (fun c => ?_) (fun c => ?_)
                              · have h := h.1 c
                                refine g_lv (lv2 := [(0, .ref (a 0)), (1, .int v1)]) [2, 1] rfl ?_
                                exact jn_X5_command_104 hC hZ o v1 h
                              · have h := h.2 c
                                refine g_iload_n hC dX5_command_98 99 rfl rfl 1 rfl ?_
                                refine g_bipush hC (121 : Int32) dX5_command_99 101 rfl bipush_121 ?_
                                refine g_icmp_ne hC dX5_command_101 108 (by decide) 104 rfl (fun c => ?_) (fun c => ?_)
                                · have h := h.1 c
                                  refine g_iconst hC (0 : Int32) dX5_command_108 109 rfl iconst_0 ?_
                                  refine g_lv (lv2 := [(0, .ref (a 0)), (1, .int v1)]) [2, 1] rfl ?_
                                  exact jn_X5_command_109 hC hZ o v1 (0 : Int32) h
                                · have h := h.2 c
                                  refine g_lv (lv2 := [(0, .ref (a 0)), (1, .int v1)]) [2, 1] rfl ?_
                                  exact jn_X5_command_104 hC hZ o v1 h
def wj_X5_parse_79 (post : Off → Prop) (o : Off) (s0 : Int32) (s1 : Int32) : Prop := (isB (s1 ||| s0) ∧ (∀ o8 : Off, o8 = st o 0 23 (s1 ||| s0) → post o8))
def wl_X5_parse_32 (post : Off → Prop) : Nat → Off → Prop
  | 0, _ => False
  | n + 1, o => wp_X5_mark (fun v7 => ((¬ v7 = (59 : Int32) → (((o 0 20) ≤ (o 0 21) → wj_X5_parse_79 post o (0 : Int32) (o 0 23)) ∧ (¬ (o 0 20) ≤ (o 0 21) → wj_X5_parse_79 post o (1 : Int32) (o 0 23)))) ∧ (v7 = (59 : Int32) → (∀ o9 : Off, o9 = st o 0 21 ((o 0 21) + (1 : Int32)) → wp_X5_command (fun o10 => wl_X5_parse_32 post n o10) o9 )))) o 
def wp_X5_parse (post : Off → Prop) (o : Off) : Prop := (∀ o1 : Off, o1 = st o 0 20 (o 0 19) → (∀ o2 : Off, o2 = st o1 0 19 (0 : Int32) → (∀ o3 : Off, o3 = st o2 0 21 (0 : Int32) → (∀ o4 : Off, o4 = st o3 0 22 (0 : Int32) → (∀ o5 : Off, o5 = st o4 0 23 (0 : Int32) → wp_X5_command (fun o6 => (∃ m : Nat, wl_X5_parse_32 post m o6)) o5 )))))
set_option maxRecDepth 100000 in
set_option maxHeartbeats 4000000 in
theorem jn_X5_parse_79 {x : gX} {l : Launch} {g : gE} {a : Nat → Nat} {o0 : Off} {post : Off → Prop} (hC : gC x l cX5_parse 1 RX5 g 4 86 0 0) (hZ : gZ x g none (modW g a o0) (pV (modW g a) post) 0 0) : ∀ (o : Off) (s0 : Int32) (s1 : Int32) , wj_X5_parse_79 post o s0 s1 → G x g 1 0 0 (modW g a o) 79 [] [.int s0, .int s1, .ref (a 0)] := by
  intro o s0 s1 h
  rw [wj_X5_parse_79] at h
  refine g_ior hC dX5_parse_79 80 rfl ?_
  obtain ⟨hb, h⟩ := h
  obtain ⟨o8, eo8⟩ : ∃ y : Off, y = st o 0 23 (s1 ||| s0) := ⟨_, rfl⟩
  have h := h o8 eo8
  refine g_put hC fp_X5_81 dX5_parse_80 83 rfl 0 rfl (isB_n hb) (isB_f hb) (Nat.le_of_ble_eq_true rfl) (modW_p23 eo8) ?_
  exact g_vret hC hZ dX5_parse_83 ⟨_, rfl, rfl, h⟩
set_option maxRecDepth 100000 in
set_option maxHeartbeats 4000000 in
theorem lp_X5_parse_32 {x : gX} {l : Launch} {g : gE} {a : Nat → Nat} {o0 : Off} {post : Off → Prop} (hC : gC x l cX5_parse 1 RX5 g 4 86 0 0) (hZ : gZ x g none (modW g a o0) (pV (modW g a) post) 0 0) : ∀ (n : Nat) (o : Off) , wl_X5_parse_32 post n o → G x g 1 0 0 (modW g a o) 32 [(0, .ref (a 0))] [] := by
  intro n
  induction n with
  | zero =>
    intro o h
    exact h.elim
  | succ n ih =>
    intro o h
    rw [wl_X5_parse_32] at h
    refine g_aload_n hC dX5_parse_32 33 rfl rfl 0 rfl ?_
    refine g_readV hC (ct_X5_mark l g a o  _ h) gY_X5_mark dX5_parse_33 36 rfl ml_X5_290 [] [] (by simp only [List.nil_append, List.append_nil]) [] rfl rfl rfl 0 9 rfl rfl ⟨Nat.le_of_ble_eq_true rfl, Nat.le_of_ble_eq_true rfl⟩ (Nat.le_of_ble_eq_true rfl) ⟨Nat.le_refl _, Nat.le_refl _⟩ (fun v7 h => ?_)
    refine g_bipush hC (59 : Int32) dX5_parse_36 38 rfl bipush_59 ?_
    refine g_icmp_ne hC dX5_parse_38 58 (by decide) 41 rfl (fun c => ?_) (fun c => ?_)
    · have h := h.1 c
      refine g_aload_n hC dX5_parse_58 59 rfl rfl 0 rfl ?_
      refine g_dup hC dX5_parse_59 60 rfl rfl ?_
      refine g_get hC fl_X5_81 dX5_parse_60 63 rfl 0 rfl rfl ?_
      refine g_aload_n hC dX5_parse_63 64 rfl rfl 0 rfl ?_
      refine g_get hC fl_X5_75 dX5_parse_64 67 rfl 0 rfl rfl ?_
      refine g_aload_n hC dX5_parse_67 68 rfl rfl 0 rfl ?_
      refine g_get hC fl_X5_72 dX5_parse_68 71 rfl 0 rfl rfl ?_
      refine g_icmp_ge hC dX5_parse_71 78 (by decide) 74 rfl (fun c => ?_) (fun c => ?_)
      · have h := h.1 c
        refine g_iconst hC (0 : Int32) dX5_parse_78 79 rfl iconst_0 ?_
        refine g_lv (lv2 := []) [] rfl ?_
        exact jn_X5_parse_79 hC hZ o (0 : Int32) (o 0 23) h
      · have h := h.2 c
        refine g_iconst hC (1 : Int32) dX5_parse_74 75 rfl iconst_1 ?_
        refine g_goto hC dX5_parse_75 79 (by decide) ?_
        refine g_lv (lv2 := []) [] rfl ?_
        exact jn_X5_parse_79 hC hZ o (1 : Int32) (o 0 23) h
    · have h := h.2 c
      refine g_aload_n hC dX5_parse_41 42 rfl rfl 0 rfl ?_
      refine g_dup hC dX5_parse_42 43 rfl rfl ?_
      refine g_get hC fl_X5_75 dX5_parse_43 46 rfl 0 rfl rfl ?_
      refine g_iconst hC (1 : Int32) dX5_parse_46 47 rfl iconst_1 ?_
      refine g_iadd hC dX5_parse_47 48 rfl ?_
      obtain ⟨o9, eo9⟩ : ∃ y : Off, y = st o 0 21 ((o 0 21) + (1 : Int32)) := ⟨_, rfl⟩
      have h := h o9 eo9
      refine g_put hC fp_X5_75 dX5_parse_48 51 rfl 0 rfl rfl rfl (Nat.le_of_ble_eq_true rfl) (modW_p21 eo9) ?_
      refine g_aload_n hC dX5_parse_51 52 rfl rfl 0 rfl ?_
      refine g_ownV hC (ct_X5_command l g a o9  _ h) gY_X5_command dX5_parse_52 55 rfl ml_X5_314 [] rfl rfl rfl 0 9 rfl rfl ⟨Nat.le_of_ble_eq_true rfl, Nat.le_of_ble_eq_true rfl⟩ (Nat.le_of_ble_eq_true rfl) ⟨Nat.le_refl _, Nat.le_refl _⟩ (fun o10 h => ?_)
      refine g_goto hC dX5_parse_55 32 (by decide) ?_
      exact ih o10 h
set_option maxRecDepth 100000 in
set_option maxHeartbeats 4000000 in
theorem ct_X5_parse (l : Launch) (g : gE) (a : Nat → Nat) (o : Off) (post : Off → Prop) (h : wp_X5_parse post o ) : Fn l g yX5_parse cX5_parse 1 none 4 86 0 0 (modW g a o) [.ref (a 0)] (pV (modW g a) post) := by
  refine Fn.of (by decide) (Nat.le_of_ble_eq_true rfl) (fun x hC hZ => ?_)
  rw [wp_X5_parse] at h
  show G x g 1 0 0 (modW g a o) 0 [(0, .ref (a 0))] []
  refine g_aload_n hC dX5_parse_0 1 rfl rfl 0 rfl ?_
  refine g_aload_n hC dX5_parse_1 2 rfl rfl 0 rfl ?_
  refine g_get hC fl_X5_69 dX5_parse_2 5 rfl 0 rfl rfl ?_
  obtain ⟨o1, eo1⟩ : ∃ y : Off, y = st o 0 20 (o 0 19) := ⟨_, rfl⟩
  have h := h o1 eo1
  refine g_put hC fp_X5_72 dX5_parse_5 8 rfl 0 rfl rfl rfl (Nat.le_of_ble_eq_true rfl) (modW_p20 eo1) ?_
  refine g_aload_n hC dX5_parse_8 9 rfl rfl 0 rfl ?_
  refine g_iconst hC (0 : Int32) dX5_parse_9 10 rfl iconst_0 ?_
  obtain ⟨o2, eo2⟩ : ∃ y : Off, y = st o1 0 19 (0 : Int32) := ⟨_, rfl⟩
  have h := h o2 eo2
  refine g_put hC fp_X5_69 dX5_parse_10 13 rfl 0 rfl rfl rfl (Nat.le_of_ble_eq_true rfl) (modW_p19 eo2) ?_
  refine g_aload_n hC dX5_parse_13 14 rfl rfl 0 rfl ?_
  refine g_iconst hC (0 : Int32) dX5_parse_14 15 rfl iconst_0 ?_
  obtain ⟨o3, eo3⟩ : ∃ y : Off, y = st o2 0 21 (0 : Int32) := ⟨_, rfl⟩
  have h := h o3 eo3
  refine g_put hC fp_X5_75 dX5_parse_15 18 rfl 0 rfl rfl rfl (Nat.le_of_ble_eq_true rfl) (modW_p21 eo3) ?_
  refine g_aload_n hC dX5_parse_18 19 rfl rfl 0 rfl ?_
  refine g_iconst hC (0 : Int32) dX5_parse_19 20 rfl iconst_0 ?_
  obtain ⟨o4, eo4⟩ : ∃ y : Off, y = st o3 0 22 (0 : Int32) := ⟨_, rfl⟩
  have h := h o4 eo4
  refine g_put hC fp_X5_78 dX5_parse_20 23 rfl 0 rfl rfl rfl (Nat.le_of_ble_eq_true rfl) (modW_p22 eo4) ?_
  refine g_aload_n hC dX5_parse_23 24 rfl rfl 0 rfl ?_
  refine g_iconst hC (0 : Int32) dX5_parse_24 25 rfl iconst_0 ?_
  obtain ⟨o5, eo5⟩ : ∃ y : Off, y = st o4 0 23 (0 : Int32) := ⟨_, rfl⟩
  have h := h o5 eo5
  refine g_put hC fp_X5_81 dX5_parse_25 28 rfl 0 rfl rfl rfl (Nat.le_of_ble_eq_true rfl) (modW_p23 eo5) ?_
  refine g_aload_n hC dX5_parse_28 29 rfl rfl 0 rfl ?_
  refine g_ownV hC (ct_X5_command l g a o5  _ h) gY_X5_command dX5_parse_29 32 rfl ml_X5_314 [] rfl rfl rfl 0 9 rfl rfl ⟨Nat.le_of_ble_eq_true rfl, Nat.le_of_ble_eq_true rfl⟩ (Nat.le_of_ble_eq_true rfl) ⟨Nat.le_refl _, Nat.le_refl _⟩ (fun o6 h => ?_)
  obtain ⟨m, h⟩ := h
  exact lp_X5_parse_32 hC hZ m o6 h
def wj_X5_carries_528 (post : Int32 → Off → Prop) (o : Off) (s0 : Int32) (s1 : Int32) (s2 : Int32) : Prop := wp_X5_bans (fun v12 o11 => post (0 : Int32) o11) o s2 s1 s0
def wp_X5_carries (post : Int32 → Off → Prop) (o : Off) (p0 : Int32) : Prop := (vp_in ((3 : Int32) * p0) 96 ∧ (∀ v1 : Int32, v1 = (o 9 ((3 : Int32) * p0).toNatClampNeg) → (vp_in (((3 : Int32) * p0) + (1 : Int32)) 96 ∧ (∀ v2 : Int32, v2 = (o 9 (((3 : Int32) * p0) + (1 : Int32)).toNatClampNeg) → (vp_in (((3 : Int32) * p0) + (2 : Int32)) 96 ∧ (∀ v3 : Int32, v3 = (o 9 (((3 : Int32) * p0) + (2 : Int32)).toNatClampNeg) → (vp_in p0 32 ∧ (((o 8 p0.toNatClampNeg) = (97 : Int32) → wp_X5_isSock (fun v4 => ((v4 = 0 → post (1 : Int32) o) ∧ (¬ v4 = 0 → wp_X5_isDrawer (fun v5 => ((¬ v5 = 0 → wp_X5_cannotApply (fun v7 o6 => ((v7 = 0 → wp_X5_applies (fun v9 o8 => post (0 : Int32) o8) o6 v1 v2) ∧ (¬ v7 = 0 → post (2 : Int32) o6))) o v1) ∧ (v5 = 0 → post (1 : Int32) o))) v2))) o v1) ∧ (¬ (o 8 p0.toNatClampNeg) = (97 : Int32) → (((o 8 p0.toNatClampNeg) = (98 : Int32) → wp_X5_isDrawer (fun v10 => ((¬ v10 = 0 → (vp_in p0 32 ∧ ((¬ (o 8 p0.toNatClampNeg) = (98 : Int32) → wj_X5_carries_528 post o (0 : Int32) v2 v1) ∧ ((o 8 p0.toNatClampNeg) = (98 : Int32) → wj_X5_carries_528 post o (1 : Int32) v2 v1)))) ∧ (v10 = 0 → post (1 : Int32) o))) v1) ∧ (¬ (o 8 p0.toNatClampNeg) = (98 : Int32) → (((o 8 p0.toNatClampNeg) = (100 : Int32) → wp_X5_isDrawer (fun v13 => ((¬ v13 = 0 → wp_X5_decides (fun v15 o14 => post (0 : Int32) o14) o v1) ∧ (v13 = 0 → post (1 : Int32) o))) v1) ∧ (¬ (o 8 p0.toNatClampNeg) = (100 : Int32) → (((o 8 p0.toNatClampNeg) = (101 : Int32) → wp_X5_noTreaty (fun v16 => ((v16 ≤ 0 → wp_X5_signs (fun v18 o17 => post (0 : Int32) o17) o v1 v2 (0 : Int32)) ∧ (¬ v16 ≤ 0 → post (1 : Int32) o))) o v1 v2) ∧ (¬ (o 8 p0.toNatClampNeg) = (101 : Int32) → (((o 8 p0.toNatClampNeg) = (106 : Int32) → wp_X5_isSock (fun v19 => ((v19 = 0 → post (1 : Int32) o) ∧ (¬ v19 = 0 → wp_X5_isSock (fun v20 => ((v20 = 0 → post (1 : Int32) o) ∧ (¬ v20 = 0 → ((¬ v1 = v2 → wp_X5_cannotPair (fun v22 o21 => ((v22 = 0 → wp_X5_pairs (fun v24 o23 => post (0 : Int32) o23) o21 v1 v2) ∧ (¬ v22 = 0 → post (2 : Int32) o21))) o v1 v2) ∧ (v1 = v2 → post (1 : Int32) o))))) o v2))) o v1) ∧ (¬ (o 8 p0.toNatClampNeg) = (106 : Int32) → (((o 8 p0.toNatClampNeg) = (107 : Int32) → wp_X5_isSock (fun v25 => ((¬ v25 = 0 → wp_X5_cannotSeparate (fun v27 o26 => ((v27 = 0 → wp_X5_separates (fun v29 o28 => post (0 : Int32) o28) o26 v1) ∧ (¬ v27 = 0 → post (2 : Int32) o26))) o v1) ∧ (v25 = 0 → post (1 : Int32) o))) o v1) ∧ (¬ (o 8 p0.toNatClampNeg) = (107 : Int32) → (((o 8 p0.toNatClampNeg) = (108 : Int32) → wp_X5_isSock (fun v30 => ((¬ v30 = 0 → wp_X5_cannotLeave (fun v32 o31 => ((v32 = 0 → wp_X5_leaves (fun v34 o33 => post (0 : Int32) o33) o31 v1) ∧ (¬ v32 = 0 → post (2 : Int32) o31))) o v1) ∧ (v30 = 0 → post (1 : Int32) o))) o v1) ∧ (¬ (o 8 p0.toNatClampNeg) = (108 : Int32) → (((o 8 p0.toNatClampNeg) = (109 : Int32) → wp_X5_isSock (fun v35 => ((v35 = 0 → post (1 : Int32) o) ∧ (¬ v35 = 0 → wp_X5_isDrawer (fun v36 => ((¬ v36 = 0 → wp_X5_cannotMove (fun v38 o37 => ((v38 = 0 → wp_X5_moves (fun v40 o39 => post (0 : Int32) o39) o37 v1 v2) ∧ (¬ v38 = 0 → post (2 : Int32) o37))) o v1 v2) ∧ (v36 = 0 → post (1 : Int32) o))) v2))) o v1) ∧ (¬ (o 8 p0.toNatClampNeg) = (109 : Int32) → (((o 8 p0.toNatClampNeg) = (110 : Int32) → wp_X5_isKind (fun v41 => ((¬ v41 = 0 → wp_X5_tooMany (fun v43 o42 => ((v43 = 0 → wp_X5_adds (fun v45 o44 => post (0 : Int32) o44) o42 v1 v2) ∧ (¬ v43 = 0 → post (2 : Int32) o42))) o ) ∧ (v41 = 0 → post (1 : Int32) o))) v1 v2) ∧ (¬ (o 8 p0.toNatClampNeg) = (110 : Int32) → (((o 8 p0.toNatClampNeg) = (112 : Int32) → wp_X5_isSock (fun v46 => ((¬ v46 = 0 → wp_X5_cannotAppeal (fun v48 o47 => ((v48 = 0 → wp_X5_appeals (fun v50 o49 => post (0 : Int32) o49) o47 v1) ∧ (¬ v48 = 0 → post (2 : Int32) o47))) o v1) ∧ (v46 = 0 → post (1 : Int32) o))) o v1) ∧ (¬ (o 8 p0.toNatClampNeg) = (112 : Int32) → (((o 8 p0.toNatClampNeg) = (113 : Int32) → wp_X5_isDrawer (fun v51 => ((v51 = 0 → post (1 : Int32) o) ∧ (¬ v51 = 0 → wp_X5_in (fun v52 => ((¬ v52 = 0 → wp_X5_limits (fun v54 o53 => post (0 : Int32) o53) o v1 v2) ∧ (v52 = 0 → post (1 : Int32) o))) v2 (0 : Int32) (9 : Int32)))) v1) ∧ (¬ (o 8 p0.toNatClampNeg) = (113 : Int32) → (((o 8 p0.toNatClampNeg) = (114 : Int32) → wp_X5_isSock (fun v55 => ((v55 = 0 → post (1 : Int32) o) ∧ (¬ v55 = 0 → wp_X5_in (fun v56 => ((¬ v56 = 0 → wp_X5_cannotRenew (fun v58 o57 => ((v58 = 0 → wp_X5_renews (fun v60 o59 => post (0 : Int32) o59) o57 v1 v2) ∧ (¬ v58 = 0 → post (2 : Int32) o57))) o v1 v2) ∧ (v56 = 0 → post (1 : Int32) o))) v2 (1 : Int32) (9 : Int32)))) o v1) ∧ (¬ (o 8 p0.toNatClampNeg) = (114 : Int32) → (((o 8 p0.toNatClampNeg) = (116 : Int32) → wp_X5_isDrawer (fun v61 => ((v61 = 0 → post (1 : Int32) o) ∧ (¬ v61 = 0 → wp_X5_isDrawer (fun v62 => ((v62 = 0 → post (1 : Int32) o) ∧ (¬ v62 = 0 → ((¬ v1 = v2 → wp_X5_cannotSign (fun v64 o63 => ((v64 = 0 → wp_X5_signs (fun v66 o65 => post (0 : Int32) o65) o63 v1 v2 v3) ∧ (¬ v64 = 0 → post (2 : Int32) o63))) o v1 v2) ∧ (v1 = v2 → post (1 : Int32) o))))) v2))) v1) ∧ (¬ (o 8 p0.toNatClampNeg) = (116 : Int32) → (((o 8 p0.toNatClampNeg) = (117 : Int32) → wp_X5_isDrawer (fun v67 => ((¬ v67 = 0 → (vp_in p0 32 ∧ ((¬ (o 8 p0.toNatClampNeg) = (98 : Int32) → wj_X5_carries_528 post o (0 : Int32) v2 v1) ∧ ((o 8 p0.toNatClampNeg) = (98 : Int32) → wj_X5_carries_528 post o (1 : Int32) v2 v1)))) ∧ (v67 = 0 → post (1 : Int32) o))) v1) ∧ (¬ (o 8 p0.toNatClampNeg) = (117 : Int32) → (((o 8 p0.toNatClampNeg) = (119 : Int32) → wp_X5_isSock (fun v68 => ((¬ v68 = 0 → wp_X5_cannotWithdraw (fun v70 o69 => ((v70 = 0 → wp_X5_withdraws (fun v72 o71 => post (0 : Int32) o71) o69 v1) ∧ (¬ v70 = 0 → post (2 : Int32) o69))) o v1) ∧ (v68 = 0 → post (1 : Int32) o))) o v1) ∧ (¬ (o 8 p0.toNatClampNeg) = (119 : Int32) → wp_X5_in (fun v73 => ((¬ v73 = 0 → wp_X5_passes (fun v75 o74 => post (0 : Int32) o74) o v1) ∧ (v73 = 0 → post (1 : Int32) o))) v1 (1 : Int32) (20 : Int32))))))))))))))))))))))))))))))))))))))
set_option maxRecDepth 100000 in
set_option maxHeartbeats 4000000 in
theorem jn_X5_carries_528 {x : gX} {l : Launch} {g : gE} {a : Nat → Nat} {o0 : Off} {post : Int32 → Off → Prop} (hC : gC x l cX5_carries 6 RX5 g 5 114 0 0) (hZ : gZ x g (some .int) (modW g a o0) (pI (modW g a) post) 0 0) : ∀ (o : Off) (s0 : Int32) (s1 : Int32) (s2 : Int32) , wj_X5_carries_528 post o s0 s1 s2 → G x g 6 0 0 (modW g a o) 528 [] [.int s0, .int s1, .int s2, .ref (a 0)] := by
  intro o s0 s1 s2 h
  rw [wj_X5_carries_528] at h
  refine g_ownI hC (ct_X5_bans l g a o s2 s1 s0 _ h) gY_X5_bans dX5_carries_528 531 rfl ml_X5_256 [] rfl rfl rfl 0 9 rfl rfl ⟨Nat.le_of_ble_eq_true rfl, Nat.le_of_ble_eq_true rfl⟩ (Nat.le_of_ble_eq_true rfl) ⟨Nat.le_refl _, Nat.le_refl _⟩ (fun v12 o11 h => ?_)
  refine g_istore (lv2 := [(5, .int v12)]) hC dX5_carries_531 533 rfl (by decide) rfl ?_
  refine g_iconst hC (0 : Int32) dX5_carries_533 534 rfl iconst_0 ?_
  exact g_iret hC hZ dX5_carries_534 ⟨_, _, rfl, rfl, h⟩
set_option maxRecDepth 100000 in
set_option maxHeartbeats 4000000 in
theorem ct_X5_carries (l : Launch) (g : gE) (a : Nat → Nat) (o : Off) (p0 : Int32) (post : Int32 → Off → Prop) (h : wp_X5_carries post o p0) : Fn l g yX5_carries cX5_carries 6 (some .int) 5 114 0 0 (modW g a o) [.ref (a 0), .int p0] (pI (modW g a) post) := by
  refine Fn.of (by decide) (Nat.le_of_ble_eq_true rfl) (fun x hC hZ => ?_)
  rw [wp_X5_carries] at h
  show G x g 6 0 0 (modW g a o) 0 [(0, .ref (a 0)), (1, .int p0)] []
  refine g_aload_n hC dX5_carries_0 1 rfl rfl 0 rfl ?_
  refine g_get hC fl_X5_66 dX5_carries_1 4 rfl 0 rfl rfl ?_
  refine g_iconst hC (3 : Int32) dX5_carries_4 5 rfl iconst_3 ?_
  refine g_iload_n hC dX5_carries_5 6 rfl rfl 1 rfl ?_
  refine g_imul hC dX5_carries_6 7 rfl ?_
  obtain ⟨hi, h⟩ := h
  refine g_iald hC dX5_carries_7 8 rfl 9 rfl hi ?_
  refine g_topi (fun v1 ev1 => ?_)
  have h := h v1 ev1
  refine g_istore_n (lv2 := [(2, .int v1), (0, .ref (a 0)), (1, .int p0)]) hC dX5_carries_8 9 rfl rfl (by decide) rfl ?_
  refine g_aload_n hC dX5_carries_9 10 rfl rfl 1 rfl ?_
  refine g_get hC fl_X5_66 dX5_carries_10 13 rfl 0 rfl rfl ?_
  refine g_iconst hC (3 : Int32) dX5_carries_13 14 rfl iconst_3 ?_
  refine g_iload_n hC dX5_carries_14 15 rfl rfl 2 rfl ?_
  refine g_imul hC dX5_carries_15 16 rfl ?_
  refine g_iconst hC (1 : Int32) dX5_carries_16 17 rfl iconst_1 ?_
  refine g_iadd hC dX5_carries_17 18 rfl ?_
  obtain ⟨hi, h⟩ := h
  refine g_iald hC dX5_carries_18 19 rfl 9 rfl hi ?_
  refine g_topi (fun v2 ev2 => ?_)
  have h := h v2 ev2
  refine g_istore_n (lv2 := [(3, .int v2), (2, .int v1), (0, .ref (a 0)), (1, .int p0)]) hC dX5_carries_19 20 rfl rfl (by decide) rfl ?_
  refine g_aload_n hC dX5_carries_20 21 rfl rfl 2 rfl ?_
  refine g_get hC fl_X5_66 dX5_carries_21 24 rfl 0 rfl rfl ?_
  refine g_iconst hC (3 : Int32) dX5_carries_24 25 rfl iconst_3 ?_
  refine g_iload_n hC dX5_carries_25 26 rfl rfl 3 rfl ?_
  refine g_imul hC dX5_carries_26 27 rfl ?_
  refine g_iconst hC (2 : Int32) dX5_carries_27 28 rfl iconst_2 ?_
  refine g_iadd hC dX5_carries_28 29 rfl ?_
  obtain ⟨hi, h⟩ := h
  refine g_iald hC dX5_carries_29 30 rfl 9 rfl hi ?_
  refine g_topi (fun v3 ev3 => ?_)
  have h := h v3 ev3
  refine g_istore (lv2 := [(4, .int v3), (3, .int v2), (2, .int v1), (0, .ref (a 0)), (1, .int p0)]) hC dX5_carries_30 32 rfl (by decide) rfl ?_
  refine g_iconst hC (0 : Int32) dX5_carries_32 33 rfl iconst_0 ?_
  refine g_istore (lv2 := [(5, .int (0 : Int32)), (4, .int v3), (3, .int v2), (2, .int v1), (0, .ref (a 0)), (1, .int p0)]) hC dX5_carries_33 35 rfl (by decide) rfl ?_
  refine g_aload_n hC dX5_carries_35 36 rfl rfl 4 rfl ?_
  refine g_get hC fl_X5_63 dX5_carries_36 39 rfl 0 rfl rfl ?_
  refine g_iload_n hC dX5_carries_39 40 rfl rfl 5 rfl ?_
  obtain ⟨hi, h⟩ := h
  refine g_iald hC dX5_carries_40 41 rfl 8 rfl hi ?_
  by_cases c97 : (o 8 p0.toNatClampNeg) = (97 : Int32)
  · have h := h.1 c97
    refine g_tableIn hC dX5_carries_41 (by rw [c97]; decide) (by rw [c97]; decide) (off := 136) (by rw [c97]; rfl) 177 (by decide) ?_
    refine g_aload_n hC dX5_carries_177 178 rfl rfl 4 rfl ?_
    refine g_iload_n hC dX5_carries_178 179 rfl rfl 3 rfl ?_
    refine g_readV hC (ct_X5_isSock l g a o v1 _ h) gY_X5_isSock dX5_carries_179 182 rfl ml_X5_151 [] [] (by simp only [List.nil_append, List.append_nil]) [] rfl rfl rfl 0 9 rfl rfl ⟨Nat.le_of_ble_eq_true rfl, Nat.le_of_ble_eq_true rfl⟩ (Nat.le_of_ble_eq_true rfl) ⟨Nat.le_refl _, Nat.le_refl _⟩ (fun v4 h => ?_)
    refine g_if_eq hC dX5_carries_182 192 (by decide) 185 rfl (fun c => ?_) (fun c => ?_)
    · have h := h.1 c
      refine g_iconst hC (1 : Int32) dX5_carries_192 193 rfl iconst_1 ?_
      exact g_iret hC hZ dX5_carries_193 ⟨_, _, rfl, rfl, h⟩
    · have h := h.2 c
      refine g_iload_n hC dX5_carries_185 186 rfl rfl 2 rfl ?_
      refine g_readS hC (ct_X5_isDrawer l g v2 _ h) gY_X5_isDrawer dX5_carries_186 189 rfl ml_X5_168 [] _ rfl [] rfl rfl ⟨Nat.le_of_ble_eq_true rfl, Nat.le_of_ble_eq_true rfl⟩ (Nat.le_of_ble_eq_true rfl) ⟨Nat.le_refl _, Nat.le_refl _⟩ (fun v5 h => ?_)
      refine g_if_ne hC dX5_carries_189 194 (by decide) 192 rfl (fun c => ?_) (fun c => ?_)
      · have h := h.1 c
        refine g_aload_n hC dX5_carries_194 195 rfl rfl 4 rfl ?_
        refine g_iload_n hC dX5_carries_195 196 rfl rfl 3 rfl ?_
        refine g_ownI hC (ct_X5_cannotApply l g a o v1 _ h) gY_X5_cannotApply dX5_carries_196 199 rfl ml_X5_171 [] rfl rfl rfl 0 9 rfl rfl ⟨Nat.le_of_ble_eq_true rfl, Nat.le_of_ble_eq_true rfl⟩ (Nat.le_of_ble_eq_true rfl) ⟨Nat.le_refl _, Nat.le_refl _⟩ (fun v7 o6 h => ?_)
        refine g_if_eq hC dX5_carries_199 204 (by decide) 202 rfl (fun c => ?_) (fun c => ?_)
        · have h := h.1 c
          refine g_aload_n hC dX5_carries_204 205 rfl rfl 4 rfl ?_
          refine g_iload_n hC dX5_carries_205 206 rfl rfl 3 rfl ?_
          refine g_iload_n hC dX5_carries_206 207 rfl rfl 2 rfl ?_
          refine g_ownI hC (ct_X5_applies l g a o6 v1 v2 _ h) gY_X5_applies dX5_carries_207 210 rfl ml_X5_174 [] rfl rfl rfl 0 9 rfl rfl ⟨Nat.le_of_ble_eq_true rfl, Nat.le_of_ble_eq_true rfl⟩ (Nat.le_of_ble_eq_true rfl) ⟨Nat.le_refl _, Nat.le_refl _⟩ (fun v9 o8 h => ?_)
          refine g_istore (lv2 := [(5, .int v9), (4, .int v3), (3, .int v2), (2, .int v1), (0, .ref (a 0)), (1, .int p0)]) hC dX5_carries_210 212 rfl (by decide) rfl ?_
          refine g_iconst hC (0 : Int32) dX5_carries_212 213 rfl iconst_0 ?_
          exact g_iret hC hZ dX5_carries_213 ⟨_, _, rfl, rfl, h⟩
        · have h := h.2 c
          refine g_iconst hC (2 : Int32) dX5_carries_202 203 rfl iconst_2 ?_
          exact g_iret hC hZ dX5_carries_203 ⟨_, _, rfl, rfl, h⟩
      · have h := h.2 c
        refine g_iconst hC (1 : Int32) dX5_carries_192 193 rfl iconst_1 ?_
        exact g_iret hC hZ dX5_carries_193 ⟨_, _, rfl, rfl, h⟩
  have h := h.2 c97
  by_cases c98 : (o 8 p0.toNatClampNeg) = (98 : Int32)
  · have h := h.1 c98
    refine g_tableIn hC dX5_carries_41 (by rw [c98]; decide) (by rw [c98]; decide) (off := 459) (by rw [c98]; rfl) 500 (by decide) ?_
    refine g_iload_n hC dX5_carries_500 501 rfl rfl 3 rfl ?_
    refine g_readS hC (ct_X5_isDrawer l g v1 _ h) gY_X5_isDrawer dX5_carries_501 504 rfl ml_X5_168 [] _ rfl [] rfl rfl ⟨Nat.le_of_ble_eq_true rfl, Nat.le_of_ble_eq_true rfl⟩ (Nat.le_of_ble_eq_true rfl) ⟨Nat.le_refl _, Nat.le_refl _⟩ (fun v10 h => ?_)
    refine g_if_ne hC dX5_carries_504 509 (by decide) 507 rfl (fun c => ?_) (fun c => ?_)
    · have h := h.1 c
      refine g_aload_n hC dX5_carries_509 510 rfl rfl 4 rfl ?_
      refine g_iload_n hC dX5_carries_510 511 rfl rfl 3 rfl ?_
      refine g_iload_n hC dX5_carries_511 512 rfl rfl 2 rfl ?_
      refine g_aload_n hC dX5_carries_512 513 rfl rfl 4 rfl ?_
      refine g_get hC fl_X5_63 dX5_carries_513 516 rfl 0 rfl rfl ?_
      refine g_iload_n hC dX5_carries_516 517 rfl rfl 5 rfl ?_
      obtain ⟨hi, h⟩ := h
      refine g_iald hC dX5_carries_517 518 rfl 8 rfl hi ?_
      refine g_bipush hC (98 : Int32) dX5_carries_518 520 rfl bipush_98 ?_
      refine g_icmp_ne hC dX5_carries_520 527 (by decide) 523 rfl (fun c => ?_) (fun c => ?_)
      · have h := h.1 c
        refine g_iconst hC (0 : Int32) dX5_carries_527 528 rfl iconst_0 ?_
        refine g_lv (lv2 := []) [] rfl ?_
        exact jn_X5_carries_528 hC hZ o (0 : Int32) v2 v1 h
      · have h := h.2 c
        refine g_iconst hC (1 : Int32) dX5_carries_523 524 rfl iconst_1 ?_
        refine g_goto hC dX5_carries_524 528 (by decide) ?_
        refine g_lv (lv2 := []) [] rfl ?_
        exact jn_X5_carries_528 hC hZ o (1 : Int32) v2 v1 h
    · have h := h.2 c
      refine g_iconst hC (1 : Int32) dX5_carries_507 508 rfl iconst_1 ?_
      exact g_iret hC hZ dX5_carries_508 ⟨_, _, rfl, rfl, h⟩
  have h := h.2 c98
  by_cases c100 : (o 8 p0.toNatClampNeg) = (100 : Int32)
  · have h := h.1 c100
    refine g_tableIn hC dX5_carries_41 (by rw [c100]; decide) (by rw [c100]; decide) (off := 231) (by rw [c100]; rfl) 272 (by decide) ?_
    refine g_iload_n hC dX5_carries_272 273 rfl rfl 3 rfl ?_
    refine g_readS hC (ct_X5_isDrawer l g v1 _ h) gY_X5_isDrawer dX5_carries_273 276 rfl ml_X5_168 [] _ rfl [] rfl rfl ⟨Nat.le_of_ble_eq_true rfl, Nat.le_of_ble_eq_true rfl⟩ (Nat.le_of_ble_eq_true rfl) ⟨Nat.le_refl _, Nat.le_refl _⟩ (fun v13 h => ?_)
    refine g_if_ne hC dX5_carries_276 281 (by decide) 279 rfl (fun c => ?_) (fun c => ?_)
    · have h := h.1 c
      refine g_aload_n hC dX5_carries_281 282 rfl rfl 4 rfl ?_
      refine g_iload_n hC dX5_carries_282 283 rfl rfl 3 rfl ?_
      refine g_ownI hC (ct_X5_decides l g a o v1 _ h) gY_X5_decides dX5_carries_283 286 rfl ml_X5_201 [] rfl rfl rfl 0 9 rfl rfl ⟨Nat.le_of_ble_eq_true rfl, Nat.le_of_ble_eq_true rfl⟩ (Nat.le_of_ble_eq_true rfl) ⟨Nat.le_refl _, Nat.le_refl _⟩ (fun v15 o14 h => ?_)
      refine g_istore (lv2 := [(5, .int v15), (4, .int v3), (3, .int v2), (2, .int v1), (0, .ref (a 0)), (1, .int p0)]) hC dX5_carries_286 288 rfl (by decide) rfl ?_
      refine g_iconst hC (0 : Int32) dX5_carries_288 289 rfl iconst_0 ?_
      exact g_iret hC hZ dX5_carries_289 ⟨_, _, rfl, rfl, h⟩
    · have h := h.2 c
      refine g_iconst hC (1 : Int32) dX5_carries_279 280 rfl iconst_1 ?_
      exact g_iret hC hZ dX5_carries_280 ⟨_, _, rfl, rfl, h⟩
  have h := h.2 c100
  by_cases c101 : (o 8 p0.toNatClampNeg) = (101 : Int32)
  · have h := h.1 c101
    refine g_tableIn hC dX5_carries_41 (by rw [c101]; decide) (by rw [c101]; decide) (off := 538) (by rw [c101]; rfl) 579 (by decide) ?_
    refine g_aload_n hC dX5_carries_579 580 rfl rfl 4 rfl ?_
    refine g_iload_n hC dX5_carries_580 581 rfl rfl 3 rfl ?_
    refine g_iload_n hC dX5_carries_581 582 rfl rfl 2 rfl ?_
    refine g_readV hC (ct_X5_noTreaty l g a o v1 v2 _ h) gY_X5_noTreaty dX5_carries_582 585 rfl ml_X5_275 [] [] (by simp only [List.nil_append, List.append_nil]) [] rfl rfl rfl 0 9 rfl rfl ⟨Nat.le_of_ble_eq_true rfl, Nat.le_of_ble_eq_true rfl⟩ (Nat.le_of_ble_eq_true rfl) ⟨Nat.le_refl _, Nat.le_refl _⟩ (fun v16 h => ?_)
    refine g_if_le hC dX5_carries_585 590 (by decide) 588 rfl (fun c => ?_) (fun c => ?_)
    · have h := h.1 c
      refine g_aload_n hC dX5_carries_590 591 rfl rfl 4 rfl ?_
      refine g_iload_n hC dX5_carries_591 592 rfl rfl 3 rfl ?_
      refine g_iload_n hC dX5_carries_592 593 rfl rfl 2 rfl ?_
      refine g_iconst hC (0 : Int32) dX5_carries_593 594 rfl iconst_0 ?_
      refine g_ownI hC (ct_X5_signs l g a o v1 v2 (0 : Int32) _ h) gY_X5_signs dX5_carries_594 597 rfl ml_X5_272 [] rfl rfl rfl 0 9 rfl rfl ⟨Nat.le_of_ble_eq_true rfl, Nat.le_of_ble_eq_true rfl⟩ (Nat.le_of_ble_eq_true rfl) ⟨Nat.le_refl _, Nat.le_refl _⟩ (fun v18 o17 h => ?_)
      refine g_istore (lv2 := [(5, .int v18), (4, .int v3), (3, .int v2), (2, .int v1), (0, .ref (a 0)), (1, .int p0)]) hC dX5_carries_597 599 rfl (by decide) rfl ?_
      refine g_iconst hC (0 : Int32) dX5_carries_599 600 rfl iconst_0 ?_
      exact g_iret hC hZ dX5_carries_600 ⟨_, _, rfl, rfl, h⟩
    · have h := h.2 c
      refine g_iconst hC (1 : Int32) dX5_carries_588 589 rfl iconst_1 ?_
      exact g_iret hC hZ dX5_carries_589 ⟨_, _, rfl, rfl, h⟩
  have h := h.2 c101
  by_cases c106 : (o 8 p0.toNatClampNeg) = (106 : Int32)
  · have h := h.1 c106
    refine g_tableIn hC dX5_carries_41 (by rw [c106]; decide) (by rw [c106]; decide) (off := 357) (by rw [c106]; rfl) 398 (by decide) ?_
    refine g_aload_n hC dX5_carries_398 399 rfl rfl 4 rfl ?_
    refine g_iload_n hC dX5_carries_399 400 rfl rfl 3 rfl ?_
    refine g_readV hC (ct_X5_isSock l g a o v1 _ h) gY_X5_isSock dX5_carries_400 403 rfl ml_X5_151 [] [] (by simp only [List.nil_append, List.append_nil]) [] rfl rfl rfl 0 9 rfl rfl ⟨Nat.le_of_ble_eq_true rfl, Nat.le_of_ble_eq_true rfl⟩ (Nat.le_of_ble_eq_true rfl) ⟨Nat.le_refl _, Nat.le_refl _⟩ (fun v19 h => ?_)
    refine g_if_eq hC dX5_carries_403 419 (by decide) 406 rfl (fun c => ?_) (fun c => ?_)
    · have h := h.1 c
      refine g_iconst hC (1 : Int32) dX5_carries_419 420 rfl iconst_1 ?_
      exact g_iret hC hZ dX5_carries_420 ⟨_, _, rfl, rfl, h⟩
    · have h := h.2 c
      refine g_aload_n hC dX5_carries_406 407 rfl rfl 4 rfl ?_
      refine g_iload_n hC dX5_carries_407 408 rfl rfl 2 rfl ?_
      refine g_readV hC (ct_X5_isSock l g a o v2 _ h) gY_X5_isSock dX5_carries_408 411 rfl ml_X5_151 [] [] (by simp only [List.nil_append, List.append_nil]) [] rfl rfl rfl 0 9 rfl rfl ⟨Nat.le_of_ble_eq_true rfl, Nat.le_of_ble_eq_true rfl⟩ (Nat.le_of_ble_eq_true rfl) ⟨Nat.le_refl _, Nat.le_refl _⟩ (fun v20 h => ?_)
      refine g_if_eq hC dX5_carries_411 419 (by decide) 414 rfl (fun c => ?_) (fun c => ?_)
      · have h := h.1 c
        refine g_iconst hC (1 : Int32) dX5_carries_419 420 rfl iconst_1 ?_
        exact g_iret hC hZ dX5_carries_420 ⟨_, _, rfl, rfl, h⟩
      · have h := h.2 c
        refine g_iload_n hC dX5_carries_414 415 rfl rfl 3 rfl ?_
        refine g_iload_n hC dX5_carries_415 416 rfl rfl 2 rfl ?_
        refine g_icmp_ne hC dX5_carries_416 421 (by decide) 419 rfl (fun c => ?_) (fun c => ?_)
        · have h := h.1 c
          refine g_aload_n hC dX5_carries_421 422 rfl rfl 4 rfl ?_
          refine g_iload_n hC dX5_carries_422 423 rfl rfl 3 rfl ?_
          refine g_iload_n hC dX5_carries_423 424 rfl rfl 2 rfl ?_
          refine g_ownI hC (ct_X5_cannotPair l g a o v1 v2 _ h) gY_X5_cannotPair dX5_carries_424 427 rfl ml_X5_234 [] rfl rfl rfl 0 9 rfl rfl ⟨Nat.le_of_ble_eq_true rfl, Nat.le_of_ble_eq_true rfl⟩ (Nat.le_of_ble_eq_true rfl) ⟨Nat.le_refl _, Nat.le_refl _⟩ (fun v22 o21 h => ?_)
          refine g_if_eq hC dX5_carries_427 432 (by decide) 430 rfl (fun c => ?_) (fun c => ?_)
          · have h := h.1 c
            refine g_aload_n hC dX5_carries_432 433 rfl rfl 4 rfl ?_
            refine g_iload_n hC dX5_carries_433 434 rfl rfl 3 rfl ?_
            refine g_iload_n hC dX5_carries_434 435 rfl rfl 2 rfl ?_
            refine g_ownI hC (ct_X5_pairs l g a o21 v1 v2 _ h) gY_X5_pairs dX5_carries_435 438 rfl ml_X5_237 [] rfl rfl rfl 0 9 rfl rfl ⟨Nat.le_of_ble_eq_true rfl, Nat.le_of_ble_eq_true rfl⟩ (Nat.le_of_ble_eq_true rfl) ⟨Nat.le_refl _, Nat.le_refl _⟩ (fun v24 o23 h => ?_)
            refine g_istore (lv2 := [(5, .int v24), (4, .int v3), (3, .int v2), (2, .int v1), (0, .ref (a 0)), (1, .int p0)]) hC dX5_carries_438 440 rfl (by decide) rfl ?_
            refine g_iconst hC (0 : Int32) dX5_carries_440 441 rfl iconst_0 ?_
            exact g_iret hC hZ dX5_carries_441 ⟨_, _, rfl, rfl, h⟩
          · have h := h.2 c
            refine g_iconst hC (2 : Int32) dX5_carries_430 431 rfl iconst_2 ?_
            exact g_iret hC hZ dX5_carries_431 ⟨_, _, rfl, rfl, h⟩
        · have h := h.2 c
          refine g_iconst hC (1 : Int32) dX5_carries_419 420 rfl iconst_1 ?_
          exact g_iret hC hZ dX5_carries_420 ⟨_, _, rfl, rfl, h⟩
  have h := h.2 c106
  by_cases c107 : (o 8 p0.toNatClampNeg) = (107 : Int32)
  · have h := h.1 c107
    refine g_tableIn hC dX5_carries_41 (by rw [c107]; decide) (by rw [c107]; decide) (off := 401) (by rw [c107]; rfl) 442 (by decide) ?_
    refine g_aload_n hC dX5_carries_442 443 rfl rfl 4 rfl ?_
    refine g_iload_n hC dX5_carries_443 444 rfl rfl 3 rfl ?_
    refine g_readV hC (ct_X5_isSock l g a o v1 _ h) gY_X5_isSock dX5_carries_444 447 rfl ml_X5_151 [] [] (by simp only [List.nil_append, List.append_nil]) [] rfl rfl rfl 0 9 rfl rfl ⟨Nat.le_of_ble_eq_true rfl, Nat.le_of_ble_eq_true rfl⟩ (Nat.le_of_ble_eq_true rfl) ⟨Nat.le_refl _, Nat.le_refl _⟩ (fun v25 h => ?_)
    refine g_if_ne hC dX5_carries_447 452 (by decide) 450 rfl (fun c => ?_) (fun c => ?_)
    · have h := h.1 c
      refine g_aload_n hC dX5_carries_452 453 rfl rfl 4 rfl ?_
      refine g_iload_n hC dX5_carries_453 454 rfl rfl 3 rfl ?_
      refine g_ownI hC (ct_X5_cannotSeparate l g a o v1 _ h) gY_X5_cannotSeparate dX5_carries_454 457 rfl ml_X5_240 [] rfl rfl rfl 0 9 rfl rfl ⟨Nat.le_of_ble_eq_true rfl, Nat.le_of_ble_eq_true rfl⟩ (Nat.le_of_ble_eq_true rfl) ⟨Nat.le_refl _, Nat.le_refl _⟩ (fun v27 o26 h => ?_)
      refine g_if_eq hC dX5_carries_457 462 (by decide) 460 rfl (fun c => ?_) (fun c => ?_)
      · have h := h.1 c
        refine g_aload_n hC dX5_carries_462 463 rfl rfl 4 rfl ?_
        refine g_iload_n hC dX5_carries_463 464 rfl rfl 3 rfl ?_
        refine g_ownI hC (ct_X5_separates l g a o26 v1 _ h) gY_X5_separates dX5_carries_464 467 rfl ml_X5_243 [] rfl rfl rfl 0 9 rfl rfl ⟨Nat.le_of_ble_eq_true rfl, Nat.le_of_ble_eq_true rfl⟩ (Nat.le_of_ble_eq_true rfl) ⟨Nat.le_refl _, Nat.le_refl _⟩ (fun v29 o28 h => ?_)
        refine g_istore (lv2 := [(5, .int v29), (4, .int v3), (3, .int v2), (2, .int v1), (0, .ref (a 0)), (1, .int p0)]) hC dX5_carries_467 469 rfl (by decide) rfl ?_
        refine g_iconst hC (0 : Int32) dX5_carries_469 470 rfl iconst_0 ?_
        exact g_iret hC hZ dX5_carries_470 ⟨_, _, rfl, rfl, h⟩
      · have h := h.2 c
        refine g_iconst hC (2 : Int32) dX5_carries_460 461 rfl iconst_2 ?_
        exact g_iret hC hZ dX5_carries_461 ⟨_, _, rfl, rfl, h⟩
    · have h := h.2 c
      refine g_iconst hC (1 : Int32) dX5_carries_450 451 rfl iconst_1 ?_
      exact g_iret hC hZ dX5_carries_451 ⟨_, _, rfl, rfl, h⟩
  have h := h.2 c107
  by_cases c108 : (o 8 p0.toNatClampNeg) = (108 : Int32)
  · have h := h.1 c108
    refine g_tableIn hC dX5_carries_41 (by rw [c108]; decide) (by rw [c108]; decide) (off := 290) (by rw [c108]; rfl) 331 (by decide) ?_
    refine g_aload_n hC dX5_carries_331 332 rfl rfl 4 rfl ?_
    refine g_iload_n hC dX5_carries_332 333 rfl rfl 3 rfl ?_
    refine g_readV hC (ct_X5_isSock l g a o v1 _ h) gY_X5_isSock dX5_carries_333 336 rfl ml_X5_151 [] [] (by simp only [List.nil_append, List.append_nil]) [] rfl rfl rfl 0 9 rfl rfl ⟨Nat.le_of_ble_eq_true rfl, Nat.le_of_ble_eq_true rfl⟩ (Nat.le_of_ble_eq_true rfl) ⟨Nat.le_refl _, Nat.le_refl _⟩ (fun v30 h => ?_)
    refine g_if_ne hC dX5_carries_336 341 (by decide) 339 rfl (fun c => ?_) (fun c => ?_)
    · have h := h.1 c
      refine g_aload_n hC dX5_carries_341 342 rfl rfl 4 rfl ?_
      refine g_iload_n hC dX5_carries_342 343 rfl rfl 3 rfl ?_
      refine g_ownI hC (ct_X5_cannotLeave l g a o v1 _ h) gY_X5_cannotLeave dX5_carries_343 346 rfl ml_X5_216 [] rfl rfl rfl 0 9 rfl rfl ⟨Nat.le_of_ble_eq_true rfl, Nat.le_of_ble_eq_true rfl⟩ (Nat.le_of_ble_eq_true rfl) ⟨Nat.le_refl _, Nat.le_refl _⟩ (fun v32 o31 h => ?_)
      refine g_if_eq hC dX5_carries_346 351 (by decide) 349 rfl (fun c => ?_) (fun c => ?_)
      · have h := h.1 c
        refine g_aload_n hC dX5_carries_351 352 rfl rfl 4 rfl ?_
        refine g_iload_n hC dX5_carries_352 353 rfl rfl 3 rfl ?_
        refine g_ownI hC (ct_X5_leaves l g a o31 v1 _ h) gY_X5_leaves dX5_carries_353 356 rfl ml_X5_219 [] rfl rfl rfl 0 9 rfl rfl ⟨Nat.le_of_ble_eq_true rfl, Nat.le_of_ble_eq_true rfl⟩ (Nat.le_of_ble_eq_true rfl) ⟨Nat.le_refl _, Nat.le_refl _⟩ (fun v34 o33 h => ?_)
        refine g_istore (lv2 := [(5, .int v34), (4, .int v3), (3, .int v2), (2, .int v1), (0, .ref (a 0)), (1, .int p0)]) hC dX5_carries_356 358 rfl (by decide) rfl ?_
        refine g_iconst hC (0 : Int32) dX5_carries_358 359 rfl iconst_0 ?_
        exact g_iret hC hZ dX5_carries_359 ⟨_, _, rfl, rfl, h⟩
      · have h := h.2 c
        refine g_iconst hC (2 : Int32) dX5_carries_349 350 rfl iconst_2 ?_
        exact g_iret hC hZ dX5_carries_350 ⟨_, _, rfl, rfl, h⟩
    · have h := h.2 c
      refine g_iconst hC (1 : Int32) dX5_carries_339 340 rfl iconst_1 ?_
      exact g_iret hC hZ dX5_carries_340 ⟨_, _, rfl, rfl, h⟩
  have h := h.2 c108
  by_cases c109 : (o 8 p0.toNatClampNeg) = (109 : Int32)
  · have h := h.1 c109
    refine g_tableIn hC dX5_carries_41 (by rw [c109]; decide) (by rw [c109]; decide) (off := 319) (by rw [c109]; rfl) 360 (by decide) ?_
    refine g_aload_n hC dX5_carries_360 361 rfl rfl 4 rfl ?_
    refine g_iload_n hC dX5_carries_361 362 rfl rfl 3 rfl ?_
    refine g_readV hC (ct_X5_isSock l g a o v1 _ h) gY_X5_isSock dX5_carries_362 365 rfl ml_X5_151 [] [] (by simp only [List.nil_append, List.append_nil]) [] rfl rfl rfl 0 9 rfl rfl ⟨Nat.le_of_ble_eq_true rfl, Nat.le_of_ble_eq_true rfl⟩ (Nat.le_of_ble_eq_true rfl) ⟨Nat.le_refl _, Nat.le_refl _⟩ (fun v35 h => ?_)
    refine g_if_eq hC dX5_carries_365 375 (by decide) 368 rfl (fun c => ?_) (fun c => ?_)
    · have h := h.1 c
      refine g_iconst hC (1 : Int32) dX5_carries_375 376 rfl iconst_1 ?_
      exact g_iret hC hZ dX5_carries_376 ⟨_, _, rfl, rfl, h⟩
    · have h := h.2 c
      refine g_iload_n hC dX5_carries_368 369 rfl rfl 2 rfl ?_
      refine g_readS hC (ct_X5_isDrawer l g v2 _ h) gY_X5_isDrawer dX5_carries_369 372 rfl ml_X5_168 [] _ rfl [] rfl rfl ⟨Nat.le_of_ble_eq_true rfl, Nat.le_of_ble_eq_true rfl⟩ (Nat.le_of_ble_eq_true rfl) ⟨Nat.le_refl _, Nat.le_refl _⟩ (fun v36 h => ?_)
      refine g_if_ne hC dX5_carries_372 377 (by decide) 375 rfl (fun c => ?_) (fun c => ?_)
      · have h := h.1 c
        refine g_aload_n hC dX5_carries_377 378 rfl rfl 4 rfl ?_
        refine g_iload_n hC dX5_carries_378 379 rfl rfl 3 rfl ?_
        refine g_iload_n hC dX5_carries_379 380 rfl rfl 2 rfl ?_
        refine g_ownI hC (ct_X5_cannotMove l g a o v1 v2 _ h) gY_X5_cannotMove dX5_carries_380 383 rfl ml_X5_225 [] rfl rfl rfl 0 9 rfl rfl ⟨Nat.le_of_ble_eq_true rfl, Nat.le_of_ble_eq_true rfl⟩ (Nat.le_of_ble_eq_true rfl) ⟨Nat.le_refl _, Nat.le_refl _⟩ (fun v38 o37 h => ?_)
        refine g_if_eq hC dX5_carries_383 388 (by decide) 386 rfl (fun c => ?_) (fun c => ?_)
        · have h := h.1 c
          refine g_aload_n hC dX5_carries_388 389 rfl rfl 4 rfl ?_
          refine g_iload_n hC dX5_carries_389 390 rfl rfl 3 rfl ?_
          refine g_iload_n hC dX5_carries_390 391 rfl rfl 2 rfl ?_
          refine g_ownI hC (ct_X5_moves l g a o37 v1 v2 _ h) gY_X5_moves dX5_carries_391 394 rfl ml_X5_228 [] rfl rfl rfl 0 9 rfl rfl ⟨Nat.le_of_ble_eq_true rfl, Nat.le_of_ble_eq_true rfl⟩ (Nat.le_of_ble_eq_true rfl) ⟨Nat.le_refl _, Nat.le_refl _⟩ (fun v40 o39 h => ?_)
          refine g_istore (lv2 := [(5, .int v40), (4, .int v3), (3, .int v2), (2, .int v1), (0, .ref (a 0)), (1, .int p0)]) hC dX5_carries_394 396 rfl (by decide) rfl ?_
          refine g_iconst hC (0 : Int32) dX5_carries_396 397 rfl iconst_0 ?_
          exact g_iret hC hZ dX5_carries_397 ⟨_, _, rfl, rfl, h⟩
        · have h := h.2 c
          refine g_iconst hC (2 : Int32) dX5_carries_386 387 rfl iconst_2 ?_
          exact g_iret hC hZ dX5_carries_387 ⟨_, _, rfl, rfl, h⟩
      · have h := h.2 c
        refine g_iconst hC (1 : Int32) dX5_carries_375 376 rfl iconst_1 ?_
        exact g_iret hC hZ dX5_carries_376 ⟨_, _, rfl, rfl, h⟩
  have h := h.2 c109
  by_cases c110 : (o 8 p0.toNatClampNeg) = (110 : Int32)
  · have h := h.1 c110
    refine g_tableIn hC dX5_carries_41 (by rw [c110]; decide) (by rw [c110]; decide) (off := 107) (by rw [c110]; rfl) 148 (by decide) ?_
    refine g_iload_n hC dX5_carries_148 149 rfl rfl 3 rfl ?_
    refine g_iload_n hC dX5_carries_149 150 rfl rfl 2 rfl ?_
    refine g_readS hC (ct_X5_isKind l g v1 v2 _ h) gY_X5_isKind dX5_carries_150 153 rfl ml_X5_132 [] _ rfl [] rfl rfl ⟨Nat.le_of_ble_eq_true rfl, Nat.le_of_ble_eq_true rfl⟩ (Nat.le_of_ble_eq_true rfl) ⟨Nat.le_refl _, Nat.le_refl _⟩ (fun v41 h => ?_)
    refine g_if_ne hC dX5_carries_153 158 (by decide) 156 rfl (fun c => ?_) (fun c => ?_)
    · have h := h.1 c
      refine g_aload_n hC dX5_carries_158 159 rfl rfl 4 rfl ?_
      refine g_ownI hC (ct_X5_tooMany l g a o  _ h) gY_X5_tooMany dX5_carries_159 162 rfl ml_X5_135 [] rfl rfl rfl 0 9 rfl rfl ⟨Nat.le_of_ble_eq_true rfl, Nat.le_of_ble_eq_true rfl⟩ (Nat.le_of_ble_eq_true rfl) ⟨Nat.le_refl _, Nat.le_refl _⟩ (fun v43 o42 h => ?_)
      refine g_if_eq hC dX5_carries_162 167 (by decide) 165 rfl (fun c => ?_) (fun c => ?_)
      · have h := h.1 c
        refine g_aload_n hC dX5_carries_167 168 rfl rfl 4 rfl ?_
        refine g_iload_n hC dX5_carries_168 169 rfl rfl 3 rfl ?_
        refine g_iload_n hC dX5_carries_169 170 rfl rfl 2 rfl ?_
        refine g_ownI hC (ct_X5_adds l g a o42 v1 v2 _ h) gY_X5_adds dX5_carries_170 173 rfl ml_X5_142 [] rfl rfl rfl 0 9 rfl rfl ⟨Nat.le_of_ble_eq_true rfl, Nat.le_of_ble_eq_true rfl⟩ (Nat.le_of_ble_eq_true rfl) ⟨Nat.le_refl _, Nat.le_refl _⟩ (fun v45 o44 h => ?_)
        refine g_istore (lv2 := [(5, .int v45), (4, .int v3), (3, .int v2), (2, .int v1), (0, .ref (a 0)), (1, .int p0)]) hC dX5_carries_173 175 rfl (by decide) rfl ?_
        refine g_iconst hC (0 : Int32) dX5_carries_175 176 rfl iconst_0 ?_
        exact g_iret hC hZ dX5_carries_176 ⟨_, _, rfl, rfl, h⟩
      · have h := h.2 c
        refine g_iconst hC (2 : Int32) dX5_carries_165 166 rfl iconst_2 ?_
        exact g_iret hC hZ dX5_carries_166 ⟨_, _, rfl, rfl, h⟩
    · have h := h.2 c
      refine g_iconst hC (1 : Int32) dX5_carries_156 157 rfl iconst_1 ?_
      exact g_iret hC hZ dX5_carries_157 ⟨_, _, rfl, rfl, h⟩
  have h := h.2 c110
  by_cases c112 : (o 8 p0.toNatClampNeg) = (112 : Int32)
  · have h := h.1 c112
    refine g_tableIn hC dX5_carries_41 (by rw [c112]; decide) (by rw [c112]; decide) (off := 202) (by rw [c112]; rfl) 243 (by decide) ?_
    refine g_aload_n hC dX5_carries_243 244 rfl rfl 4 rfl ?_
    refine g_iload_n hC dX5_carries_244 245 rfl rfl 3 rfl ?_
    refine g_readV hC (ct_X5_isSock l g a o v1 _ h) gY_X5_isSock dX5_carries_245 248 rfl ml_X5_151 [] [] (by simp only [List.nil_append, List.append_nil]) [] rfl rfl rfl 0 9 rfl rfl ⟨Nat.le_of_ble_eq_true rfl, Nat.le_of_ble_eq_true rfl⟩ (Nat.le_of_ble_eq_true rfl) ⟨Nat.le_refl _, Nat.le_refl _⟩ (fun v46 h => ?_)
    refine g_if_ne hC dX5_carries_248 253 (by decide) 251 rfl (fun c => ?_) (fun c => ?_)
    · have h := h.1 c
      refine g_aload_n hC dX5_carries_253 254 rfl rfl 4 rfl ?_
      refine g_iload_n hC dX5_carries_254 255 rfl rfl 3 rfl ?_
      refine g_ownI hC (ct_X5_cannotAppeal l g a o v1 _ h) gY_X5_cannotAppeal dX5_carries_255 258 rfl ml_X5_183 [] rfl rfl rfl 0 9 rfl rfl ⟨Nat.le_of_ble_eq_true rfl, Nat.le_of_ble_eq_true rfl⟩ (Nat.le_of_ble_eq_true rfl) ⟨Nat.le_refl _, Nat.le_refl _⟩ (fun v48 o47 h => ?_)
      refine g_if_eq hC dX5_carries_258 263 (by decide) 261 rfl (fun c => ?_) (fun c => ?_)
      · have h := h.1 c
        refine g_aload_n hC dX5_carries_263 264 rfl rfl 4 rfl ?_
        refine g_iload_n hC dX5_carries_264 265 rfl rfl 3 rfl ?_
        refine g_ownI hC (ct_X5_appeals l g a o47 v1 _ h) gY_X5_appeals dX5_carries_265 268 rfl ml_X5_186 [] rfl rfl rfl 0 9 rfl rfl ⟨Nat.le_of_ble_eq_true rfl, Nat.le_of_ble_eq_true rfl⟩ (Nat.le_of_ble_eq_true rfl) ⟨Nat.le_refl _, Nat.le_refl _⟩ (fun v50 o49 h => ?_)
        refine g_istore (lv2 := [(5, .int v50), (4, .int v3), (3, .int v2), (2, .int v1), (0, .ref (a 0)), (1, .int p0)]) hC dX5_carries_268 270 rfl (by decide) rfl ?_
        refine g_iconst hC (0 : Int32) dX5_carries_270 271 rfl iconst_0 ?_
        exact g_iret hC hZ dX5_carries_271 ⟨_, _, rfl, rfl, h⟩
      · have h := h.2 c
        refine g_iconst hC (2 : Int32) dX5_carries_261 262 rfl iconst_2 ?_
        exact g_iret hC hZ dX5_carries_262 ⟨_, _, rfl, rfl, h⟩
    · have h := h.2 c
      refine g_iconst hC (1 : Int32) dX5_carries_251 252 rfl iconst_1 ?_
      exact g_iret hC hZ dX5_carries_252 ⟨_, _, rfl, rfl, h⟩
  have h := h.2 c112
  by_cases c113 : (o 8 p0.toNatClampNeg) = (113 : Int32)
  · have h := h.1 c113
    refine g_tableIn hC dX5_carries_41 (by rw [c113]; decide) (by rw [c113]; decide) (off := 430) (by rw [c113]; rfl) 471 (by decide) ?_
    refine g_iload_n hC dX5_carries_471 472 rfl rfl 3 rfl ?_
    refine g_readS hC (ct_X5_isDrawer l g v1 _ h) gY_X5_isDrawer dX5_carries_472 475 rfl ml_X5_168 [] _ rfl [] rfl rfl ⟨Nat.le_of_ble_eq_true rfl, Nat.le_of_ble_eq_true rfl⟩ (Nat.le_of_ble_eq_true rfl) ⟨Nat.le_refl _, Nat.le_refl _⟩ (fun v51 h => ?_)
    refine g_if_eq hC dX5_carries_475 488 (by decide) 478 rfl (fun c => ?_) (fun c => ?_)
    · have h := h.1 c
      refine g_iconst hC (1 : Int32) dX5_carries_488 489 rfl iconst_1 ?_
      exact g_iret hC hZ dX5_carries_489 ⟨_, _, rfl, rfl, h⟩
    · have h := h.2 c
      refine g_iload_n hC dX5_carries_478 479 rfl rfl 2 rfl ?_
      refine g_iconst hC (0 : Int32) dX5_carries_479 480 rfl iconst_0 ?_
      refine g_bipush hC (9 : Int32) dX5_carries_480 482 rfl bipush_9 ?_
      refine g_readS hC (ct_X5_in l g v2 (0 : Int32) (9 : Int32) _ h) gY_X5_in dX5_carries_482 485 rfl ml_X5_92 [] _ rfl [] rfl rfl ⟨Nat.le_of_ble_eq_true rfl, Nat.le_of_ble_eq_true rfl⟩ (Nat.le_of_ble_eq_true rfl) ⟨Nat.le_refl _, Nat.le_refl _⟩ (fun v52 h => ?_)
      refine g_if_ne hC dX5_carries_485 490 (by decide) 488 rfl (fun c => ?_) (fun c => ?_)
      · have h := h.1 c
        refine g_aload_n hC dX5_carries_490 491 rfl rfl 4 rfl ?_
        refine g_iload_n hC dX5_carries_491 492 rfl rfl 3 rfl ?_
        refine g_iload_n hC dX5_carries_492 493 rfl rfl 2 rfl ?_
        refine g_ownI hC (ct_X5_limits l g a o v1 v2 _ h) gY_X5_limits dX5_carries_493 496 rfl ml_X5_253 [] rfl rfl rfl 0 9 rfl rfl ⟨Nat.le_of_ble_eq_true rfl, Nat.le_of_ble_eq_true rfl⟩ (Nat.le_of_ble_eq_true rfl) ⟨Nat.le_refl _, Nat.le_refl _⟩ (fun v54 o53 h => ?_)
        refine g_istore (lv2 := [(5, .int v54), (4, .int v3), (3, .int v2), (2, .int v1), (0, .ref (a 0)), (1, .int p0)]) hC dX5_carries_496 498 rfl (by decide) rfl ?_
        refine g_iconst hC (0 : Int32) dX5_carries_498 499 rfl iconst_0 ?_
        exact g_iret hC hZ dX5_carries_499 ⟨_, _, rfl, rfl, h⟩
      · have h := h.2 c
        refine g_iconst hC (1 : Int32) dX5_carries_488 489 rfl iconst_1 ?_
        exact g_iret hC hZ dX5_carries_489 ⟨_, _, rfl, rfl, h⟩
  have h := h.2 c113
  by_cases c114 : (o 8 p0.toNatClampNeg) = (114 : Int32)
  · have h := h.1 c114
    refine g_tableIn hC dX5_carries_41 (by rw [c114]; decide) (by rw [c114]; decide) (off := 249) (by rw [c114]; rfl) 290 (by decide) ?_
    refine g_aload_n hC dX5_carries_290 291 rfl rfl 4 rfl ?_
    refine g_iload_n hC dX5_carries_291 292 rfl rfl 3 rfl ?_
    refine g_readV hC (ct_X5_isSock l g a o v1 _ h) gY_X5_isSock dX5_carries_292 295 rfl ml_X5_151 [] [] (by simp only [List.nil_append, List.append_nil]) [] rfl rfl rfl 0 9 rfl rfl ⟨Nat.le_of_ble_eq_true rfl, Nat.le_of_ble_eq_true rfl⟩ (Nat.le_of_ble_eq_true rfl) ⟨Nat.le_refl _, Nat.le_refl _⟩ (fun v55 h => ?_)
    refine g_if_eq hC dX5_carries_295 308 (by decide) 298 rfl (fun c => ?_) (fun c => ?_)
    · have h := h.1 c
      refine g_iconst hC (1 : Int32) dX5_carries_308 309 rfl iconst_1 ?_
      exact g_iret hC hZ dX5_carries_309 ⟨_, _, rfl, rfl, h⟩
    · have h := h.2 c
      refine g_iload_n hC dX5_carries_298 299 rfl rfl 2 rfl ?_
      refine g_iconst hC (1 : Int32) dX5_carries_299 300 rfl iconst_1 ?_
      refine g_bipush hC (9 : Int32) dX5_carries_300 302 rfl bipush_9 ?_
      refine g_readS hC (ct_X5_in l g v2 (1 : Int32) (9 : Int32) _ h) gY_X5_in dX5_carries_302 305 rfl ml_X5_92 [] _ rfl [] rfl rfl ⟨Nat.le_of_ble_eq_true rfl, Nat.le_of_ble_eq_true rfl⟩ (Nat.le_of_ble_eq_true rfl) ⟨Nat.le_refl _, Nat.le_refl _⟩ (fun v56 h => ?_)
      refine g_if_ne hC dX5_carries_305 310 (by decide) 308 rfl (fun c => ?_) (fun c => ?_)
      · have h := h.1 c
        refine g_aload_n hC dX5_carries_310 311 rfl rfl 4 rfl ?_
        refine g_iload_n hC dX5_carries_311 312 rfl rfl 3 rfl ?_
        refine g_iload_n hC dX5_carries_312 313 rfl rfl 2 rfl ?_
        refine g_ownI hC (ct_X5_cannotRenew l g a o v1 v2 _ h) gY_X5_cannotRenew dX5_carries_313 316 rfl ml_X5_207 [] rfl rfl rfl 0 9 rfl rfl ⟨Nat.le_of_ble_eq_true rfl, Nat.le_of_ble_eq_true rfl⟩ (Nat.le_of_ble_eq_true rfl) ⟨Nat.le_refl _, Nat.le_refl _⟩ (fun v58 o57 h => ?_)
        refine g_if_eq hC dX5_carries_316 321 (by decide) 319 rfl (fun c => ?_) (fun c => ?_)
        · have h := h.1 c
          refine g_aload_n hC dX5_carries_321 322 rfl rfl 4 rfl ?_
          refine g_iload_n hC dX5_carries_322 323 rfl rfl 3 rfl ?_
          refine g_iload_n hC dX5_carries_323 324 rfl rfl 2 rfl ?_
          refine g_ownI hC (ct_X5_renews l g a o57 v1 v2 _ h) gY_X5_renews dX5_carries_324 327 rfl ml_X5_210 [] rfl rfl rfl 0 9 rfl rfl ⟨Nat.le_of_ble_eq_true rfl, Nat.le_of_ble_eq_true rfl⟩ (Nat.le_of_ble_eq_true rfl) ⟨Nat.le_refl _, Nat.le_refl _⟩ (fun v60 o59 h => ?_)
          refine g_istore (lv2 := [(5, .int v60), (4, .int v3), (3, .int v2), (2, .int v1), (0, .ref (a 0)), (1, .int p0)]) hC dX5_carries_327 329 rfl (by decide) rfl ?_
          refine g_iconst hC (0 : Int32) dX5_carries_329 330 rfl iconst_0 ?_
          exact g_iret hC hZ dX5_carries_330 ⟨_, _, rfl, rfl, h⟩
        · have h := h.2 c
          refine g_iconst hC (2 : Int32) dX5_carries_319 320 rfl iconst_2 ?_
          exact g_iret hC hZ dX5_carries_320 ⟨_, _, rfl, rfl, h⟩
      · have h := h.2 c
        refine g_iconst hC (1 : Int32) dX5_carries_308 309 rfl iconst_1 ?_
        exact g_iret hC hZ dX5_carries_309 ⟨_, _, rfl, rfl, h⟩
  have h := h.2 c114
  by_cases c116 : (o 8 p0.toNatClampNeg) = (116 : Int32)
  · have h := h.1 c116
    refine g_tableIn hC dX5_carries_41 (by rw [c116]; decide) (by rw [c116]; decide) (off := 494) (by rw [c116]; rfl) 535 (by decide) ?_
    refine g_iload_n hC dX5_carries_535 536 rfl rfl 3 rfl ?_
    refine g_readS hC (ct_X5_isDrawer l g v1 _ h) gY_X5_isDrawer dX5_carries_536 539 rfl ml_X5_168 [] _ rfl [] rfl rfl ⟨Nat.le_of_ble_eq_true rfl, Nat.le_of_ble_eq_true rfl⟩ (Nat.le_of_ble_eq_true rfl) ⟨Nat.le_refl _, Nat.le_refl _⟩ (fun v61 h => ?_)
    refine g_if_eq hC dX5_carries_539 554 (by decide) 542 rfl (fun c => ?_) (fun c => ?_)
    · have h := h.1 c
      refine g_iconst hC (1 : Int32) dX5_carries_554 555 rfl iconst_1 ?_
      exact g_iret hC hZ dX5_carries_555 ⟨_, _, rfl, rfl, h⟩
    · have h := h.2 c
      refine g_iload_n hC dX5_carries_542 543 rfl rfl 2 rfl ?_
      refine g_readS hC (ct_X5_isDrawer l g v2 _ h) gY_X5_isDrawer dX5_carries_543 546 rfl ml_X5_168 [] _ rfl [] rfl rfl ⟨Nat.le_of_ble_eq_true rfl, Nat.le_of_ble_eq_true rfl⟩ (Nat.le_of_ble_eq_true rfl) ⟨Nat.le_refl _, Nat.le_refl _⟩ (fun v62 h => ?_)
      refine g_if_eq hC dX5_carries_546 554 (by decide) 549 rfl (fun c => ?_) (fun c => ?_)
      · have h := h.1 c
        refine g_iconst hC (1 : Int32) dX5_carries_554 555 rfl iconst_1 ?_
        exact g_iret hC hZ dX5_carries_555 ⟨_, _, rfl, rfl, h⟩
      · have h := h.2 c
        refine g_iload_n hC dX5_carries_549 550 rfl rfl 3 rfl ?_
        refine g_iload_n hC dX5_carries_550 551 rfl rfl 2 rfl ?_
        refine g_icmp_ne hC dX5_carries_551 556 (by decide) 554 rfl (fun c => ?_) (fun c => ?_)
        · have h := h.1 c
          refine g_aload_n hC dX5_carries_556 557 rfl rfl 4 rfl ?_
          refine g_iload_n hC dX5_carries_557 558 rfl rfl 3 rfl ?_
          refine g_iload_n hC dX5_carries_558 559 rfl rfl 2 rfl ?_
          refine g_ownI hC (ct_X5_cannotSign l g a o v1 v2 _ h) gY_X5_cannotSign dX5_carries_559 562 rfl ml_X5_269 [] rfl rfl rfl 0 9 rfl rfl ⟨Nat.le_of_ble_eq_true rfl, Nat.le_of_ble_eq_true rfl⟩ (Nat.le_of_ble_eq_true rfl) ⟨Nat.le_refl _, Nat.le_refl _⟩ (fun v64 o63 h => ?_)
          refine g_if_eq hC dX5_carries_562 567 (by decide) 565 rfl (fun c => ?_) (fun c => ?_)
          · have h := h.1 c
            refine g_aload_n hC dX5_carries_567 568 rfl rfl 4 rfl ?_
            refine g_iload_n hC dX5_carries_568 569 rfl rfl 3 rfl ?_
            refine g_iload_n hC dX5_carries_569 570 rfl rfl 2 rfl ?_
            refine g_iload hC dX5_carries_570 572 rfl 1 rfl ?_
            refine g_ownI hC (ct_X5_signs l g a o63 v1 v2 v3 _ h) gY_X5_signs dX5_carries_572 575 rfl ml_X5_272 [] rfl rfl rfl 0 9 rfl rfl ⟨Nat.le_of_ble_eq_true rfl, Nat.le_of_ble_eq_true rfl⟩ (Nat.le_of_ble_eq_true rfl) ⟨Nat.le_refl _, Nat.le_refl _⟩ (fun v66 o65 h => ?_)
            refine g_istore (lv2 := [(5, .int v66), (4, .int v3), (3, .int v2), (2, .int v1), (0, .ref (a 0)), (1, .int p0)]) hC dX5_carries_575 577 rfl (by decide) rfl ?_
            refine g_iconst hC (0 : Int32) dX5_carries_577 578 rfl iconst_0 ?_
            exact g_iret hC hZ dX5_carries_578 ⟨_, _, rfl, rfl, h⟩
          · have h := h.2 c
            refine g_iconst hC (2 : Int32) dX5_carries_565 566 rfl iconst_2 ?_
            exact g_iret hC hZ dX5_carries_566 ⟨_, _, rfl, rfl, h⟩
        · have h := h.2 c
          refine g_iconst hC (1 : Int32) dX5_carries_554 555 rfl iconst_1 ?_
          exact g_iret hC hZ dX5_carries_555 ⟨_, _, rfl, rfl, h⟩
  have h := h.2 c116
  by_cases c117 : (o 8 p0.toNatClampNeg) = (117 : Int32)
  · have h := h.1 c117
    refine g_tableIn hC dX5_carries_41 (by rw [c117]; decide) (by rw [c117]; decide) (off := 459) (by rw [c117]; rfl) 500 (by decide) ?_
    refine g_iload_n hC dX5_carries_500 501 rfl rfl 3 rfl ?_
    refine g_readS hC (ct_X5_isDrawer l g v1 _ h) gY_X5_isDrawer dX5_carries_501 504 rfl ml_X5_168 [] _ rfl [] rfl rfl ⟨Nat.le_of_ble_eq_true rfl, Nat.le_of_ble_eq_true rfl⟩ (Nat.le_of_ble_eq_true rfl) ⟨Nat.le_refl _, Nat.le_refl _⟩ (fun v67 h => ?_)
    refine g_if_ne hC dX5_carries_504 509 (by decide) 507 rfl (fun c => ?_) (fun c => ?_)
    · have h := h.1 c
      refine g_aload_n hC dX5_carries_509 510 rfl rfl 4 rfl ?_
      refine g_iload_n hC dX5_carries_510 511 rfl rfl 3 rfl ?_
      refine g_iload_n hC dX5_carries_511 512 rfl rfl 2 rfl ?_
      refine g_aload_n hC dX5_carries_512 513 rfl rfl 4 rfl ?_
      refine g_get hC fl_X5_63 dX5_carries_513 516 rfl 0 rfl rfl ?_
      refine g_iload_n hC dX5_carries_516 517 rfl rfl 5 rfl ?_
      obtain ⟨hi, h⟩ := h
      refine g_iald hC dX5_carries_517 518 rfl 8 rfl hi ?_
      refine g_bipush hC (98 : Int32) dX5_carries_518 520 rfl bipush_98 ?_
      refine g_icmp_ne hC dX5_carries_520 527 (by decide) 523 rfl (fun c => ?_) (fun c => ?_)
      · have h := h.1 c
        refine g_iconst hC (0 : Int32) dX5_carries_527 528 rfl iconst_0 ?_
        refine g_lv (lv2 := []) [] rfl ?_
        exact jn_X5_carries_528 hC hZ o (0 : Int32) v2 v1 h
      · have h := h.2 c
        refine g_iconst hC (1 : Int32) dX5_carries_523 524 rfl iconst_1 ?_
        refine g_goto hC dX5_carries_524 528 (by decide) ?_
        refine g_lv (lv2 := []) [] rfl ?_
        exact jn_X5_carries_528 hC hZ o (1 : Int32) v2 v1 h
    · have h := h.2 c
      refine g_iconst hC (1 : Int32) dX5_carries_507 508 rfl iconst_1 ?_
      exact g_iret hC hZ dX5_carries_508 ⟨_, _, rfl, rfl, h⟩
  have h := h.2 c117
  by_cases c119 : (o 8 p0.toNatClampNeg) = (119 : Int32)
  · have h := h.1 c119
    refine g_tableIn hC dX5_carries_41 (by rw [c119]; decide) (by rw [c119]; decide) (off := 173) (by rw [c119]; rfl) 214 (by decide) ?_
    refine g_aload_n hC dX5_carries_214 215 rfl rfl 4 rfl ?_
    refine g_iload_n hC dX5_carries_215 216 rfl rfl 3 rfl ?_
    refine g_readV hC (ct_X5_isSock l g a o v1 _ h) gY_X5_isSock dX5_carries_216 219 rfl ml_X5_151 [] [] (by simp only [List.nil_append, List.append_nil]) [] rfl rfl rfl 0 9 rfl rfl ⟨Nat.le_of_ble_eq_true rfl, Nat.le_of_ble_eq_true rfl⟩ (Nat.le_of_ble_eq_true rfl) ⟨Nat.le_refl _, Nat.le_refl _⟩ (fun v68 h => ?_)
    refine g_if_ne hC dX5_carries_219 224 (by decide) 222 rfl (fun c => ?_) (fun c => ?_)
    · have h := h.1 c
      refine g_aload_n hC dX5_carries_224 225 rfl rfl 4 rfl ?_
      refine g_iload_n hC dX5_carries_225 226 rfl rfl 3 rfl ?_
      refine g_ownI hC (ct_X5_cannotWithdraw l g a o v1 _ h) gY_X5_cannotWithdraw dX5_carries_226 229 rfl ml_X5_177 [] rfl rfl rfl 0 9 rfl rfl ⟨Nat.le_of_ble_eq_true rfl, Nat.le_of_ble_eq_true rfl⟩ (Nat.le_of_ble_eq_true rfl) ⟨Nat.le_refl _, Nat.le_refl _⟩ (fun v70 o69 h => ?_)
      refine g_if_eq hC dX5_carries_229 234 (by decide) 232 rfl (fun c => ?_) (fun c => ?_)
      · have h := h.1 c
        refine g_aload_n hC dX5_carries_234 235 rfl rfl 4 rfl ?_
        refine g_iload_n hC dX5_carries_235 236 rfl rfl 3 rfl ?_
        refine g_ownI hC (ct_X5_withdraws l g a o69 v1 _ h) gY_X5_withdraws dX5_carries_236 239 rfl ml_X5_180 [] rfl rfl rfl 0 9 rfl rfl ⟨Nat.le_of_ble_eq_true rfl, Nat.le_of_ble_eq_true rfl⟩ (Nat.le_of_ble_eq_true rfl) ⟨Nat.le_refl _, Nat.le_refl _⟩ (fun v72 o71 h => ?_)
        refine g_istore (lv2 := [(5, .int v72), (4, .int v3), (3, .int v2), (2, .int v1), (0, .ref (a 0)), (1, .int p0)]) hC dX5_carries_239 241 rfl (by decide) rfl ?_
        refine g_iconst hC (0 : Int32) dX5_carries_241 242 rfl iconst_0 ?_
        exact g_iret hC hZ dX5_carries_242 ⟨_, _, rfl, rfl, h⟩
      · have h := h.2 c
        refine g_iconst hC (2 : Int32) dX5_carries_232 233 rfl iconst_2 ?_
        exact g_iret hC hZ dX5_carries_233 ⟨_, _, rfl, rfl, h⟩
    · have h := h.2 c
      refine g_iconst hC (1 : Int32) dX5_carries_222 223 rfl iconst_1 ?_
      exact g_iret hC hZ dX5_carries_223 ⟨_, _, rfl, rfl, h⟩
  have h := h.2 c119
  have hdef : G x g 6 0 0 (modW g a o) 601 [(5, .int (0 : Int32)), (4, .int v3), (3, .int v2), (2, .int v1), (0, .ref (a 0)), (1, .int p0)] [] := by
    refine g_iload_n hC dX5_carries_601 602 rfl rfl 3 rfl ?_
    refine g_iconst hC (1 : Int32) dX5_carries_602 603 rfl iconst_1 ?_
    refine g_bipush hC (20 : Int32) dX5_carries_603 605 rfl bipush_20 ?_
    refine g_readS hC (ct_X5_in l g v1 (1 : Int32) (20 : Int32) _ h) gY_X5_in dX5_carries_605 608 rfl ml_X5_92 [] _ rfl [] rfl rfl ⟨Nat.le_of_ble_eq_true rfl, Nat.le_of_ble_eq_true rfl⟩ (Nat.le_of_ble_eq_true rfl) ⟨Nat.le_refl _, Nat.le_refl _⟩ (fun v73 h => ?_)
    refine g_if_ne hC dX5_carries_608 613 (by decide) 611 rfl (fun c => ?_) (fun c => ?_)
    · have h := h.1 c
      refine g_aload_n hC dX5_carries_613 614 rfl rfl 4 rfl ?_
      refine g_iload_n hC dX5_carries_614 615 rfl rfl 3 rfl ?_
      refine g_ownI hC (ct_X5_passes l g a o v1 _ h) gY_X5_passes dX5_carries_615 618 rfl ml_X5_278 [] rfl rfl rfl 0 9 rfl rfl ⟨Nat.le_of_ble_eq_true rfl, Nat.le_of_ble_eq_true rfl⟩ (Nat.le_of_ble_eq_true rfl) ⟨Nat.le_refl _, Nat.le_refl _⟩ (fun v75 o74 h => ?_)
      refine g_istore (lv2 := [(5, .int v75), (4, .int v3), (3, .int v2), (2, .int v1), (0, .ref (a 0)), (1, .int p0)]) hC dX5_carries_618 620 rfl (by decide) rfl ?_
      refine g_iconst hC (0 : Int32) dX5_carries_620 621 rfl iconst_0 ?_
      exact g_iret hC hZ dX5_carries_621 ⟨_, _, rfl, rfl, h⟩
    · have h := h.2 c
      refine g_iconst hC (1 : Int32) dX5_carries_611 612 rfl iconst_1 ?_
      exact g_iret hC hZ dX5_carries_612 ⟨_, _, rfl, rfl, h⟩
  have n97 : ¬ ((o 8 p0.toNatClampNeg)).toInt = 97 := fun q => c97 (Int32.toInt_inj.mp q)
  have n98 : ¬ ((o 8 p0.toNatClampNeg)).toInt = 98 := fun q => c98 (Int32.toInt_inj.mp q)
  have n100 : ¬ ((o 8 p0.toNatClampNeg)).toInt = 100 := fun q => c100 (Int32.toInt_inj.mp q)
  have n101 : ¬ ((o 8 p0.toNatClampNeg)).toInt = 101 := fun q => c101 (Int32.toInt_inj.mp q)
  have n106 : ¬ ((o 8 p0.toNatClampNeg)).toInt = 106 := fun q => c106 (Int32.toInt_inj.mp q)
  have n107 : ¬ ((o 8 p0.toNatClampNeg)).toInt = 107 := fun q => c107 (Int32.toInt_inj.mp q)
  have n108 : ¬ ((o 8 p0.toNatClampNeg)).toInt = 108 := fun q => c108 (Int32.toInt_inj.mp q)
  have n109 : ¬ ((o 8 p0.toNatClampNeg)).toInt = 109 := fun q => c109 (Int32.toInt_inj.mp q)
  have n110 : ¬ ((o 8 p0.toNatClampNeg)).toInt = 110 := fun q => c110 (Int32.toInt_inj.mp q)
  have n112 : ¬ ((o 8 p0.toNatClampNeg)).toInt = 112 := fun q => c112 (Int32.toInt_inj.mp q)
  have n113 : ¬ ((o 8 p0.toNatClampNeg)).toInt = 113 := fun q => c113 (Int32.toInt_inj.mp q)
  have n114 : ¬ ((o 8 p0.toNatClampNeg)).toInt = 114 := fun q => c114 (Int32.toInt_inj.mp q)
  have n116 : ¬ ((o 8 p0.toNatClampNeg)).toInt = 116 := fun q => c116 (Int32.toInt_inj.mp q)
  have n117 : ¬ ((o 8 p0.toNatClampNeg)).toInt = 117 := fun q => c117 (Int32.toInt_inj.mp q)
  have n119 : ¬ ((o 8 p0.toNatClampNeg)).toInt = 119 := fun q => c119 (Int32.toInt_inj.mp q)
  by_cases hb : ((o 8 p0.toNatClampNeg)).toInt < 97 ∨ 119 < ((o 8 p0.toNatClampNeg)).toInt
  · exact g_tableOut hC dX5_carries_41 hb 601 (by decide) hdef
  · rcases (show ((o 8 p0.toNatClampNeg)).toInt = 99 ∨ ((o 8 p0.toNatClampNeg)).toInt = 102 ∨ ((o 8 p0.toNatClampNeg)).toInt = 103 ∨ ((o 8 p0.toNatClampNeg)).toInt = 104 ∨ ((o 8 p0.toNatClampNeg)).toInt = 105 ∨ ((o 8 p0.toNatClampNeg)).toInt = 111 ∨ ((o 8 p0.toNatClampNeg)).toInt = 115 ∨ ((o 8 p0.toNatClampNeg)).toInt = 118 by omega) with q | q | q | q | q | q | q | q
    · exact g_tableIn hC dX5_carries_41 (by omega) (by omega) (off := 560) (by rw [q]; rfl) 601 (by decide) hdef
    · exact g_tableIn hC dX5_carries_41 (by omega) (by omega) (off := 560) (by rw [q]; rfl) 601 (by decide) hdef
    · exact g_tableIn hC dX5_carries_41 (by omega) (by omega) (off := 560) (by rw [q]; rfl) 601 (by decide) hdef
    · exact g_tableIn hC dX5_carries_41 (by omega) (by omega) (off := 560) (by rw [q]; rfl) 601 (by decide) hdef
    · exact g_tableIn hC dX5_carries_41 (by omega) (by omega) (off := 560) (by rw [q]; rfl) 601 (by decide) hdef
    · exact g_tableIn hC dX5_carries_41 (by omega) (by omega) (off := 560) (by rw [q]; rfl) 601 (by decide) hdef
    · exact g_tableIn hC dX5_carries_41 (by omega) (by omega) (off := 560) (by rw [q]; rfl) 601 (by decide) hdef
    · exact g_tableIn hC dX5_carries_41 (by omega) (by omega) (off := 560) (by rw [q]; rfl) 601 (by decide) hdef
def wl_X5_execute_31 (post : Int32 → Off → Prop) : Nat → Off → Int32 → Prop
  | 0, _, _ => False
  | n + 1, o, x1 => (((o 0 22) ≤ x1 → wp_X5_commit (fun v4 o3 => post v4 o3) o (o 0 22)) ∧ (¬ (o 0 22) ≤ x1 → wp_X5_carries (fun v6 o5 => ((¬ v6 = 0 → wp_X5_copy (fun o7 => ((¬ v6 = (1 : Int32) → (∀ o8 : Off, o8 = st o7 0 8 (17 : Int32) → (∀ o9 : Off, o9 = st o8 0 9 x1 → (∀ o10 : Off, o10 = st o9 0 10 (o9 0 11) → wp_X5_fail (fun v12 o11 => post v12 o11) o10 (3 : Int32))))) ∧ (v6 = (1 : Int32) → wp_X5_fail (fun v14 o13 => post v14 o13) o7 (2 : Int32)))) o5 2 1 (0 : Int32) (0 : Int32)) ∧ (v6 = 0 → (∀ v15 : Int32, v15 = x1 + (1 : Int32) → wl_X5_execute_31 post n o5 v15)))) o x1))
def wp_X5_execute (post : Int32 → Off → Prop) (o : Off) : Prop := wp_X5_begin (fun o1 => wp_X5_parse (fun o2 => (((o2 0 23) = 0 → (∃ m : Nat, wl_X5_execute_31 post m o2 (0 : Int32))) ∧ (¬ (o2 0 23) = 0 → (∀ o16 : Off, o16 = st o2 0 7 (o2 0 21) → wp_X5_fail (fun v18 o17 => post v18 o17) o16 (1 : Int32))))) o1 ) o 
set_option maxRecDepth 100000 in
set_option maxHeartbeats 4000000 in
theorem lp_X5_execute_31 {x : gX} {l : Launch} {g : gE} {a : Nat → Nat} {o0 : Off} {post : Int32 → Off → Prop} (hC : gC x l cX5_execute 3 RX5 g 6 139 0 0) (hZ : gZ x g (some .int) (modW g a o0) (pI (modW g a) post) 0 0) : ∀ (n : Nat) (o : Off) (x1 : Int32) , wl_X5_execute_31 post n o x1 → G x g 3 0 0 (modW g a o) 31 [(0, .ref (a 0)), (1, .int x1)] [] := by
  intro n
  induction n with
  | zero =>
    intro o x1 h
    exact h.elim
  | succ n ih =>
    intro o x1 h
    rw [wl_X5_execute_31] at h
    refine g_iload_n hC dX5_execute_31 32 rfl rfl 1 rfl ?_
    refine g_aload_n hC dX5_execute_32 33 rfl rfl 0 rfl ?_
    refine g_get hC fl_X5_78 dX5_execute_33 36 rfl 0 rfl rfl ?_
    refine g_icmp_ge hC dX5_execute_36 107 (by decide) 39 rfl (fun c => ?_) (fun c => ?_)
    · have h := h.1 c
      refine g_aload_n hC dX5_execute_107 108 rfl rfl 0 rfl ?_
      refine g_aload_n hC dX5_execute_108 109 rfl rfl 0 rfl ?_
      refine g_get hC fl_X5_78 dX5_execute_109 112 rfl 0 rfl rfl ?_
      refine g_ownI hC (ct_X5_commit l g a o (o 0 22) _ h) gY_X5_commit dX5_execute_112 115 rfl ml_X5_145 [] rfl rfl rfl 0 9 rfl rfl ⟨Nat.le_of_ble_eq_true rfl, Nat.le_of_ble_eq_true rfl⟩ (Nat.le_of_ble_eq_true rfl) ⟨Nat.le_refl _, Nat.le_refl _⟩ (fun v4 o3 h => ?_)
      exact g_iret hC hZ dX5_execute_115 ⟨_, _, rfl, rfl, h⟩
    · have h := h.2 c
      refine g_aload_n hC dX5_execute_39 40 rfl rfl 0 rfl ?_
      refine g_iload_n hC dX5_execute_40 41 rfl rfl 1 rfl ?_
      refine g_ownI hC (ct_X5_carries l g a o x1 _ h) gY_X5_carries dX5_execute_41 44 rfl ml_X5_320 [] rfl rfl rfl 0 9 rfl rfl ⟨Nat.le_of_ble_eq_true rfl, Nat.le_of_ble_eq_true rfl⟩ (Nat.le_of_ble_eq_true rfl) ⟨Nat.le_refl _, Nat.le_refl _⟩ (fun v6 o5 h => ?_)
      refine g_istore_n (lv2 := [(2, .int v6), (0, .ref (a 0)), (1, .int x1)]) hC dX5_execute_44 45 rfl rfl (by decide) rfl ?_
      refine g_iload_n hC dX5_execute_45 46 rfl rfl 0 rfl ?_
      refine g_if_ne hC dX5_execute_46 52 (by decide) 49 rfl (fun c => ?_) (fun c => ?_)
      · have h := h.1 c
        refine g_aload_n hC dX5_execute_52 53 rfl rfl 1 rfl ?_
        refine g_get hC fl_X5_13 dX5_execute_53 56 rfl 0 rfl rfl ?_
        refine g_iconst hC (0 : Int32) dX5_execute_56 57 rfl iconst_0 ?_
        refine g_aload_n hC dX5_execute_57 58 rfl rfl 1 rfl ?_
        refine g_get hC fl_X5_7 dX5_execute_58 61 rfl 0 rfl rfl ?_
        refine g_iconst hC (0 : Int32) dX5_execute_61 62 rfl iconst_0 ?_
        refine g_statV hC (ct_X5_copy l g a o5 2 1 (0 : Int32) (0 : Int32) _ h) gY_X5_copy dX5_execute_62 65 rfl ml_X5_84 [] rfl rfl ⟨Nat.le_of_ble_eq_true rfl, Nat.le_of_ble_eq_true rfl⟩ (Nat.le_of_ble_eq_true rfl) ⟨Nat.le_refl _, Nat.le_refl _⟩ (fun o7 h => ?_)
        refine g_iload_n hC dX5_execute_65 66 rfl rfl 0 rfl ?_
        refine g_iconst hC (1 : Int32) dX5_execute_66 67 rfl iconst_1 ?_
        refine g_icmp_ne hC dX5_execute_67 76 (by decide) 70 rfl (fun c => ?_) (fun c => ?_)
        · have h := h.1 c
          refine g_aload_n hC dX5_execute_76 77 rfl rfl 1 rfl ?_
          refine g_bipush hC (17 : Int32) dX5_execute_77 79 rfl bipush_17 ?_
          obtain ⟨o8, eo8⟩ : ∃ y : Off, y = st o7 0 8 (17 : Int32) := ⟨_, rfl⟩
          have h := h o8 eo8
          refine g_put hC fp_X5_35 dX5_execute_79 82 rfl 0 rfl rfl rfl (Nat.le_of_ble_eq_true rfl) (modW_p8 eo8) ?_
          refine g_aload_n hC dX5_execute_82 83 rfl rfl 1 rfl ?_
          refine g_iload_n hC dX5_execute_83 84 rfl rfl 2 rfl ?_
          obtain ⟨o9, eo9⟩ : ∃ y : Off, y = st o8 0 9 x1 := ⟨_, rfl⟩
          have h := h o9 eo9
          refine g_put hC fp_X5_38 dX5_execute_84 87 rfl 0 rfl rfl rfl (Nat.le_of_ble_eq_true rfl) (modW_p9 eo9) ?_
          refine g_aload_n hC dX5_execute_87 88 rfl rfl 1 rfl ?_
          refine g_aload_n hC dX5_execute_88 89 rfl rfl 1 rfl ?_
          refine g_get hC fl_X5_44 dX5_execute_89 92 rfl 0 rfl rfl ?_
          obtain ⟨o10, eo10⟩ : ∃ y : Off, y = st o9 0 10 (o9 0 11) := ⟨_, rfl⟩
          have h := h o10 eo10
          refine g_put hC fp_X5_41 dX5_execute_92 95 rfl 0 rfl rfl rfl (Nat.le_of_ble_eq_true rfl) (modW_p10 eo10) ?_
          refine g_aload_n hC dX5_execute_95 96 rfl rfl 1 rfl ?_
          refine g_iconst hC (3 : Int32) dX5_execute_96 97 rfl iconst_3 ?_
          refine g_ownI hC (ct_X5_fail l g a o10 (3 : Int32) _ h) gY_X5_fail dX5_execute_97 100 rfl ml_X5_88 [] rfl rfl rfl 0 9 rfl rfl ⟨Nat.le_of_ble_eq_true rfl, Nat.le_of_ble_eq_true rfl⟩ (Nat.le_of_ble_eq_true rfl) ⟨Nat.le_refl _, Nat.le_refl _⟩ (fun v12 o11 h => ?_)
          exact g_iret hC hZ dX5_execute_100 ⟨_, _, rfl, rfl, h⟩
        · have h := h.2 c
          refine g_aload_n hC dX5_execute_70 71 rfl rfl 1 rfl ?_
          refine g_iconst hC (2 : Int32) dX5_execute_71 72 rfl iconst_2 ?_
          refine g_ownI hC (ct_X5_fail l g a o7 (2 : Int32) _ h) gY_X5_fail dX5_execute_72 75 rfl ml_X5_88 [] rfl rfl rfl 0 9 rfl rfl ⟨Nat.le_of_ble_eq_true rfl, Nat.le_of_ble_eq_true rfl⟩ (Nat.le_of_ble_eq_true rfl) ⟨Nat.le_refl _, Nat.le_refl _⟩ (fun v14 o13 h => ?_)
          exact g_iret hC hZ dX5_execute_75 ⟨_, _, rfl, rfl, h⟩
      · have h := h.2 c
        refine g_goto hC dX5_execute_49 101 (by decide) ?_
        obtain ⟨v15, ev15⟩ : ∃ y : Int32, y = x1 + (1 : Int32) := ⟨_, rfl⟩
        have h := h v15 ev15
        refine g_iinc (v2 := v15) (lv2 := [(1, .int v15), (2, .int v6), (0, .ref (a 0))]) hC dX5_execute_101 104 rfl 2 rfl (by rw [iconst_1, ev15]) (by decide) rfl ?_
        refine g_goto hC dX5_execute_104 31 (by decide) ?_
        refine g_lv (lv2 := [(0, .ref (a 0)), (1, .int v15)]) [2, 0] rfl ?_
        exact ih o5 v15 h
set_option maxRecDepth 100000 in
set_option maxHeartbeats 4000000 in
theorem ct_X5_execute (l : Launch) (g : gE) (a : Nat → Nat) (o : Off) (post : Int32 → Off → Prop) (h : wp_X5_execute post o ) : Fn l g yX5_execute cX5_execute 3 (some .int) 6 139 0 0 (modW g a o) [.ref (a 0)] (pI (modW g a) post) := by
  refine Fn.of (by decide) (Nat.le_of_ble_eq_true rfl) (fun x hC hZ => ?_)
  rw [wp_X5_execute] at h
  show G x g 3 0 0 (modW g a o) 0 [(0, .ref (a 0))] []
  refine g_aload_n hC dX5_execute_0 1 rfl rfl 0 rfl ?_
  refine g_ownV hC (ct_X5_begin l g a o  _ h) gY_X5_begin dX5_execute_1 4 rfl ml_X5_129 [] rfl rfl rfl 0 9 rfl rfl ⟨Nat.le_of_ble_eq_true rfl, Nat.le_of_ble_eq_true rfl⟩ (Nat.le_of_ble_eq_true rfl) ⟨Nat.le_refl _, Nat.le_refl _⟩ (fun o1 h => ?_)
  refine g_aload_n hC dX5_execute_4 5 rfl rfl 0 rfl ?_
  refine g_ownV hC (ct_X5_parse l g a o1  _ h) gY_X5_parse dX5_execute_5 8 rfl ml_X5_317 [] rfl rfl rfl 0 9 rfl rfl ⟨Nat.le_of_ble_eq_true rfl, Nat.le_of_ble_eq_true rfl⟩ (Nat.le_of_ble_eq_true rfl) ⟨Nat.le_refl _, Nat.le_refl _⟩ (fun o2 h => ?_)
  refine g_aload_n hC dX5_execute_8 9 rfl rfl 0 rfl ?_
  refine g_get hC fl_X5_81 dX5_execute_9 12 rfl 0 rfl rfl ?_
  refine g_if_eq hC dX5_execute_12 29 (by decide) 15 rfl (fun c => ?_) (fun c => ?_)
  · have h := h.1 c
    refine g_iconst hC (0 : Int32) dX5_execute_29 30 rfl iconst_0 ?_
    refine g_istore_n (lv2 := [(1, .int (0 : Int32)), (0, .ref (a 0))]) hC dX5_execute_30 31 rfl rfl (by decide) rfl ?_
    refine g_lv (lv2 := [(0, .ref (a 0)), (1, .int (0 : Int32))]) [1, 0] rfl ?_
    obtain ⟨m, h⟩ := h
    exact lp_X5_execute_31 hC hZ m o2 (0 : Int32) h
  · have h := h.2 c
    refine g_aload_n hC dX5_execute_15 16 rfl rfl 0 rfl ?_
    refine g_aload_n hC dX5_execute_16 17 rfl rfl 0 rfl ?_
    refine g_get hC fl_X5_75 dX5_execute_17 20 rfl 0 rfl rfl ?_
    obtain ⟨o16, eo16⟩ : ∃ y : Off, y = st o2 0 7 (o2 0 21) := ⟨_, rfl⟩
    have h := h o16 eo16
    refine g_put hC fp_X5_32 dX5_execute_20 23 rfl 0 rfl rfl rfl (Nat.le_of_ble_eq_true rfl) (modW_p7 eo16) ?_
    refine g_aload_n hC dX5_execute_23 24 rfl rfl 0 rfl ?_
    refine g_iconst hC (1 : Int32) dX5_execute_24 25 rfl iconst_1 ?_
    refine g_ownI hC (ct_X5_fail l g a o16 (1 : Int32) _ h) gY_X5_fail dX5_execute_25 28 rfl ml_X5_88 [] rfl rfl rfl 0 9 rfl rfl ⟨Nat.le_of_ble_eq_true rfl, Nat.le_of_ble_eq_true rfl⟩ (Nat.le_of_ble_eq_true rfl) ⟨Nat.le_refl _, Nat.le_refl _⟩ (fun v18 o17 h => ?_)
    exact g_iret hC hZ dX5_execute_28 ⟨_, _, rfl, rfl, h⟩
def wp_X5_present (post : Int32 → Off → Prop) (o : Off) (p0 : Int32) (p1 : Int32) : Prop := wp_X5_checked (fun v2 o1 => ((v2 ≤ 0 → post p1 o1) ∧ (¬ v2 ≤ 0 → post (0 : Int32) o1))) o p0
set_option maxRecDepth 100000 in
set_option maxHeartbeats 4000000 in
theorem ct_X5_present (l : Launch) (g : gE) (a : Nat → Nat) (o : Off) (p0 : Int32) (p1 : Int32) (post : Int32 → Off → Prop) (h : wp_X5_present post o p0 p1) : Fn l g yX5_present cX5_present 3 (some .int) 1 21 0 0 (modW g a o) [.ref (a 0), .int p0, .int p1] (pI (modW g a) post) := by
  refine Fn.of (by decide) (Nat.le_of_ble_eq_true rfl) (fun x hC hZ => ?_)
  rw [wp_X5_present] at h
  show G x g 3 0 0 (modW g a o) 0 [(0, .ref (a 0)), (1, .int p0), (2, .int p1)] []
  refine g_aload_n hC dX5_present_0 1 rfl rfl 0 rfl ?_
  refine g_iload_n hC dX5_present_1 2 rfl rfl 1 rfl ?_
  refine g_ownI hC (ct_X5_checked l g a o p0 _ h) gY_X5_checked dX5_present_2 5 rfl ml_X5_154 [] rfl rfl rfl 0 9 rfl rfl ⟨Nat.le_of_ble_eq_true rfl, Nat.le_of_ble_eq_true rfl⟩ (Nat.le_of_ble_eq_true rfl) ⟨Nat.le_refl _, Nat.le_refl _⟩ (fun v2 o1 h => ?_)
  refine g_if_le hC dX5_present_5 12 (by decide) 8 rfl (fun c => ?_) (fun c => ?_)
  · have h := h.1 c
    refine g_iload_n hC dX5_present_12 13 rfl rfl 2 rfl ?_
    exact g_iret hC hZ dX5_present_13 ⟨_, _, rfl, rfl, h⟩
  · have h := h.2 c
    refine g_iconst hC (0 : Int32) dX5_present_8 9 rfl iconst_0 ?_
    refine g_goto hC dX5_present_9 13 (by decide) ?_
    exact g_iret hC hZ dX5_present_13 ⟨_, _, rfl, rfl, h⟩
def wj_X5_syntaxErrorOffset_13 (post : Int32 → Off → Prop) (o : Off) (s0 : Int32) : Prop := wp_X5_present (fun v2 o1 => post v2 o1) o s0 (o 0 7)
def wp_X5_syntaxErrorOffset (post : Int32 → Off → Prop) (o : Off) : Prop := (((o 0 7) < 0 → wj_X5_syntaxErrorOffset_13 post o (0 : Int32)) ∧ (¬ (o 0 7) < 0 → wj_X5_syntaxErrorOffset_13 post o (1 : Int32)))
set_option maxRecDepth 100000 in
set_option maxHeartbeats 4000000 in
theorem jn_X5_syntaxErrorOffset_13 {x : gX} {l : Launch} {g : gE} {a : Nat → Nat} {o0 : Off} {post : Int32 → Off → Prop} (hC : gC x l cX5_syntaxErrorOffset 1 RX5 g 2 43 0 0) (hZ : gZ x g (some .int) (modW g a o0) (pI (modW g a) post) 0 0) : ∀ (o : Off) (s0 : Int32) , wj_X5_syntaxErrorOffset_13 post o s0 → G x g 1 0 0 (modW g a o) 13 [(0, .ref (a 0))] [.int s0, .ref (a 0)] := by
  intro o s0 h
  rw [wj_X5_syntaxErrorOffset_13] at h
  refine g_aload_n hC dX5_syntaxErrorOffset_13 14 rfl rfl 0 rfl ?_
  refine g_get hC fl_X5_32 dX5_syntaxErrorOffset_14 17 rfl 0 rfl rfl ?_
  refine g_ownI hC (ct_X5_present l g a o s0 (o 0 7) _ h) gY_X5_present dX5_syntaxErrorOffset_17 20 rfl ml_X5_323 [] rfl rfl rfl 0 9 rfl rfl ⟨Nat.le_of_ble_eq_true rfl, Nat.le_of_ble_eq_true rfl⟩ (Nat.le_of_ble_eq_true rfl) ⟨Nat.le_refl _, Nat.le_refl _⟩ (fun v2 o1 h => ?_)
  exact g_iret hC hZ dX5_syntaxErrorOffset_20 ⟨_, _, rfl, rfl, h⟩
set_option maxRecDepth 100000 in
set_option maxHeartbeats 4000000 in
theorem ct_X5_syntaxErrorOffset (l : Launch) (g : gE) (a : Nat → Nat) (o : Off) (post : Int32 → Off → Prop) (h : wp_X5_syntaxErrorOffset post o ) : Fn l g yX5_syntaxErrorOffset cX5_syntaxErrorOffset 1 (some .int) 2 43 0 0 (modW g a o) [.ref (a 0)] (pI (modW g a) post) := by
  refine Fn.of (by decide) (Nat.le_of_ble_eq_true rfl) (fun x hC hZ => ?_)
  rw [wp_X5_syntaxErrorOffset] at h
  show G x g 1 0 0 (modW g a o) 0 [(0, .ref (a 0))] []
  refine g_aload_n hC dX5_syntaxErrorOffset_0 1 rfl rfl 0 rfl ?_
  refine g_aload_n hC dX5_syntaxErrorOffset_1 2 rfl rfl 0 rfl ?_
  refine g_get hC fl_X5_32 dX5_syntaxErrorOffset_2 5 rfl 0 rfl rfl ?_
  refine g_if_lt hC dX5_syntaxErrorOffset_5 12 (by decide) 8 rfl (fun c => ?_) (fun c => ?_)
  · have h := h.1 c
    refine g_iconst hC (0 : Int32) dX5_syntaxErrorOffset_12 13 rfl iconst_0 ?_
    exact jn_X5_syntaxErrorOffset_13 hC hZ o (0 : Int32) h
  · have h := h.2 c
    refine g_iconst hC (1 : Int32) dX5_syntaxErrorOffset_8 9 rfl iconst_1 ?_
    refine g_goto hC dX5_syntaxErrorOffset_9 13 (by decide) ?_
    exact jn_X5_syntaxErrorOffset_13 hC hZ o (1 : Int32) h
def wj_X5_rejectionReason_13 (post : Int32 → Off → Prop) (o : Off) (s0 : Int32) : Prop := wp_X5_present (fun v2 o1 => post v2 o1) o s0 (o 0 8)
def wp_X5_rejectionReason (post : Int32 → Off → Prop) (o : Off) : Prop := (((o 0 8) ≤ 0 → wj_X5_rejectionReason_13 post o (0 : Int32)) ∧ (¬ (o 0 8) ≤ 0 → wj_X5_rejectionReason_13 post o (1 : Int32)))
set_option maxRecDepth 100000 in
set_option maxHeartbeats 4000000 in
theorem jn_X5_rejectionReason_13 {x : gX} {l : Launch} {g : gE} {a : Nat → Nat} {o0 : Off} {post : Int32 → Off → Prop} (hC : gC x l cX5_rejectionReason 1 RX5 g 2 43 0 0) (hZ : gZ x g (some .int) (modW g a o0) (pI (modW g a) post) 0 0) : ∀ (o : Off) (s0 : Int32) , wj_X5_rejectionReason_13 post o s0 → G x g 1 0 0 (modW g a o) 13 [(0, .ref (a 0))] [.int s0, .ref (a 0)] := by
  intro o s0 h
  rw [wj_X5_rejectionReason_13] at h
  refine g_aload_n hC dX5_rejectionReason_13 14 rfl rfl 0 rfl ?_
  refine g_get hC fl_X5_35 dX5_rejectionReason_14 17 rfl 0 rfl rfl ?_
  refine g_ownI hC (ct_X5_present l g a o s0 (o 0 8) _ h) gY_X5_present dX5_rejectionReason_17 20 rfl ml_X5_323 [] rfl rfl rfl 0 9 rfl rfl ⟨Nat.le_of_ble_eq_true rfl, Nat.le_of_ble_eq_true rfl⟩ (Nat.le_of_ble_eq_true rfl) ⟨Nat.le_refl _, Nat.le_refl _⟩ (fun v2 o1 h => ?_)
  exact g_iret hC hZ dX5_rejectionReason_20 ⟨_, _, rfl, rfl, h⟩
set_option maxRecDepth 100000 in
set_option maxHeartbeats 4000000 in
theorem ct_X5_rejectionReason (l : Launch) (g : gE) (a : Nat → Nat) (o : Off) (post : Int32 → Off → Prop) (h : wp_X5_rejectionReason post o ) : Fn l g yX5_rejectionReason cX5_rejectionReason 1 (some .int) 2 43 0 0 (modW g a o) [.ref (a 0)] (pI (modW g a) post) := by
  refine Fn.of (by decide) (Nat.le_of_ble_eq_true rfl) (fun x hC hZ => ?_)
  rw [wp_X5_rejectionReason] at h
  show G x g 1 0 0 (modW g a o) 0 [(0, .ref (a 0))] []
  refine g_aload_n hC dX5_rejectionReason_0 1 rfl rfl 0 rfl ?_
  refine g_aload_n hC dX5_rejectionReason_1 2 rfl rfl 0 rfl ?_
  refine g_get hC fl_X5_35 dX5_rejectionReason_2 5 rfl 0 rfl rfl ?_
  refine g_if_le hC dX5_rejectionReason_5 12 (by decide) 8 rfl (fun c => ?_) (fun c => ?_)
  · have h := h.1 c
    refine g_iconst hC (0 : Int32) dX5_rejectionReason_12 13 rfl iconst_0 ?_
    exact jn_X5_rejectionReason_13 hC hZ o (0 : Int32) h
  · have h := h.2 c
    refine g_iconst hC (1 : Int32) dX5_rejectionReason_8 9 rfl iconst_1 ?_
    refine g_goto hC dX5_rejectionReason_9 13 (by decide) ?_
    exact jn_X5_rejectionReason_13 hC hZ o (1 : Int32) h
def wj_X5_rejectionDetail_13 (post : Int32 → Off → Prop) (o : Off) (s0 : Int32) : Prop := wp_X5_present (fun v2 o1 => post v2 o1) o s0 (o 0 9)
def wp_X5_rejectionDetail (post : Int32 → Off → Prop) (o : Off) : Prop := (((o 0 8) ≤ 0 → wj_X5_rejectionDetail_13 post o (0 : Int32)) ∧ (¬ (o 0 8) ≤ 0 → wj_X5_rejectionDetail_13 post o (1 : Int32)))
set_option maxRecDepth 100000 in
set_option maxHeartbeats 4000000 in
theorem jn_X5_rejectionDetail_13 {x : gX} {l : Launch} {g : gE} {a : Nat → Nat} {o0 : Off} {post : Int32 → Off → Prop} (hC : gC x l cX5_rejectionDetail 1 RX5 g 2 43 0 0) (hZ : gZ x g (some .int) (modW g a o0) (pI (modW g a) post) 0 0) : ∀ (o : Off) (s0 : Int32) , wj_X5_rejectionDetail_13 post o s0 → G x g 1 0 0 (modW g a o) 13 [(0, .ref (a 0))] [.int s0, .ref (a 0)] := by
  intro o s0 h
  rw [wj_X5_rejectionDetail_13] at h
  refine g_aload_n hC dX5_rejectionDetail_13 14 rfl rfl 0 rfl ?_
  refine g_get hC fl_X5_38 dX5_rejectionDetail_14 17 rfl 0 rfl rfl ?_
  refine g_ownI hC (ct_X5_present l g a o s0 (o 0 9) _ h) gY_X5_present dX5_rejectionDetail_17 20 rfl ml_X5_323 [] rfl rfl rfl 0 9 rfl rfl ⟨Nat.le_of_ble_eq_true rfl, Nat.le_of_ble_eq_true rfl⟩ (Nat.le_of_ble_eq_true rfl) ⟨Nat.le_refl _, Nat.le_refl _⟩ (fun v2 o1 h => ?_)
  exact g_iret hC hZ dX5_rejectionDetail_20 ⟨_, _, rfl, rfl, h⟩
set_option maxRecDepth 100000 in
set_option maxHeartbeats 4000000 in
theorem ct_X5_rejectionDetail (l : Launch) (g : gE) (a : Nat → Nat) (o : Off) (post : Int32 → Off → Prop) (h : wp_X5_rejectionDetail post o ) : Fn l g yX5_rejectionDetail cX5_rejectionDetail 1 (some .int) 2 43 0 0 (modW g a o) [.ref (a 0)] (pI (modW g a) post) := by
  refine Fn.of (by decide) (Nat.le_of_ble_eq_true rfl) (fun x hC hZ => ?_)
  rw [wp_X5_rejectionDetail] at h
  show G x g 1 0 0 (modW g a o) 0 [(0, .ref (a 0))] []
  refine g_aload_n hC dX5_rejectionDetail_0 1 rfl rfl 0 rfl ?_
  refine g_aload_n hC dX5_rejectionDetail_1 2 rfl rfl 0 rfl ?_
  refine g_get hC fl_X5_35 dX5_rejectionDetail_2 5 rfl 0 rfl rfl ?_
  refine g_if_le hC dX5_rejectionDetail_5 12 (by decide) 8 rfl (fun c => ?_) (fun c => ?_)
  · have h := h.1 c
    refine g_iconst hC (0 : Int32) dX5_rejectionDetail_12 13 rfl iconst_0 ?_
    exact jn_X5_rejectionDetail_13 hC hZ o (0 : Int32) h
  · have h := h.2 c
    refine g_iconst hC (1 : Int32) dX5_rejectionDetail_8 9 rfl iconst_1 ?_
    refine g_goto hC dX5_rejectionDetail_9 13 (by decide) ?_
    exact jn_X5_rejectionDetail_13 hC hZ o (1 : Int32) h
def wj_X5_causeReason_15 (post : Int32 → Off → Prop) (o : Off) (s0 : Int32) : Prop := wp_X5_present (fun v2 o1 => post v2 o1) o s0 (o 0 10)
def wp_X5_causeReason (post : Int32 → Off → Prop) (o : Off) : Prop := ((¬ (o 0 8) = (17 : Int32) → wj_X5_causeReason_15 post o (0 : Int32)) ∧ ((o 0 8) = (17 : Int32) → wj_X5_causeReason_15 post o (1 : Int32)))
set_option maxRecDepth 100000 in
set_option maxHeartbeats 4000000 in
theorem jn_X5_causeReason_15 {x : gX} {l : Launch} {g : gE} {a : Nat → Nat} {o0 : Off} {post : Int32 → Off → Prop} (hC : gC x l cX5_causeReason 1 RX5 g 2 43 0 0) (hZ : gZ x g (some .int) (modW g a o0) (pI (modW g a) post) 0 0) : ∀ (o : Off) (s0 : Int32) , wj_X5_causeReason_15 post o s0 → G x g 1 0 0 (modW g a o) 15 [(0, .ref (a 0))] [.int s0, .ref (a 0)] := by
  intro o s0 h
  rw [wj_X5_causeReason_15] at h
  refine g_aload_n hC dX5_causeReason_15 16 rfl rfl 0 rfl ?_
  refine g_get hC fl_X5_41 dX5_causeReason_16 19 rfl 0 rfl rfl ?_
  refine g_ownI hC (ct_X5_present l g a o s0 (o 0 10) _ h) gY_X5_present dX5_causeReason_19 22 rfl ml_X5_323 [] rfl rfl rfl 0 9 rfl rfl ⟨Nat.le_of_ble_eq_true rfl, Nat.le_of_ble_eq_true rfl⟩ (Nat.le_of_ble_eq_true rfl) ⟨Nat.le_refl _, Nat.le_refl _⟩ (fun v2 o1 h => ?_)
  exact g_iret hC hZ dX5_causeReason_22 ⟨_, _, rfl, rfl, h⟩
set_option maxRecDepth 100000 in
set_option maxHeartbeats 4000000 in
theorem ct_X5_causeReason (l : Launch) (g : gE) (a : Nat → Nat) (o : Off) (post : Int32 → Off → Prop) (h : wp_X5_causeReason post o ) : Fn l g yX5_causeReason cX5_causeReason 1 (some .int) 2 43 0 0 (modW g a o) [.ref (a 0)] (pI (modW g a) post) := by
  refine Fn.of (by decide) (Nat.le_of_ble_eq_true rfl) (fun x hC hZ => ?_)
  rw [wp_X5_causeReason] at h
  show G x g 1 0 0 (modW g a o) 0 [(0, .ref (a 0))] []
  refine g_aload_n hC dX5_causeReason_0 1 rfl rfl 0 rfl ?_
  refine g_aload_n hC dX5_causeReason_1 2 rfl rfl 0 rfl ?_
  refine g_get hC fl_X5_35 dX5_causeReason_2 5 rfl 0 rfl rfl ?_
  refine g_bipush hC (17 : Int32) dX5_causeReason_5 7 rfl bipush_17 ?_
  refine g_icmp_ne hC dX5_causeReason_7 14 (by decide) 10 rfl (fun c => ?_) (fun c => ?_)
  · have h := h.1 c
    refine g_iconst hC (0 : Int32) dX5_causeReason_14 15 rfl iconst_0 ?_
    exact jn_X5_causeReason_15 hC hZ o (0 : Int32) h
  · have h := h.2 c
    refine g_iconst hC (1 : Int32) dX5_causeReason_10 11 rfl iconst_1 ?_
    refine g_goto hC dX5_causeReason_11 15 (by decide) ?_
    exact jn_X5_causeReason_15 hC hZ o (1 : Int32) h
def wj_X5_undo_13 (post : Int32 → Off → Prop) (o : Off) (s0 : Int32) : Prop := wp_X5_checked (fun v2 o1 => ((v2 ≤ 0 → (∀ o3 : Off, o3 = st o1 0 6 ((o1 0 6) - (1 : Int32)) → wp_X5_copy (fun o4 => post (o4 0 6) o4) o3 5 1 ((160 : Int32) * (o3 0 6)) (0 : Int32))) ∧ (¬ v2 ≤ 0 → post (0 : Int32) o1))) o s0
def wp_X5_undo (post : Int32 → Off → Prop) (o : Off) : Prop := (((o 0 6) ≤ 0 → wj_X5_undo_13 post o (0 : Int32)) ∧ (¬ (o 0 6) ≤ 0 → wj_X5_undo_13 post o (1 : Int32)))
set_option maxRecDepth 100000 in
set_option maxHeartbeats 4000000 in
theorem jn_X5_undo_13 {x : gX} {l : Launch} {g : gE} {a : Nat → Nat} {o0 : Off} {post : Int32 → Off → Prop} (hC : gC x l cX5_undo 1 RX5 g 1 24 0 0) (hZ : gZ x g (some .int) (modW g a o0) (pI (modW g a) post) 0 0) : ∀ (o : Off) (s0 : Int32) , wj_X5_undo_13 post o s0 → G x g 1 0 0 (modW g a o) 13 [(0, .ref (a 0))] [.int s0, .ref (a 0)] := by
  intro o s0 h
  rw [wj_X5_undo_13] at h
  refine g_ownI hC (ct_X5_checked l g a o s0 _ h) gY_X5_checked dX5_undo_13 16 rfl ml_X5_154 [] rfl rfl rfl 0 9 rfl rfl ⟨Nat.le_of_ble_eq_true rfl, Nat.le_of_ble_eq_true rfl⟩ (Nat.le_of_ble_eq_true rfl) ⟨Nat.le_refl _, Nat.le_refl _⟩ (fun v2 o1 h => ?_)
  refine g_if_le hC dX5_undo_16 21 (by decide) 19 rfl (fun c => ?_) (fun c => ?_)
  · have h := h.1 c
    refine g_aload_n hC dX5_undo_21 22 rfl rfl 0 rfl ?_
    refine g_dup hC dX5_undo_22 23 rfl rfl ?_
    refine g_get hC fl_X5_29 dX5_undo_23 26 rfl 0 rfl rfl ?_
    refine g_iconst hC (1 : Int32) dX5_undo_26 27 rfl iconst_1 ?_
    refine g_isub hC dX5_undo_27 28 rfl ?_
    obtain ⟨o3, eo3⟩ : ∃ y : Off, y = st o1 0 6 ((o1 0 6) - (1 : Int32)) := ⟨_, rfl⟩
    have h := h o3 eo3
    refine g_put hC fp_X5_29 dX5_undo_28 31 rfl 0 rfl rfl rfl (Nat.le_of_ble_eq_true rfl) (modW_p6 eo3) ?_
    refine g_aload_n hC dX5_undo_31 32 rfl rfl 0 rfl ?_
    refine g_get hC fl_X5_22 dX5_undo_32 35 rfl 0 rfl rfl ?_
    refine g_sipush hC (160 : Int32) dX5_undo_35 38 rfl sipush_160 ?_
    refine g_aload_n hC dX5_undo_38 39 rfl rfl 0 rfl ?_
    refine g_get hC fl_X5_29 dX5_undo_39 42 rfl 0 rfl rfl ?_
    refine g_imul hC dX5_undo_42 43 rfl ?_
    refine g_aload_n hC dX5_undo_43 44 rfl rfl 0 rfl ?_
    refine g_get hC fl_X5_7 dX5_undo_44 47 rfl 0 rfl rfl ?_
    refine g_iconst hC (0 : Int32) dX5_undo_47 48 rfl iconst_0 ?_
    refine g_statV hC (ct_X5_copy l g a o3 5 1 ((160 : Int32) * (o3 0 6)) (0 : Int32) _ h) gY_X5_copy dX5_undo_48 51 rfl ml_X5_84 [] rfl rfl ⟨Nat.le_of_ble_eq_true rfl, Nat.le_of_ble_eq_true rfl⟩ (Nat.le_of_ble_eq_true rfl) ⟨Nat.le_refl _, Nat.le_refl _⟩ (fun o4 h => ?_)
    refine g_aload_n hC dX5_undo_51 52 rfl rfl 0 rfl ?_
    refine g_get hC fl_X5_29 dX5_undo_52 55 rfl 0 rfl rfl ?_
    exact g_iret hC hZ dX5_undo_55 ⟨_, _, rfl, rfl, h⟩
  · have h := h.2 c
    refine g_iconst hC (0 : Int32) dX5_undo_19 20 rfl iconst_0 ?_
    exact g_iret hC hZ dX5_undo_20 ⟨_, _, rfl, rfl, h⟩
set_option maxRecDepth 100000 in
set_option maxHeartbeats 4000000 in
theorem ct_X5_undo (l : Launch) (g : gE) (a : Nat → Nat) (o : Off) (post : Int32 → Off → Prop) (h : wp_X5_undo post o ) : Fn l g yX5_undo cX5_undo 1 (some .int) 1 24 0 0 (modW g a o) [.ref (a 0)] (pI (modW g a) post) := by
  refine Fn.of (by decide) (Nat.le_of_ble_eq_true rfl) (fun x hC hZ => ?_)
  rw [wp_X5_undo] at h
  show G x g 1 0 0 (modW g a o) 0 [(0, .ref (a 0))] []
  refine g_aload_n hC dX5_undo_0 1 rfl rfl 0 rfl ?_
  refine g_aload_n hC dX5_undo_1 2 rfl rfl 0 rfl ?_
  refine g_get hC fl_X5_29 dX5_undo_2 5 rfl 0 rfl rfl ?_
  refine g_if_le hC dX5_undo_5 12 (by decide) 8 rfl (fun c => ?_) (fun c => ?_)
  · have h := h.1 c
    refine g_iconst hC (0 : Int32) dX5_undo_12 13 rfl iconst_0 ?_
    exact jn_X5_undo_13 hC hZ o (0 : Int32) h
  · have h := h.2 c
    refine g_iconst hC (1 : Int32) dX5_undo_8 9 rfl iconst_1 ?_
    refine g_goto hC dX5_undo_9 13 (by decide) ?_
    exact jn_X5_undo_13 hC hZ o (1 : Int32) h
def wp_X5_saveSnapshot (post : Int32 → Off → Prop) (o : Off) : Prop := (∀ o1 : Off, o1 = st o 0 5 (0 : Int32) → wp_X5_copy (fun o2 => (∀ o3 : Off, o3 = st o2 0 13 (1 : Int32) → (vp_in (0 : Int32) 160 ∧ post (o3 1 (0 : Int32).toNatClampNeg) o3))) o1 1 4 (0 : Int32) (0 : Int32))
set_option maxRecDepth 100000 in
set_option maxHeartbeats 4000000 in
theorem ct_X5_saveSnapshot (l : Launch) (g : gE) (a : Nat → Nat) (o : Off) (post : Int32 → Off → Prop) (h : wp_X5_saveSnapshot post o ) : Fn l g yX5_saveSnapshot cX5_saveSnapshot 1 (some .int) 1 24 0 0 (modW g a o) [.ref (a 0)] (pI (modW g a) post) := by
  refine Fn.of (by decide) (Nat.le_of_ble_eq_true rfl) (fun x hC hZ => ?_)
  rw [wp_X5_saveSnapshot] at h
  show G x g 1 0 0 (modW g a o) 0 [(0, .ref (a 0))] []
  refine g_aload_n hC dX5_saveSnapshot_0 1 rfl rfl 0 rfl ?_
  refine g_iconst hC (0 : Int32) dX5_saveSnapshot_1 2 rfl iconst_0 ?_
  obtain ⟨o1, eo1⟩ : ∃ y : Off, y = st o 0 5 (0 : Int32) := ⟨_, rfl⟩
  have h := h o1 eo1
  refine g_put hC fp_X5_25 dX5_saveSnapshot_2 5 rfl 0 rfl rfl rfl (Nat.le_of_ble_eq_true rfl) (modW_p5 eo1) ?_
  refine g_aload_n hC dX5_saveSnapshot_5 6 rfl rfl 0 rfl ?_
  refine g_get hC fl_X5_7 dX5_saveSnapshot_6 9 rfl 0 rfl rfl ?_
  refine g_iconst hC (0 : Int32) dX5_saveSnapshot_9 10 rfl iconst_0 ?_
  refine g_aload_n hC dX5_saveSnapshot_10 11 rfl rfl 0 rfl ?_
  refine g_get hC fl_X5_19 dX5_saveSnapshot_11 14 rfl 0 rfl rfl ?_
  refine g_iconst hC (0 : Int32) dX5_saveSnapshot_14 15 rfl iconst_0 ?_
  refine g_statV hC (ct_X5_copy l g a o1 1 4 (0 : Int32) (0 : Int32) _ h) gY_X5_copy dX5_saveSnapshot_15 18 rfl ml_X5_84 [] rfl rfl ⟨Nat.le_of_ble_eq_true rfl, Nat.le_of_ble_eq_true rfl⟩ (Nat.le_of_ble_eq_true rfl) ⟨Nat.le_refl _, Nat.le_refl _⟩ (fun o2 h => ?_)
  refine g_aload_n hC dX5_saveSnapshot_18 19 rfl rfl 0 rfl ?_
  refine g_iconst hC (1 : Int32) dX5_saveSnapshot_19 20 rfl iconst_1 ?_
  obtain ⟨o3, eo3⟩ : ∃ y : Off, y = st o2 0 13 (1 : Int32) := ⟨_, rfl⟩
  have h := h o3 eo3
  refine g_put hC fp_X5_50 dX5_saveSnapshot_20 23 rfl 0 rfl rfl rfl (Nat.le_of_ble_eq_true rfl) (modW_p13 eo3) ?_
  refine g_aload_n hC dX5_saveSnapshot_23 24 rfl rfl 0 rfl ?_
  refine g_get hC fl_X5_7 dX5_saveSnapshot_24 27 rfl 0 rfl rfl ?_
  refine g_iconst hC (0 : Int32) dX5_saveSnapshot_27 28 rfl iconst_0 ?_
  obtain ⟨hi, h⟩ := h
  refine g_iald hC dX5_saveSnapshot_28 29 rfl 1 rfl hi ?_
  exact g_iret hC hZ dX5_saveSnapshot_29 ⟨_, _, rfl, rfl, h⟩
def wp_X5_restoreSnapshot (post : Int32 → Off → Prop) (o : Off) : Prop := wp_X5_checked (fun v2 o1 => ((v2 ≤ 0 → wp_X5_copy (fun o3 => (∀ o4 : Off, o4 = st o3 0 6 (0 : Int32) → (vp_in (0 : Int32) 160 ∧ post (o4 1 (0 : Int32).toNatClampNeg) o4))) o1 4 1 (0 : Int32) (0 : Int32)) ∧ (¬ v2 ≤ 0 → post (0 : Int32) o1))) o (o 0 13)
set_option maxRecDepth 100000 in
set_option maxHeartbeats 4000000 in
theorem ct_X5_restoreSnapshot (l : Launch) (g : gE) (a : Nat → Nat) (o : Off) (post : Int32 → Off → Prop) (h : wp_X5_restoreSnapshot post o ) : Fn l g yX5_restoreSnapshot cX5_restoreSnapshot 1 (some .int) 1 24 0 0 (modW g a o) [.ref (a 0)] (pI (modW g a) post) := by
  refine Fn.of (by decide) (Nat.le_of_ble_eq_true rfl) (fun x hC hZ => ?_)
  rw [wp_X5_restoreSnapshot] at h
  show G x g 1 0 0 (modW g a o) 0 [(0, .ref (a 0))] []
  refine g_aload_n hC dX5_restoreSnapshot_0 1 rfl rfl 0 rfl ?_
  refine g_aload_n hC dX5_restoreSnapshot_1 2 rfl rfl 0 rfl ?_
  refine g_get hC fl_X5_50 dX5_restoreSnapshot_2 5 rfl 0 rfl rfl ?_
  refine g_ownI hC (ct_X5_checked l g a o (o 0 13) _ h) gY_X5_checked dX5_restoreSnapshot_5 8 rfl ml_X5_154 [] rfl rfl rfl 0 9 rfl rfl ⟨Nat.le_of_ble_eq_true rfl, Nat.le_of_ble_eq_true rfl⟩ (Nat.le_of_ble_eq_true rfl) ⟨Nat.le_refl _, Nat.le_refl _⟩ (fun v2 o1 h => ?_)
  refine g_if_le hC dX5_restoreSnapshot_8 13 (by decide) 11 rfl (fun c => ?_) (fun c => ?_)
  · have h := h.1 c
    refine g_aload_n hC dX5_restoreSnapshot_13 14 rfl rfl 0 rfl ?_
    refine g_get hC fl_X5_19 dX5_restoreSnapshot_14 17 rfl 0 rfl rfl ?_
    refine g_iconst hC (0 : Int32) dX5_restoreSnapshot_17 18 rfl iconst_0 ?_
    refine g_aload_n hC dX5_restoreSnapshot_18 19 rfl rfl 0 rfl ?_
    refine g_get hC fl_X5_7 dX5_restoreSnapshot_19 22 rfl 0 rfl rfl ?_
    refine g_iconst hC (0 : Int32) dX5_restoreSnapshot_22 23 rfl iconst_0 ?_
    refine g_statV hC (ct_X5_copy l g a o1 4 1 (0 : Int32) (0 : Int32) _ h) gY_X5_copy dX5_restoreSnapshot_23 26 rfl ml_X5_84 [] rfl rfl ⟨Nat.le_of_ble_eq_true rfl, Nat.le_of_ble_eq_true rfl⟩ (Nat.le_of_ble_eq_true rfl) ⟨Nat.le_refl _, Nat.le_refl _⟩ (fun o3 h => ?_)
    refine g_aload_n hC dX5_restoreSnapshot_26 27 rfl rfl 0 rfl ?_
    refine g_iconst hC (0 : Int32) dX5_restoreSnapshot_27 28 rfl iconst_0 ?_
    obtain ⟨o4, eo4⟩ : ∃ y : Off, y = st o3 0 6 (0 : Int32) := ⟨_, rfl⟩
    have h := h o4 eo4
    refine g_put hC fp_X5_29 dX5_restoreSnapshot_28 31 rfl 0 rfl rfl rfl (Nat.le_of_ble_eq_true rfl) (modW_p6 eo4) ?_
    refine g_aload_n hC dX5_restoreSnapshot_31 32 rfl rfl 0 rfl ?_
    refine g_get hC fl_X5_7 dX5_restoreSnapshot_32 35 rfl 0 rfl rfl ?_
    refine g_iconst hC (0 : Int32) dX5_restoreSnapshot_35 36 rfl iconst_0 ?_
    obtain ⟨hi, h⟩ := h
    refine g_iald hC dX5_restoreSnapshot_36 37 rfl 1 rfl hi ?_
    exact g_iret hC hZ dX5_restoreSnapshot_37 ⟨_, _, rfl, rfl, h⟩
  · have h := h.2 c
    refine g_iconst hC (0 : Int32) dX5_restoreSnapshot_11 12 rfl iconst_0 ?_
    exact g_iret hC hZ dX5_restoreSnapshot_12 ⟨_, _, rfl, rfl, h⟩
