/-! an office takes over another's rows -/
def lenO (i : Nat) : Nat := if i ≤ 8 then 14 else if i ≤ 10 then 5 else 25
def cpR (o : Off) (i : Nat) (q : Off) : Off := fun r => if r = i then q i else o r
theorem arrV_congr {cA : ClassId} {N : Nat} {f f2 : Nat → Int32} (h : ∀ j, j < N → f j = f2 j) : vp_cell cA (N, .inl f) = vp_cell cA (N, .inl f2) := by
  rw [vp_cell_i, vp_cell_i]
  unfold arrV
  congr 2
  funext j
  show Value.int (f j.val) = Value.int (f2 j.val)
  rw [h j.val j.isLt]
theorem offW_at {g : gE} {a : Nat → Nat} {o : Off} {i : Nat} (suf : va_W) (h1 : 1 ≤ i) (h2 : i ≤ 11) : (offW g a o ++ suf)[i]? = some (a i, .inl (g.2.1 0, lenO i, .inl (o i))) := by
  rcases (show i = 1 ∨ i = 2 ∨ i = 3 ∨ i = 4 ∨ i = 5 ∨ i = 6 ∨ i = 7 ∨ i = 8 ∨ i = 9 ∨ i = 10 ∨ i = 11 by omega) with rfl | rfl | rfl | rfl | rfl | rfl | rfl | rfl | rfl | rfl | rfl <;> rfl
theorem offW_at2 {g : gE} {a b : Nat → Nat} {o q : Off} {i : Nat} (h1 : 1 ≤ i) (h2 : i ≤ 11) : (offW g a o ++ offW g b q)[12 + i]? = some (b i, .inl (g.2.1 0, lenO i, .inl (q i))) := by
  rcases (show i = 1 ∨ i = 2 ∨ i = 3 ∨ i = 4 ∨ i = 5 ∨ i = 6 ∨ i = 7 ∨ i = 8 ∨ i = 9 ∨ i = 10 ∨ i = 11 by omega) with rfl | rfl | rfl | rfl | rfl | rfl | rfl | rfl | rfl | rfl | rfl <;> rfl
theorem offW_cp {g : gE} {a b : Nat → Nat} {o q : Off} {i : Nat} (f : Nat → Int32) (h1 : 1 ≤ i) (h2 : i ≤ 11) : (offW g a o ++ offW g b q).set i (a i, .inl (g.2.1 0, lenO i, .inl f)) = offW g a (cpR o i (fun _ => f)) ++ offW g b q := by
  rcases (show i = 1 ∨ i = 2 ∨ i = 3 ∨ i = 4 ∨ i = 5 ∨ i = 6 ∨ i = 7 ∨ i = 8 ∨ i = 9 ∨ i = 10 ∨ i = 11 by omega) with rfl | rfl | rfl | rfl | rfl | rfl | rfl | rfl | rfl | rfl | rfl <;> rfl
theorem offW_same {D : va_G} {cl : List vw_C} {g : gE} {a b : Nat → Nat} {o q : Off} {i : Nat} {f f2 : Nat → Int32} {H : Heap} (h1 : 1 ≤ i) (h2 : i ≤ 11) (hf : ∀ j, j < lenO i → f j = f2 j) (h : va_P D cl (offW g a (cpR o i (fun _ => f)) ++ offW g b q) H) : va_P D cl (offW g a (cpR o i (fun _ => f2)) ++ offW g b q) H := by
  have hat : (offW g a (cpR o i (fun _ => f)) ++ offW g b q)[i]? = some (a i, .inl (g.2.1 0, lenO i, .inl (cpR o i (fun _ => f) i))) := offW_at _ h1 h2
  have e1 : cpR o i (fun _ => f) i = f := by unfold cpR; rw [if_pos rfl]
  have e2 : cpR o i (fun _ => f2) i = f2 := by unfold cpR; rw [if_pos rfl]
  have he : offW g a (cpR o i (fun _ => f2)) ++ offW g b q = (offW g a (cpR o i (fun _ => f)) ++ offW g b q).set i (a i, .inl (g.2.1 0, lenO i, .inl f2)) := by
    rw [offW_cp f2 h1 h2]
    congr 2
    funext r
    unfold cpR
    by_cases hr : r = i
    · rw [if_pos hr, if_pos hr]
    · rw [if_neg hr, if_neg hr, if_neg hr]
  rw [he]
  intro k z hk
  have hl := (List.getElem?_eq_some_iff.mp hat).1
  by_cases hki : k = i
  · subst hki
    rw [List.getElem?_set_self hl] at hk
    cases hk
    have h3 := h k _ hat
    rw [e1] at h3
    show H[a k]? = some (vp_cell _ _)
    rw [← arrV_congr hf]
    exact h3
  · rw [List.getElem?_set_ne (Ne.symm hki)] at hk
    exact h k z hk
theorem va_D_fst {A : Nat → Prop} {ws ws2 : va_W} (e : ws.map Prod.fst = ws2.map Prod.fst) (h : va_D A ws) : va_D A ws2 := by
  obtain ⟨h1, h2⟩ := va_D_iff.mp h
  refine va_D_iff.mpr ⟨e ▸ h1, fun q hq => ?_⟩
  have hm : q.1 ∈ ws.map Prod.fst := by rw [e]; exact List.mem_map_of_mem hq
  obtain ⟨z, hz, hzq⟩ := List.mem_map.mp hm
  rw [← hzq]
  exact h2 z hz
theorem g_copyO {x : gX} {l : Launch} {cc : ByteArray} {nL : Nat} {own : String} {g : gE} {fr lo mc ms k n pc : Nat} {lv : List (Nat × Value)} {st : List Value} {a b : Nat → Nat} {o q : Off} {i : Nat} (hC : gC x l cc nL own g fr lo mc ms) (h1 : 1 ≤ i) (h2 : i ≤ 11) {idx : Nat} {v : Int32} (hv : v = nI (lenO i)) (hd : decode cc pc = .ok (.invokestatic idx, 3)) (pc2 : Nat) (e : pc + 3 = pc2) (hl : Cond.methodLink own idx arraycopyName ∈ lw_all) (w1 : Cond.native arraycopyName ∈ lw_all) (w2 : Cond.static arraycopyName ∈ lw_all) (w3 : Cond.initialized "java/lang/System" ∈ lw_all)
    (hR : 1 ≤ fr ∧ nativeFrameWords "java/lang/System" "arraycopy" 5 + 19 ≤ lo) (hcat : (st.map fun v => v.category).sum ≤ 8) (kk : G x g nL k n (offW g a (cpR o i q) ++ offW g b q) pc2 lv st) : G x g nL k n (offW g a o ++ offW g b q) pc lv (.int v :: .int 0 :: .ref (a i) :: .int 0 :: .ref (b i) :: st) := by
  subst e; subst hv
  have hlen : lenO i ≤ 25 := by
    unfold lenO
    split
    · omega
    · split <;> omega
  intro H locs ls hP hD hS h
  have hx := hC.2.2.2.2.2.2.2.2.2.1
  refine va_copyi hC.1 hC.2.1 (by rw [hC.2.2.1, h.1]) hC.2.2.2.1 (hC.2.2.2.2.1 _ hl) (hC.2.2.2.2.1 _ w1) (hC.2.2.2.2.1 _ w2) (hC.2.2.2.2.1 _ w3) hC.2.2.2.2.2.1 hP hD hS (12 + i) i 0 0 (offW_at2 h1 h2) (offW_at _ h1 h2) rfl rfl rfl (by decide) (by decide) (nI_pos (by omega)) (by rw [nI_clamp (by omega)]; show 0 + _ ≤ _; omega) (by rw [nI_clamp (by omega)]; show 0 + _ ≤ _; omega) (fun _ _ => rfl) (by rw [hx]; exact hR.1) (by rw [hx]; show _ ≤ lo; omega) hd (fun H1 locs1 hP1 hD1 hS1 => ?_)
  rw [offW_cp _ h1 h2] at hP1 hD1
  refine kk H1 locs1 ls ?_ ?_ hS1 h
  · refine offW_same (f := va_cpy (q i) (o i) (0 : Int32).toNatClampNeg (0 : Int32).toNatClampNeg (nI (lenO i)).toNatClampNeg) (f2 := q i) h1 h2 (fun j hj => ?_) hP1
    unfold va_cpy
    rw [nI_clamp (by omega), if_pos ⟨Nat.zero_le _, by show j < 0 + _; omega⟩]
    show q i (0 + (j - 0)) = q i j
    rw [Nat.zero_add, Nat.sub_zero]
  · refine va_D_fst ?_ hD1
    rfl
theorem lenO_ne {i : Nat} : (if nI (lenO i) < nI (lenO i) then nI (lenO i) else nI (lenO i)) = nI (lenO i) := ite_self _
set_option maxRecDepth 100000 in
set_option maxHeartbeats 4000000 in
theorem ct_X3_copyRow (l : Launch) (g : gE) (a b : Nat → Nat) (o q : Off) (i : Nat) (h1 : 1 ≤ i) (h2 : i ≤ 11) : Fn l g yX3_copyRow cX3_copyRow 2 none 1 300 0 0 (offW g a o ++ offW g b q) [.ref (b i), .ref (a i)] (fun r w => r = none ∧ w = offW g a (cpR o i q) ++ offW g b q) := by
  refine Fn.of (by decide) (Nat.le_of_ble_eq_true rfl) (fun x hC hZ => ?_)
  show G x g 2 0 0 (offW g a o ++ offW g b q) 0 [(0, .ref (b i)), (1, .ref (a i))] []
  refine g_aload_n hC dX3_copyRow_0 1 rfl rfl 0 rfl ?_
  refine g_iconst hC (0 : Int32) dX3_copyRow_1 2 rfl iconst_0 ?_
  refine g_aload_n hC dX3_copyRow_2 3 rfl rfl 1 rfl ?_
  refine g_iconst hC (0 : Int32) dX3_copyRow_3 4 rfl iconst_0 ?_
  refine g_aload_n hC dX3_copyRow_4 5 rfl rfl 0 rfl ?_
  refine g_alen (v := nI (lenO i)) hC dX3_copyRow_5 6 rfl (12 + i) 0 (offW_at2 h1 h2) rfl rfl ?_
  refine g_aload_n hC dX3_copyRow_6 7 rfl rfl 1 rfl ?_
  refine g_alen (v := nI (lenO i)) hC dX3_copyRow_7 8 rfl i 0 (offW_at _ h1 h2) rfl rfl ?_
  refine g_mmin hC dX3_copyRow_8 11 rfl mth_X3_65 mth_min.1 mth_min.2.1 mth_min.2.2 ⟨Nat.le_of_ble_eq_true rfl, Nat.le_of_ble_eq_true rfl, Nat.le_refl _, Nat.le_refl _⟩ (Nat.le_of_ble_eq_true rfl) ?_
  refine g_copyO hC h1 h2 lenO_ne dX3_copyRow_11 14 rfl (lw_inT 408 (by decide +kernel) rfl) (lw_inT 410 (by decide +kernel) rfl) (lw_inT 409 (by decide +kernel) rfl) (lw_inT 22 (by decide +kernel) rfl) ⟨Nat.le_of_ble_eq_true rfl, by decide⟩ (Nat.le_of_ble_eq_true rfl) ?_
  exact g_vret hC hZ dX3_copyRow_14 ⟨rfl, rfl⟩
set_option maxRecDepth 100000 in
set_option maxHeartbeats 4000000 in
theorem ct_X3_copyFrom (l : Launch) (g : gE) (a b : Nat → Nat) (o q : Off) : Fn l g yX3_copyFrom cX3_copyFrom 2 none 2 321 0 0 (offW g a o ++ offW g b q) [.ref (a 0), .ref (b 0)] (fun r w => r = none ∧ w = offW g a q ++ offW g b q) := by
  refine Fn.of (by decide) (Nat.le_of_ble_eq_true rfl) (fun x hC hZ => ?_)
  show G x g 2 0 0 (offW g a o ++ offW g b q) 0 [(0, .ref (a 0)), (1, .ref (b 0))] []
  refine g_aload_n hC dX3_copyFrom_0 1 rfl rfl 0 rfl ?_
  refine g_aload_n hC dX3_copyFrom_1 2 rfl rfl 1 rfl ?_
  refine g_get hC fl_X3_45 dX3_copyFrom_2 5 rfl 12 rfl rfl ?_
  obtain ⟨o0, eo0⟩ : ∃ y : Off, y = st o 0 0 (q 0 0) := ⟨_, rfl⟩
  refine g_put (ws2 := offW g a o0 ++ offW g b q) hC fp_X3_45 dX3_copyFrom_5 8 rfl 0 rfl rfl rfl (Nat.le_of_ble_eq_true rfl) (by subst eo0; rfl) ?_
  refine g_aload_n hC dX3_copyFrom_8 9 rfl rfl 0 rfl ?_
  refine g_aload_n hC dX3_copyFrom_9 10 rfl rfl 1 rfl ?_
  refine g_get hC fl_X3_49 dX3_copyFrom_10 13 rfl 12 rfl rfl ?_
  obtain ⟨o1, eo1⟩ : ∃ y : Off, y = st o0 0 1 (q 0 1) := ⟨_, rfl⟩
  refine g_put (ws2 := offW g a o1 ++ offW g b q) hC fp_X3_49 dX3_copyFrom_13 16 rfl 0 rfl rfl rfl (Nat.le_of_ble_eq_true rfl) (by subst eo1; rfl) ?_
  refine g_aload_n hC dX3_copyFrom_16 17 rfl rfl 0 rfl ?_
  refine g_aload_n hC dX3_copyFrom_17 18 rfl rfl 1 rfl ?_
  refine g_get hC fl_X3_52 dX3_copyFrom_18 21 rfl 12 rfl rfl ?_
  obtain ⟨o2, eo2⟩ : ∃ y : Off, y = st o1 0 2 (q 0 2) := ⟨_, rfl⟩
  refine g_put (ws2 := offW g a o2 ++ offW g b q) hC fp_X3_52 dX3_copyFrom_21 24 rfl 0 rfl rfl rfl (Nat.le_of_ble_eq_true rfl) (by subst eo2; rfl) ?_
  refine g_aload_n hC dX3_copyFrom_24 25 rfl rfl 0 rfl ?_
  refine g_aload_n hC dX3_copyFrom_25 26 rfl rfl 1 rfl ?_
  refine g_get hC fl_X3_55 dX3_copyFrom_26 29 rfl 12 rfl rfl ?_
  obtain ⟨o3, eo3⟩ : ∃ y : Off, y = st o2 0 3 (q 0 3) := ⟨_, rfl⟩
  refine g_put (ws2 := offW g a o3 ++ offW g b q) hC fp_X3_55 dX3_copyFrom_29 32 rfl 0 rfl rfl rfl (Nat.le_of_ble_eq_true rfl) (by subst eo3; rfl) ?_
  refine g_aload_n hC dX3_copyFrom_32 33 rfl rfl 0 rfl ?_
  refine g_aload_n hC dX3_copyFrom_33 34 rfl rfl 1 rfl ?_
  refine g_get hC fl_X3_58 dX3_copyFrom_34 37 rfl 12 rfl rfl ?_
  obtain ⟨o4, eo4⟩ : ∃ y : Off, y = st o3 0 4 (q 0 4) := ⟨_, rfl⟩
  refine g_put (ws2 := offW g a o4 ++ offW g b q) hC fp_X3_58 dX3_copyFrom_37 40 rfl 0 rfl rfl rfl (Nat.le_of_ble_eq_true rfl) (by subst eo4; rfl) ?_
  refine g_aload_n hC dX3_copyFrom_40 41 rfl rfl 1 rfl ?_
  refine g_get hC fl_X3_9 dX3_copyFrom_41 44 rfl 12 rfl rfl ?_
  refine g_aload_n hC dX3_copyFrom_44 45 rfl rfl 0 rfl ?_
  refine g_get hC fl_X3_9 dX3_copyFrom_45 48 rfl 0 rfl rfl ?_
  obtain ⟨o5, eo5⟩ : ∃ y : Off, y = cpR o4 1 q := ⟨_, rfl⟩
  refine g_callS hC (ct_X3_copyRow l g a b o4 q 1 (by decide) (by decide)) gY_X3_copyRow dX3_copyFrom_48 51 rfl ml_X3_61 [] [] (by simp only [List.nil_append, List.append_nil]) [] rfl rfl ⟨Nat.le_of_ble_eq_true rfl, Nat.le_of_ble_eq_true rfl⟩ (Nat.le_of_ble_eq_true rfl) ⟨Nat.le_refl _, Nat.le_refl _⟩ ?_
  rintro r w1 ⟨rfl, rfl⟩
  rw [← eo5, List.nil_append, List.append_nil]
  show G x g 2 0 0 (offW g a o5 ++ offW g b q) 51 [(0, .ref (a 0)), (1, .ref (b 0))] []
  refine g_aload_n hC dX3_copyFrom_51 52 rfl rfl 1 rfl ?_
  refine g_get hC fl_X3_15 dX3_copyFrom_52 55 rfl 12 rfl rfl ?_
  refine g_aload_n hC dX3_copyFrom_55 56 rfl rfl 0 rfl ?_
  refine g_get hC fl_X3_15 dX3_copyFrom_56 59 rfl 0 rfl rfl ?_
  obtain ⟨o6, eo6⟩ : ∃ y : Off, y = cpR o5 2 q := ⟨_, rfl⟩
  refine g_callS hC (ct_X3_copyRow l g a b o5 q 2 (by decide) (by decide)) gY_X3_copyRow dX3_copyFrom_59 62 rfl ml_X3_61 [] [] (by simp only [List.nil_append, List.append_nil]) [] rfl rfl ⟨Nat.le_of_ble_eq_true rfl, Nat.le_of_ble_eq_true rfl⟩ (Nat.le_of_ble_eq_true rfl) ⟨Nat.le_refl _, Nat.le_refl _⟩ ?_
  rintro r w1 ⟨rfl, rfl⟩
  rw [← eo6, List.nil_append, List.append_nil]
  show G x g 2 0 0 (offW g a o6 ++ offW g b q) 62 [(0, .ref (a 0)), (1, .ref (b 0))] []
  refine g_aload_n hC dX3_copyFrom_62 63 rfl rfl 1 rfl ?_
  refine g_get hC fl_X3_18 dX3_copyFrom_63 66 rfl 12 rfl rfl ?_
  refine g_aload_n hC dX3_copyFrom_66 67 rfl rfl 0 rfl ?_
  refine g_get hC fl_X3_18 dX3_copyFrom_67 70 rfl 0 rfl rfl ?_
  obtain ⟨o7, eo7⟩ : ∃ y : Off, y = cpR o6 3 q := ⟨_, rfl⟩
  refine g_callS hC (ct_X3_copyRow l g a b o6 q 3 (by decide) (by decide)) gY_X3_copyRow dX3_copyFrom_70 73 rfl ml_X3_61 [] [] (by simp only [List.nil_append, List.append_nil]) [] rfl rfl ⟨Nat.le_of_ble_eq_true rfl, Nat.le_of_ble_eq_true rfl⟩ (Nat.le_of_ble_eq_true rfl) ⟨Nat.le_refl _, Nat.le_refl _⟩ ?_
  rintro r w1 ⟨rfl, rfl⟩
  rw [← eo7, List.nil_append, List.append_nil]
  show G x g 2 0 0 (offW g a o7 ++ offW g b q) 73 [(0, .ref (a 0)), (1, .ref (b 0))] []
  refine g_aload_n hC dX3_copyFrom_73 74 rfl rfl 1 rfl ?_
  refine g_get hC fl_X3_21 dX3_copyFrom_74 77 rfl 12 rfl rfl ?_
  refine g_aload_n hC dX3_copyFrom_77 78 rfl rfl 0 rfl ?_
  refine g_get hC fl_X3_21 dX3_copyFrom_78 81 rfl 0 rfl rfl ?_
  obtain ⟨o8, eo8⟩ : ∃ y : Off, y = cpR o7 4 q := ⟨_, rfl⟩
  refine g_callS hC (ct_X3_copyRow l g a b o7 q 4 (by decide) (by decide)) gY_X3_copyRow dX3_copyFrom_81 84 rfl ml_X3_61 [] [] (by simp only [List.nil_append, List.append_nil]) [] rfl rfl ⟨Nat.le_of_ble_eq_true rfl, Nat.le_of_ble_eq_true rfl⟩ (Nat.le_of_ble_eq_true rfl) ⟨Nat.le_refl _, Nat.le_refl _⟩ ?_
  rintro r w1 ⟨rfl, rfl⟩
  rw [← eo8, List.nil_append, List.append_nil]
  show G x g 2 0 0 (offW g a o8 ++ offW g b q) 84 [(0, .ref (a 0)), (1, .ref (b 0))] []
  refine g_aload_n hC dX3_copyFrom_84 85 rfl rfl 1 rfl ?_
  refine g_get hC fl_X3_24 dX3_copyFrom_85 88 rfl 12 rfl rfl ?_
  refine g_aload_n hC dX3_copyFrom_88 89 rfl rfl 0 rfl ?_
  refine g_get hC fl_X3_24 dX3_copyFrom_89 92 rfl 0 rfl rfl ?_
  obtain ⟨o9, eo9⟩ : ∃ y : Off, y = cpR o8 5 q := ⟨_, rfl⟩
  refine g_callS hC (ct_X3_copyRow l g a b o8 q 5 (by decide) (by decide)) gY_X3_copyRow dX3_copyFrom_92 95 rfl ml_X3_61 [] [] (by simp only [List.nil_append, List.append_nil]) [] rfl rfl ⟨Nat.le_of_ble_eq_true rfl, Nat.le_of_ble_eq_true rfl⟩ (Nat.le_of_ble_eq_true rfl) ⟨Nat.le_refl _, Nat.le_refl _⟩ ?_
  rintro r w1 ⟨rfl, rfl⟩
  rw [← eo9, List.nil_append, List.append_nil]
  show G x g 2 0 0 (offW g a o9 ++ offW g b q) 95 [(0, .ref (a 0)), (1, .ref (b 0))] []
  refine g_aload_n hC dX3_copyFrom_95 96 rfl rfl 1 rfl ?_
  refine g_get hC fl_X3_27 dX3_copyFrom_96 99 rfl 12 rfl rfl ?_
  refine g_aload_n hC dX3_copyFrom_99 100 rfl rfl 0 rfl ?_
  refine g_get hC fl_X3_27 dX3_copyFrom_100 103 rfl 0 rfl rfl ?_
  obtain ⟨o10, eo10⟩ : ∃ y : Off, y = cpR o9 6 q := ⟨_, rfl⟩
  refine g_callS hC (ct_X3_copyRow l g a b o9 q 6 (by decide) (by decide)) gY_X3_copyRow dX3_copyFrom_103 106 rfl ml_X3_61 [] [] (by simp only [List.nil_append, List.append_nil]) [] rfl rfl ⟨Nat.le_of_ble_eq_true rfl, Nat.le_of_ble_eq_true rfl⟩ (Nat.le_of_ble_eq_true rfl) ⟨Nat.le_refl _, Nat.le_refl _⟩ ?_
  rintro r w1 ⟨rfl, rfl⟩
  rw [← eo10, List.nil_append, List.append_nil]
  show G x g 2 0 0 (offW g a o10 ++ offW g b q) 106 [(0, .ref (a 0)), (1, .ref (b 0))] []
  refine g_aload_n hC dX3_copyFrom_106 107 rfl rfl 1 rfl ?_
  refine g_get hC fl_X3_30 dX3_copyFrom_107 110 rfl 12 rfl rfl ?_
  refine g_aload_n hC dX3_copyFrom_110 111 rfl rfl 0 rfl ?_
  refine g_get hC fl_X3_30 dX3_copyFrom_111 114 rfl 0 rfl rfl ?_
  obtain ⟨o11, eo11⟩ : ∃ y : Off, y = cpR o10 7 q := ⟨_, rfl⟩
  refine g_callS hC (ct_X3_copyRow l g a b o10 q 7 (by decide) (by decide)) gY_X3_copyRow dX3_copyFrom_114 117 rfl ml_X3_61 [] [] (by simp only [List.nil_append, List.append_nil]) [] rfl rfl ⟨Nat.le_of_ble_eq_true rfl, Nat.le_of_ble_eq_true rfl⟩ (Nat.le_of_ble_eq_true rfl) ⟨Nat.le_refl _, Nat.le_refl _⟩ ?_
  rintro r w1 ⟨rfl, rfl⟩
  rw [← eo11, List.nil_append, List.append_nil]
  show G x g 2 0 0 (offW g a o11 ++ offW g b q) 117 [(0, .ref (a 0)), (1, .ref (b 0))] []
  refine g_aload_n hC dX3_copyFrom_117 118 rfl rfl 1 rfl ?_
  refine g_get hC fl_X3_33 dX3_copyFrom_118 121 rfl 12 rfl rfl ?_
  refine g_aload_n hC dX3_copyFrom_121 122 rfl rfl 0 rfl ?_
  refine g_get hC fl_X3_33 dX3_copyFrom_122 125 rfl 0 rfl rfl ?_
  obtain ⟨o12, eo12⟩ : ∃ y : Off, y = cpR o11 8 q := ⟨_, rfl⟩
  refine g_callS hC (ct_X3_copyRow l g a b o11 q 8 (by decide) (by decide)) gY_X3_copyRow dX3_copyFrom_125 128 rfl ml_X3_61 [] [] (by simp only [List.nil_append, List.append_nil]) [] rfl rfl ⟨Nat.le_of_ble_eq_true rfl, Nat.le_of_ble_eq_true rfl⟩ (Nat.le_of_ble_eq_true rfl) ⟨Nat.le_refl _, Nat.le_refl _⟩ ?_
  rintro r w1 ⟨rfl, rfl⟩
  rw [← eo12, List.nil_append, List.append_nil]
  show G x g 2 0 0 (offW g a o12 ++ offW g b q) 128 [(0, .ref (a 0)), (1, .ref (b 0))] []
  refine g_aload_n hC dX3_copyFrom_128 129 rfl rfl 1 rfl ?_
  refine g_get hC fl_X3_36 dX3_copyFrom_129 132 rfl 12 rfl rfl ?_
  refine g_aload_n hC dX3_copyFrom_132 133 rfl rfl 0 rfl ?_
  refine g_get hC fl_X3_36 dX3_copyFrom_133 136 rfl 0 rfl rfl ?_
  obtain ⟨o13, eo13⟩ : ∃ y : Off, y = cpR o12 9 q := ⟨_, rfl⟩
  refine g_callS hC (ct_X3_copyRow l g a b o12 q 9 (by decide) (by decide)) gY_X3_copyRow dX3_copyFrom_136 139 rfl ml_X3_61 [] [] (by simp only [List.nil_append, List.append_nil]) [] rfl rfl ⟨Nat.le_of_ble_eq_true rfl, Nat.le_of_ble_eq_true rfl⟩ (Nat.le_of_ble_eq_true rfl) ⟨Nat.le_refl _, Nat.le_refl _⟩ ?_
  rintro r w1 ⟨rfl, rfl⟩
  rw [← eo13, List.nil_append, List.append_nil]
  show G x g 2 0 0 (offW g a o13 ++ offW g b q) 139 [(0, .ref (a 0)), (1, .ref (b 0))] []
  refine g_aload_n hC dX3_copyFrom_139 140 rfl rfl 1 rfl ?_
  refine g_get hC fl_X3_39 dX3_copyFrom_140 143 rfl 12 rfl rfl ?_
  refine g_aload_n hC dX3_copyFrom_143 144 rfl rfl 0 rfl ?_
  refine g_get hC fl_X3_39 dX3_copyFrom_144 147 rfl 0 rfl rfl ?_
  obtain ⟨o14, eo14⟩ : ∃ y : Off, y = cpR o13 10 q := ⟨_, rfl⟩
  refine g_callS hC (ct_X3_copyRow l g a b o13 q 10 (by decide) (by decide)) gY_X3_copyRow dX3_copyFrom_147 150 rfl ml_X3_61 [] [] (by simp only [List.nil_append, List.append_nil]) [] rfl rfl ⟨Nat.le_of_ble_eq_true rfl, Nat.le_of_ble_eq_true rfl⟩ (Nat.le_of_ble_eq_true rfl) ⟨Nat.le_refl _, Nat.le_refl _⟩ ?_
  rintro r w1 ⟨rfl, rfl⟩
  rw [← eo14, List.nil_append, List.append_nil]
  show G x g 2 0 0 (offW g a o14 ++ offW g b q) 150 [(0, .ref (a 0)), (1, .ref (b 0))] []
  refine g_aload_n hC dX3_copyFrom_150 151 rfl rfl 1 rfl ?_
  refine g_get hC fl_X3_42 dX3_copyFrom_151 154 rfl 12 rfl rfl ?_
  refine g_aload_n hC dX3_copyFrom_154 155 rfl rfl 0 rfl ?_
  refine g_get hC fl_X3_42 dX3_copyFrom_155 158 rfl 0 rfl rfl ?_
  obtain ⟨o15, eo15⟩ : ∃ y : Off, y = cpR o14 11 q := ⟨_, rfl⟩
  refine g_callS hC (ct_X3_copyRow l g a b o14 q 11 (by decide) (by decide)) gY_X3_copyRow dX3_copyFrom_158 161 rfl ml_X3_61 [] [] (by simp only [List.nil_append, List.append_nil]) [] rfl rfl ⟨Nat.le_of_ble_eq_true rfl, Nat.le_of_ble_eq_true rfl⟩ (Nat.le_of_ble_eq_true rfl) ⟨Nat.le_refl _, Nat.le_refl _⟩ ?_
  rintro r w1 ⟨rfl, rfl⟩
  rw [← eo15, List.nil_append, List.append_nil]
  show G x g 2 0 0 (offW g a o15 ++ offW g b q) 161 [(0, .ref (a 0)), (1, .ref (b 0))] []
  have ef : offW g a o15 = offW g a q := by
    subst eo15 eo14 eo13 eo12 eo11 eo10 eo9 eo8 eo7 eo6 eo5 eo4 eo3 eo2 eo1 eo0
    rfl
  exact g_vret hC hZ dX3_copyFrom_161 ⟨rfl, by rw [ef]⟩
def wp_X3_isSock (post : Int32 → Prop) (o : Off) (p0 : Int32) : Prop := ((p0 < 0 → post (0 : Int32)) ∧ (¬ p0 < 0 → (((o 0 0) ≤ p0 → post (0 : Int32)) ∧ (¬ (o 0 0) ≤ p0 → post (1 : Int32)))))
set_option maxRecDepth 100000 in
set_option maxHeartbeats 4000000 in
theorem ct_X3_isSock (l : Launch) (g : gE) (a : Nat → Nat) (o : Off) (p0 : Int32) (post : Int32 → Prop) (h : wp_X3_isSock post o p0) : Fn l g yX3_isSock cX3_isSock 2 (some .boolean) 0 0 0 0 (offW g a o) [.ref (a 0), .int p0] (pR (offW g a o) post) := by
  refine Fn.of (by decide) (Nat.le_of_ble_eq_true rfl) (fun x hC hZ => ?_)
  rw [wp_X3_isSock] at h
  show G x g 2 0 0 (offW g a o) 0 [(0, .ref (a 0)), (1, .int p0)] []
  refine g_iload_n hC dX3_isSock_0 1 rfl rfl 1 rfl ?_
  refine g_if_lt hC dX3_isSock_1 16 (by decide) 4 rfl (fun c => ?_) (fun c => ?_)
  · have h := h.1 c
    refine g_iconst hC (0 : Int32) dX3_isSock_16 17 rfl iconst_0 ?_
    exact g_zret hC hZ rfl dX3_isSock_17 ⟨_, rfl, rfl, h⟩
  · have h := h.2 c
    refine g_iload_n hC dX3_isSock_4 5 rfl rfl 1 rfl ?_
    refine g_aload_n hC dX3_isSock_5 6 rfl rfl 0 rfl ?_
    refine g_get hC fl_X3_45 dX3_isSock_6 9 rfl 0 rfl rfl ?_
    refine g_icmp_ge hC dX3_isSock_9 16 (by decide) 12 rfl (fun c => ?_) (fun c => ?_)
    · have h := h.1 c
      refine g_iconst hC (0 : Int32) dX3_isSock_16 17 rfl iconst_0 ?_
      exact g_zret hC hZ rfl dX3_isSock_17 ⟨_, rfl, rfl, h⟩
    · have h := h.2 c
      refine g_iconst hC (1 : Int32) dX3_isSock_12 13 rfl iconst_1 ?_
      refine g_goto hC dX3_isSock_13 17 (by decide) ?_
      exact g_zret hC hZ rfl dX3_isSock_17 ⟨_, rfl, rfl, h⟩
def wp_X3_isDrawer (post : Int32 → Prop) (p0 : Int32) : Prop := ((p0 < 0 → post (0 : Int32)) ∧ (¬ p0 < 0 → (((5 : Int32) ≤ p0 → post (0 : Int32)) ∧ (¬ (5 : Int32) ≤ p0 → post (1 : Int32)))))
set_option maxRecDepth 100000 in
set_option maxHeartbeats 4000000 in
theorem ct_X3_isDrawer (l : Launch) (g : gE) (p0 : Int32) (post : Int32 → Prop) (h : wp_X3_isDrawer post p0) : Fn l g yX3_isDrawer cX3_isDrawer 1 (some .boolean) 0 0 0 0 [] [.int p0] (pR [] post) := by
  refine Fn.of (by decide) (Nat.le_of_ble_eq_true rfl) (fun x hC hZ => ?_)
  rw [wp_X3_isDrawer] at h
  show G x g 1 0 0 [] 0 [(0, .int p0)] []
  refine g_iload_n hC dX3_isDrawer_0 1 rfl rfl 0 rfl ?_
  refine g_if_lt hC dX3_isDrawer_1 13 (by decide) 4 rfl (fun c => ?_) (fun c => ?_)
  · have h := h.1 c
    refine g_iconst hC (0 : Int32) dX3_isDrawer_13 14 rfl iconst_0 ?_
    exact g_zret hC hZ rfl dX3_isDrawer_14 ⟨_, rfl, rfl, h⟩
  · have h := h.2 c
    refine g_iload_n hC dX3_isDrawer_4 5 rfl rfl 0 rfl ?_
    refine g_iconst hC (5 : Int32) dX3_isDrawer_5 6 rfl iconst_5 ?_
    refine g_icmp_ge hC dX3_isDrawer_6 13 (by decide) 9 rfl (fun c => ?_) (fun c => ?_)
    · have h := h.1 c
      refine g_iconst hC (0 : Int32) dX3_isDrawer_13 14 rfl iconst_0 ?_
      exact g_zret hC hZ rfl dX3_isDrawer_14 ⟨_, rfl, rfl, h⟩
    · have h := h.2 c
      refine g_iconst hC (1 : Int32) dX3_isDrawer_9 10 rfl iconst_1 ?_
      refine g_goto hC dX3_isDrawer_10 14 (by decide) ?_
      exact g_zret hC hZ rfl dX3_isDrawer_14 ⟨_, rfl, rfl, h⟩
def wp_X3_colourAt (post : Int32 → Prop) (o : Off) (p0 : Int32) : Prop := (vp_in p0 14 ∧ (isC ((((o 1 p0.toNatClampNeg)).toUInt32 % 65536).toInt32) ∧ post ((((o 1 p0.toNatClampNeg)).toUInt32 % 65536).toInt32)))
set_option maxRecDepth 100000 in
set_option maxHeartbeats 4000000 in
theorem ct_X3_colourAt (l : Launch) (g : gE) (a : Nat → Nat) (o : Off) (p0 : Int32) (post : Int32 → Prop) (h : wp_X3_colourAt post o p0) : Fn l g yX3_colourAt cX3_colourAt 2 (some .char) 0 0 0 0 (offW g a o) [.ref (a 0), .int p0] (pR (offW g a o) post) := by
  refine Fn.of (by decide) (Nat.le_of_ble_eq_true rfl) (fun x hC hZ => ?_)
  rw [wp_X3_colourAt] at h
  show G x g 2 0 0 (offW g a o) 0 [(0, .ref (a 0)), (1, .int p0)] []
  refine g_aload_n hC dX3_colourAt_0 1 rfl rfl 0 rfl ?_
  refine g_get hC fl_X3_9 dX3_colourAt_1 4 rfl 0 rfl rfl ?_
  refine g_iload_n hC dX3_colourAt_4 5 rfl rfl 1 rfl ?_
  obtain ⟨hi, h⟩ := h
  refine g_iald hC dX3_colourAt_5 6 rfl 1 rfl hi ?_
  refine g_i2c hC dX3_colourAt_6 7 rfl ?_
  obtain ⟨hb, h⟩ := h
  exact g_zret hC hZ (hb) dX3_colourAt_7 ⟨_, rfl, rfl, h⟩
def wp_X3_hasApplication (post : Int32 → Prop) (o : Off) (p0 : Int32) : Prop := (vp_in p0 14 ∧ (((o 3 p0.toNatClampNeg) = (1 : Int32) → post (1 : Int32)) ∧ (¬ (o 3 p0.toNatClampNeg) = (1 : Int32) → (vp_in p0 14 ∧ ((¬ (o 3 p0.toNatClampNeg) = (2 : Int32) → post (0 : Int32)) ∧ ((o 3 p0.toNatClampNeg) = (2 : Int32) → post (1 : Int32)))))))
set_option maxRecDepth 100000 in
set_option maxHeartbeats 4000000 in
theorem ct_X3_hasApplication (l : Launch) (g : gE) (a : Nat → Nat) (o : Off) (p0 : Int32) (post : Int32 → Prop) (h : wp_X3_hasApplication post o p0) : Fn l g yX3_hasApplication cX3_hasApplication 2 (some .boolean) 0 0 0 0 (offW g a o) [.ref (a 0), .int p0] (pR (offW g a o) post) := by
  refine Fn.of (by decide) (Nat.le_of_ble_eq_true rfl) (fun x hC hZ => ?_)
  rw [wp_X3_hasApplication] at h
  show G x g 2 0 0 (offW g a o) 0 [(0, .ref (a 0)), (1, .int p0)] []
  refine g_aload_n hC dX3_hasApplication_0 1 rfl rfl 0 rfl ?_
  refine g_get hC fl_X3_18 dX3_hasApplication_1 4 rfl 0 rfl rfl ?_
  refine g_iload_n hC dX3_hasApplication_4 5 rfl rfl 1 rfl ?_
  obtain ⟨hi, h⟩ := h
  refine g_iald hC dX3_hasApplication_5 6 rfl 3 rfl hi ?_
  refine g_iconst hC (1 : Int32) dX3_hasApplication_6 7 rfl iconst_1 ?_
  refine g_icmp_eq hC dX3_hasApplication_7 20 (by decide) 10 rfl (fun c => ?_) (fun c => ?_)
  · have h := h.1 c
    refine g_iconst hC (1 : Int32) dX3_hasApplication_20 21 rfl iconst_1 ?_
    refine g_goto hC dX3_hasApplication_21 25 (by decide) ?_
    exact g_zret hC hZ rfl dX3_hasApplication_25 ⟨_, rfl, rfl, h⟩
  · have h := h.2 c
    refine g_aload_n hC dX3_hasApplication_10 11 rfl rfl 0 rfl ?_
    refine g_get hC fl_X3_18 dX3_hasApplication_11 14 rfl 0 rfl rfl ?_
    refine g_iload_n hC dX3_hasApplication_14 15 rfl rfl 1 rfl ?_
    obtain ⟨hi, h⟩ := h
    refine g_iald hC dX3_hasApplication_15 16 rfl 3 rfl hi ?_
    refine g_iconst hC (2 : Int32) dX3_hasApplication_16 17 rfl iconst_2 ?_
    refine g_icmp_ne hC dX3_hasApplication_17 24 (by decide) 20 rfl (fun c => ?_) (fun c => ?_)
    · have h := h.1 c
      refine g_iconst hC (0 : Int32) dX3_hasApplication_24 25 rfl iconst_0 ?_
      exact g_zret hC hZ rfl dX3_hasApplication_25 ⟨_, rfl, rfl, h⟩
    · have h := h.2 c
      refine g_iconst hC (1 : Int32) dX3_hasApplication_20 21 rfl iconst_1 ?_
      refine g_goto hC dX3_hasApplication_21 25 (by decide) ?_
      exact g_zret hC hZ rfl dX3_hasApplication_25 ⟨_, rfl, rfl, h⟩
def wp_X3_is (post : Int32 → Prop) (o : Off) (p0 : Int32) (p1 : Int32) (p2 : Int32) : Prop := (vp_in p0 14 ∧ ((¬ (o 3 p0.toNatClampNeg) = p1 → post (0 : Int32)) ∧ ((o 3 p0.toNatClampNeg) = p1 → (vp_in p0 14 ∧ ((¬ (o 4 p0.toNatClampNeg) = p2 → post (0 : Int32)) ∧ ((o 4 p0.toNatClampNeg) = p2 → post (1 : Int32)))))))
set_option maxRecDepth 100000 in
set_option maxHeartbeats 4000000 in
theorem ct_X3_is (l : Launch) (g : gE) (a : Nat → Nat) (o : Off) (p0 : Int32) (p1 : Int32) (p2 : Int32) (post : Int32 → Prop) (h : wp_X3_is post o p0 p1 p2) : Fn l g yX3_is cX3_is 4 (some .boolean) 0 0 0 0 (offW g a o) [.ref (a 0), .int p0, .int p1, .int p2] (pR (offW g a o) post) := by
  refine Fn.of (by decide) (Nat.le_of_ble_eq_true rfl) (fun x hC hZ => ?_)
  rw [wp_X3_is] at h
  show G x g 4 0 0 (offW g a o) 0 [(0, .ref (a 0)), (1, .int p0), (2, .int p1), (3, .int p2)] []
  refine g_aload_n hC dX3_is_0 1 rfl rfl 0 rfl ?_
  refine g_get hC fl_X3_18 dX3_is_1 4 rfl 0 rfl rfl ?_
  refine g_iload_n hC dX3_is_4 5 rfl rfl 1 rfl ?_
  obtain ⟨hi, h⟩ := h
  refine g_iald hC dX3_is_5 6 rfl 3 rfl hi ?_
  refine g_iload_n hC dX3_is_6 7 rfl rfl 2 rfl ?_
  refine g_icmp_ne hC dX3_is_7 24 (by decide) 10 rfl (fun c => ?_) (fun c => ?_)
  · have h := h.1 c
    refine g_iconst hC (0 : Int32) dX3_is_24 25 rfl iconst_0 ?_
    exact g_zret hC hZ rfl dX3_is_25 ⟨_, rfl, rfl, h⟩
  · have h := h.2 c
    refine g_aload_n hC dX3_is_10 11 rfl rfl 0 rfl ?_
    refine g_get hC fl_X3_21 dX3_is_11 14 rfl 0 rfl rfl ?_
    refine g_iload_n hC dX3_is_14 15 rfl rfl 1 rfl ?_
    obtain ⟨hi, h⟩ := h
    refine g_iald hC dX3_is_15 16 rfl 4 rfl hi ?_
    refine g_iload_n hC dX3_is_16 17 rfl rfl 3 rfl ?_
    refine g_icmp_ne hC dX3_is_17 24 (by decide) 20 rfl (fun c => ?_) (fun c => ?_)
    · have h := h.1 c
      refine g_iconst hC (0 : Int32) dX3_is_24 25 rfl iconst_0 ?_
      exact g_zret hC hZ rfl dX3_is_25 ⟨_, rfl, rfl, h⟩
    · have h := h.2 c
      refine g_iconst hC (1 : Int32) dX3_is_20 21 rfl iconst_1 ?_
      refine g_goto hC dX3_is_21 25 (by decide) ?_
      exact g_zret hC hZ rfl dX3_is_25 ⟨_, rfl, rfl, h⟩
def wj_X3_match_42 (post : Int32 → Prop) (o : Off) (x1 : Int32) (x2 : Int32) (s0 : Int32) : Prop := ((x1 = x2 → post (0 : Int32)) ∧ (¬ x1 = x2 → (vp_in x1 14 ∧ (vp_in x2 14 ∧ ((¬ (o 2 x1.toNatClampNeg) = (o 2 x2.toNatClampNeg) → post (0 : Int32)) ∧ ((o 2 x1.toNatClampNeg) = (o 2 x2.toNatClampNeg) → ((s0 = 0 → post (0 : Int32)) ∧ (¬ s0 = 0 → post (1 : Int32)))))))))
def wj_X3_match_37 (post : Int32 → Prop) (o : Off) (x1 : Int32) (x2 : Int32) : Prop := wj_X3_match_42 post o x1 x2 (1 : Int32)
def wp_X3_match (post : Int32 → Prop) (o : Off) (p0 : Int32) (p1 : Int32) : Prop := (vp_in p0 14 ∧ (vp_in p1 14 ∧ (((o 1 p0.toNatClampNeg) = (o 1 p1.toNatClampNeg) → wj_X3_match_37 post o p0 p1) ∧ (¬ (o 1 p0.toNatClampNeg) = (o 1 p1.toNatClampNeg) → (vp_in p0 14 ∧ (((o 1 p0.toNatClampNeg) = (119 : Int32) → wj_X3_match_37 post o p0 p1) ∧ (¬ (o 1 p0.toNatClampNeg) = (119 : Int32) → (vp_in p1 14 ∧ ((¬ (o 1 p1.toNatClampNeg) = (119 : Int32) → wj_X3_match_42 post o p0 p1 (0 : Int32)) ∧ ((o 1 p1.toNatClampNeg) = (119 : Int32) → wj_X3_match_37 post o p0 p1))))))))))
set_option maxRecDepth 100000 in
set_option maxHeartbeats 4000000 in
theorem jn_X3_match_42 {x : gX} {l : Launch} {g : gE} {a : Nat → Nat} {o : Off} {post : Int32 → Prop} (hC : gC x l cX3_match 4 RX3 g 0 0 0 0) (hZ : gZ x g (some .boolean) (offW g a o) (pR (offW g a o) post) 0 0) : ∀ (x1 : Int32) (x2 : Int32) (s0 : Int32) , wj_X3_match_42 post o x1 x2 s0 → G x g 4 0 0 (offW g a o) 42 [(0, .ref (a 0)), (1, .int x1), (2, .int x2)] [.int s0] := by
  intro x1 x2 s0 h
  rw [wj_X3_match_42] at h
  refine g_istore_n (lv2 := [(3, .int s0), (0, .ref (a 0)), (1, .int x1), (2, .int x2)]) hC dX3_match_42 43 rfl rfl (by decide) rfl ?_
  refine g_iload_n hC dX3_match_43 44 rfl rfl 2 rfl ?_
  refine g_iload_n hC dX3_match_44 45 rfl rfl 3 rfl ?_
  refine g_icmp_eq hC dX3_match_45 71 (by decide) 48 rfl (fun c => ?_) (fun c => ?_)
  · have h := h.1 c
    refine g_iconst hC (0 : Int32) dX3_match_71 72 rfl iconst_0 ?_
    exact g_zret hC hZ rfl dX3_match_72 ⟨_, rfl, rfl, h⟩
  · have h := h.2 c
    refine g_aload_n hC dX3_match_48 49 rfl rfl 1 rfl ?_
    refine g_get hC fl_X3_15 dX3_match_49 52 rfl 0 rfl rfl ?_
    refine g_iload_n hC dX3_match_52 53 rfl rfl 2 rfl ?_
    obtain ⟨hi, h⟩ := h
    refine g_iald hC dX3_match_53 54 rfl 2 rfl hi ?_
    refine g_aload_n hC dX3_match_54 55 rfl rfl 1 rfl ?_
    refine g_get hC fl_X3_15 dX3_match_55 58 rfl 0 rfl rfl ?_
    refine g_iload_n hC dX3_match_58 59 rfl rfl 3 rfl ?_
    obtain ⟨hi, h⟩ := h
    refine g_iald hC dX3_match_59 60 rfl 2 rfl hi ?_
    refine g_icmp_ne hC dX3_match_60 71 (by decide) 63 rfl (fun c => ?_) (fun c => ?_)
    · have h := h.1 c
      refine g_iconst hC (0 : Int32) dX3_match_71 72 rfl iconst_0 ?_
      exact g_zret hC hZ rfl dX3_match_72 ⟨_, rfl, rfl, h⟩
    · have h := h.2 c
      refine g_iload_n hC dX3_match_63 64 rfl rfl 0 rfl ?_
      refine g_if_eq hC dX3_match_64 71 (by decide) 67 rfl (fun c => ?_) (fun c => ?_)
      · have h := h.1 c
        refine g_iconst hC (0 : Int32) dX3_match_71 72 rfl iconst_0 ?_
        exact g_zret hC hZ rfl dX3_match_72 ⟨_, rfl, rfl, h⟩
      · have h := h.2 c
        refine g_iconst hC (1 : Int32) dX3_match_67 68 rfl iconst_1 ?_
        refine g_goto hC dX3_match_68 72 (by decide) ?_
        exact g_zret hC hZ rfl dX3_match_72 ⟨_, rfl, rfl, h⟩
set_option maxRecDepth 100000 in
set_option maxHeartbeats 4000000 in
theorem jn_X3_match_37 {x : gX} {l : Launch} {g : gE} {a : Nat → Nat} {o : Off} {post : Int32 → Prop} (hC : gC x l cX3_match 4 RX3 g 0 0 0 0) (hZ : gZ x g (some .boolean) (offW g a o) (pR (offW g a o) post) 0 0) : ∀ (x1 : Int32) (x2 : Int32) , wj_X3_match_37 post o x1 x2 → G x g 4 0 0 (offW g a o) 37 [(0, .ref (a 0)), (1, .int x1), (2, .int x2)] [] := by
  intro x1 x2 h
  rw [wj_X3_match_37] at h
  refine g_iconst hC (1 : Int32) dX3_match_37 38 rfl iconst_1 ?_
  refine g_goto hC dX3_match_38 42 (by decide) ?_
  exact jn_X3_match_42 hC hZ x1 x2 (1 : Int32) h
set_option maxRecDepth 100000 in
set_option maxHeartbeats 4000000 in
theorem ct_X3_match (l : Launch) (g : gE) (a : Nat → Nat) (o : Off) (p0 : Int32) (p1 : Int32) (post : Int32 → Prop) (h : wp_X3_match post o p0 p1) : Fn l g yX3_match cX3_match 4 (some .boolean) 0 0 0 0 (offW g a o) [.ref (a 0), .int p0, .int p1] (pR (offW g a o) post) := by
  refine Fn.of (by decide) (Nat.le_of_ble_eq_true rfl) (fun x hC hZ => ?_)
  rw [wp_X3_match] at h
  show G x g 4 0 0 (offW g a o) 0 [(0, .ref (a 0)), (1, .int p0), (2, .int p1)] []
  refine g_aload_n hC dX3_match_0 1 rfl rfl 0 rfl ?_
  refine g_get hC fl_X3_9 dX3_match_1 4 rfl 0 rfl rfl ?_
  refine g_iload_n hC dX3_match_4 5 rfl rfl 1 rfl ?_
  obtain ⟨hi, h⟩ := h
  refine g_iald hC dX3_match_5 6 rfl 1 rfl hi ?_
  refine g_aload_n hC dX3_match_6 7 rfl rfl 0 rfl ?_
  refine g_get hC fl_X3_9 dX3_match_7 10 rfl 0 rfl rfl ?_
  refine g_iload_n hC dX3_match_10 11 rfl rfl 2 rfl ?_
  obtain ⟨hi, h⟩ := h
  refine g_iald hC dX3_match_11 12 rfl 1 rfl hi ?_
  refine g_icmp_eq hC dX3_match_12 37 (by decide) 15 rfl (fun c => ?_) (fun c => ?_)
  · have h := h.1 c
    exact jn_X3_match_37 hC hZ p0 p1 h
  · have h := h.2 c
    refine g_aload_n hC dX3_match_15 16 rfl rfl 0 rfl ?_
    refine g_get hC fl_X3_9 dX3_match_16 19 rfl 0 rfl rfl ?_
    refine g_iload_n hC dX3_match_19 20 rfl rfl 1 rfl ?_
    obtain ⟨hi, h⟩ := h
    refine g_iald hC dX3_match_20 21 rfl 1 rfl hi ?_
    refine g_bipush hC (119 : Int32) dX3_match_21 23 rfl bipush_119 ?_
    refine g_icmp_eq hC dX3_match_23 37 (by decide) 26 rfl (fun c => ?_) (fun c => ?_)
    · have h := h.1 c
      exact jn_X3_match_37 hC hZ p0 p1 h
    · have h := h.2 c
      refine g_aload_n hC dX3_match_26 27 rfl rfl 0 rfl ?_
      refine g_get hC fl_X3_9 dX3_match_27 30 rfl 0 rfl rfl ?_
      refine g_iload_n hC dX3_match_30 31 rfl rfl 2 rfl ?_
      obtain ⟨hi, h⟩ := h
      refine g_iald hC dX3_match_31 32 rfl 1 rfl hi ?_
      refine g_bipush hC (119 : Int32) dX3_match_32 34 rfl bipush_119 ?_
      refine g_icmp_ne hC dX3_match_34 41 (by decide) 37 rfl (fun c => ?_) (fun c => ?_)
      · have h := h.1 c
        refine g_iconst hC (0 : Int32) dX3_match_41 42 rfl iconst_0 ?_
        exact jn_X3_match_42 hC hZ p0 p1 (0 : Int32) h
      · have h := h.2 c
        exact jn_X3_match_37 hC hZ p0 p1 h
def wl_X3_countOf_5 (post : Int32 → Prop) (o : Off) : Nat → Int32 → Int32 → Int32 → Int32 → Prop
  | 0, _, _, _, _ => False
  | n + 1, x1, x2, x3, x4 => (((o 0 0) ≤ x4 → post x3) ∧ (¬ (o 0 0) ≤ x4 → (vp_in x4 14 ∧ ((¬ (o 3 x4.toNatClampNeg) = x1 → (∀ v1 : Int32, v1 = x4 + (1 : Int32) → wl_X3_countOf_5 post o n x1 x2 x3 v1)) ∧ ((o 3 x4.toNatClampNeg) = x1 → (vp_in x4 14 ∧ ((¬ (o 4 x4.toNatClampNeg) = x2 → (∀ v2 : Int32, v2 = x4 + (1 : Int32) → wl_X3_countOf_5 post o n x1 x2 x3 v2)) ∧ ((o 4 x4.toNatClampNeg) = x2 → (∀ v3 : Int32, v3 = x3 + (1 : Int32) → (∀ v4 : Int32, v4 = x4 + (1 : Int32) → wl_X3_countOf_5 post o n x1 x2 v3 v4))))))))))
def wp_X3_countOf (post : Int32 → Prop) (o : Off) (p0 : Int32) (p1 : Int32) : Prop := (∃ m : Nat, wl_X3_countOf_5 post o m p0 p1 (0 : Int32) (0 : Int32))
set_option maxRecDepth 100000 in
set_option maxHeartbeats 4000000 in
theorem lp_X3_countOf_5 {x : gX} {l : Launch} {g : gE} {a : Nat → Nat} {o : Off} {post : Int32 → Prop} (hC : gC x l cX3_countOf 5 RX3 g 0 0 0 0) (hZ : gZ x g (some .int) (offW g a o) (pR (offW g a o) post) 0 0) : ∀ (n : Nat) (x1 : Int32) (x2 : Int32) (x3 : Int32) (x4 : Int32) , wl_X3_countOf_5 post o n x1 x2 x3 x4 → G x g 5 0 0 (offW g a o) 5 [(0, .ref (a 0)), (1, .int x1), (2, .int x2), (3, .int x3), (4, .int x4)] [] := by
  intro n
  induction n with
  | zero =>
    intro x1 x2 x3 x4 h
    exact h.elim
  | succ n ih =>
    intro x1 x2 x3 x4 h
    rw [wl_X3_countOf_5] at h
    refine g_iload hC dX3_countOf_5 7 rfl 4 rfl ?_
    refine g_aload_n hC dX3_countOf_7 8 rfl rfl 0 rfl ?_
    refine g_get hC fl_X3_45 dX3_countOf_8 11 rfl 0 rfl rfl ?_
    refine g_icmp_ge hC dX3_countOf_11 45 (by decide) 14 rfl (fun c => ?_) (fun c => ?_)
    · have h := h.1 c
      refine g_iload_n hC dX3_countOf_45 46 rfl rfl 3 rfl ?_
      exact g_iret hC hZ dX3_countOf_46 ⟨_, rfl, rfl, h⟩
    · have h := h.2 c
      refine g_aload_n hC dX3_countOf_14 15 rfl rfl 0 rfl ?_
      refine g_get hC fl_X3_18 dX3_countOf_15 18 rfl 0 rfl rfl ?_
      refine g_iload hC dX3_countOf_18 20 rfl 4 rfl ?_
      obtain ⟨hi, h⟩ := h
      refine g_iald hC dX3_countOf_20 21 rfl 3 rfl hi ?_
      refine g_iload_n hC dX3_countOf_21 22 rfl rfl 1 rfl ?_
      refine g_icmp_ne hC dX3_countOf_22 39 (by decide) 25 rfl (fun c => ?_) (fun c => ?_)
      · have h := h.1 c
        obtain ⟨v1, ev1⟩ : ∃ y : Int32, y = x4 + (1 : Int32) := ⟨_, rfl⟩
        have h := h v1 ev1
        refine g_iinc (v2 := v1) (lv2 := [(4, .int v1), (0, .ref (a 0)), (1, .int x1), (2, .int x2), (3, .int x3)]) hC dX3_countOf_39 42 rfl 4 rfl (by rw [iconst_1, ev1]) (by decide) rfl ?_
        refine g_goto hC dX3_countOf_42 5 (by decide) ?_
        refine g_lv (lv2 := [(0, .ref (a 0)), (1, .int x1), (2, .int x2), (3, .int x3), (4, .int v1)]) [1, 2, 3, 4, 0] rfl ?_
        exact ih x1 x2 x3 v1 h
      · have h := h.2 c
        refine g_aload_n hC dX3_countOf_25 26 rfl rfl 0 rfl ?_
        refine g_get hC fl_X3_21 dX3_countOf_26 29 rfl 0 rfl rfl ?_
        refine g_iload hC dX3_countOf_29 31 rfl 4 rfl ?_
        obtain ⟨hi, h⟩ := h
        refine g_iald hC dX3_countOf_31 32 rfl 4 rfl hi ?_
        refine g_iload_n hC dX3_countOf_32 33 rfl rfl 2 rfl ?_
        refine g_icmp_ne hC dX3_countOf_33 39 (by decide) 36 rfl (fun c => ?_) (fun c => ?_)
        · have h := h.1 c
          obtain ⟨v2, ev2⟩ : ∃ y : Int32, y = x4 + (1 : Int32) := ⟨_, rfl⟩
          have h := h v2 ev2
          refine g_iinc (v2 := v2) (lv2 := [(4, .int v2), (0, .ref (a 0)), (1, .int x1), (2, .int x2), (3, .int x3)]) hC dX3_countOf_39 42 rfl 4 rfl (by rw [iconst_1, ev2]) (by decide) rfl ?_
          refine g_goto hC dX3_countOf_42 5 (by decide) ?_
          refine g_lv (lv2 := [(0, .ref (a 0)), (1, .int x1), (2, .int x2), (3, .int x3), (4, .int v2)]) [1, 2, 3, 4, 0] rfl ?_
          exact ih x1 x2 x3 v2 h
        · have h := h.2 c
          obtain ⟨v3, ev3⟩ : ∃ y : Int32, y = x3 + (1 : Int32) := ⟨_, rfl⟩
          have h := h v3 ev3
          refine g_iinc (v2 := v3) (lv2 := [(3, .int v3), (0, .ref (a 0)), (1, .int x1), (2, .int x2), (4, .int x4)]) hC dX3_countOf_36 39 rfl 3 rfl (by rw [iconst_1, ev3]) (by decide) rfl ?_
          obtain ⟨v4, ev4⟩ : ∃ y : Int32, y = x4 + (1 : Int32) := ⟨_, rfl⟩
          have h := h v4 ev4
          refine g_iinc (v2 := v4) (lv2 := [(4, .int v4), (3, .int v3), (0, .ref (a 0)), (1, .int x1), (2, .int x2)]) hC dX3_countOf_39 42 rfl 4 rfl (by rw [iconst_1, ev4]) (by decide) rfl ?_
          refine g_goto hC dX3_countOf_42 5 (by decide) ?_
          refine g_lv (lv2 := [(0, .ref (a 0)), (1, .int x1), (2, .int x2), (3, .int v3), (4, .int v4)]) [2, 3, 4, 1, 0] rfl ?_
          exact ih x1 x2 v3 v4 h
set_option maxRecDepth 100000 in
set_option maxHeartbeats 4000000 in
theorem ct_X3_countOf (l : Launch) (g : gE) (a : Nat → Nat) (o : Off) (p0 : Int32) (p1 : Int32) (post : Int32 → Prop) (h : wp_X3_countOf post o p0 p1) : Fn l g yX3_countOf cX3_countOf 5 (some .int) 0 0 0 0 (offW g a o) [.ref (a 0), .int p0, .int p1] (pR (offW g a o) post) := by
  refine Fn.of (by decide) (Nat.le_of_ble_eq_true rfl) (fun x hC hZ => ?_)
  rw [wp_X3_countOf] at h
  show G x g 5 0 0 (offW g a o) 0 [(0, .ref (a 0)), (1, .int p0), (2, .int p1)] []
  refine g_iconst hC (0 : Int32) dX3_countOf_0 1 rfl iconst_0 ?_
  refine g_istore_n (lv2 := [(3, .int (0 : Int32)), (0, .ref (a 0)), (1, .int p0), (2, .int p1)]) hC dX3_countOf_1 2 rfl rfl (by decide) rfl ?_
  refine g_iconst hC (0 : Int32) dX3_countOf_2 3 rfl iconst_0 ?_
  refine g_istore (lv2 := [(4, .int (0 : Int32)), (3, .int (0 : Int32)), (0, .ref (a 0)), (1, .int p0), (2, .int p1)]) hC dX3_countOf_3 5 rfl (by decide) rfl ?_
  refine g_lv (lv2 := [(0, .ref (a 0)), (1, .int p0), (2, .int p1), (3, .int (0 : Int32)), (4, .int (0 : Int32))]) [2, 3, 4, 1, 0] rfl ?_
  obtain ⟨m, h⟩ := h
  exact lp_X3_countOf_5 hC hZ m p0 p1 (0 : Int32) (0 : Int32) h
def wl_X3_resident_5 (post : Int32 → Prop) (o : Off) : Nat → Int32 → Int32 → Int32 → Int32 → Prop
  | 0, _, _, _, _ => False
  | n + 1, x1, x2, x3, x4 => (((o 0 0) ≤ x4 → post (-1 : Int32)) ∧ (¬ (o 0 0) ≤ x4 → wp_X3_is (fun v1 => ((v1 = 0 → (∀ v2 : Int32, v2 = x4 + (1 : Int32) → wl_X3_resident_5 post o n x1 x2 x3 v2)) ∧ (¬ v1 = 0 → ((¬ x3 = x2 → (∀ v3 : Int32, v3 = x3 + (1 : Int32) → (∀ v4 : Int32, v4 = x4 + (1 : Int32) → wl_X3_resident_5 post o n x1 x2 v3 v4))) ∧ (x3 = x2 → post x4))))) o x4 (3 : Int32) x1))
def wp_X3_resident (post : Int32 → Prop) (o : Off) (p0 : Int32) (p1 : Int32) : Prop := (∃ m : Nat, wl_X3_resident_5 post o m p0 p1 (0 : Int32) (0 : Int32))
set_option maxRecDepth 100000 in
set_option maxHeartbeats 4000000 in
theorem lp_X3_resident_5 {x : gX} {l : Launch} {g : gE} {a : Nat → Nat} {o : Off} {post : Int32 → Prop} (hC : gC x l cX3_resident 5 RX3 g 1 23 0 0) (hZ : gZ x g (some .int) (offW g a o) (pR (offW g a o) post) 0 0) : ∀ (n : Nat) (x1 : Int32) (x2 : Int32) (x3 : Int32) (x4 : Int32) , wl_X3_resident_5 post o n x1 x2 x3 x4 → G x g 5 0 0 (offW g a o) 5 [(0, .ref (a 0)), (1, .int x1), (2, .int x2), (3, .int x3), (4, .int x4)] [] := by
  intro n
  induction n with
  | zero =>
    intro x1 x2 x3 x4 h
    exact h.elim
  | succ n ih =>
    intro x1 x2 x3 x4 h
    rw [wl_X3_resident_5] at h
    refine g_iload hC dX3_resident_5 7 rfl 4 rfl ?_
    refine g_aload_n hC dX3_resident_7 8 rfl rfl 0 rfl ?_
    refine g_get hC fl_X3_45 dX3_resident_8 11 rfl 0 rfl rfl ?_
    refine g_icmp_ge hC dX3_resident_11 42 (by decide) 14 rfl (fun c => ?_) (fun c => ?_)
    · have h := h.1 c
      refine g_iconst hC (-1 : Int32) dX3_resident_42 43 rfl iconst_m1 ?_
      exact g_iret hC hZ dX3_resident_43 ⟨_, rfl, rfl, h⟩
    · have h := h.2 c
      refine g_aload_n hC dX3_resident_14 15 rfl rfl 0 rfl ?_
      refine g_iload hC dX3_resident_15 17 rfl 4 rfl ?_
      refine g_iconst hC (3 : Int32) dX3_resident_17 18 rfl iconst_3 ?_
      refine g_iload_n hC dX3_resident_18 19 rfl rfl 1 rfl ?_
      refine g_readV hC (ct_X3_is l g a o x4 (3 : Int32) x1 _ h) gY_X3_is dX3_resident_19 22 rfl ml_X3_77 [] [] (by simp only [List.nil_append, List.append_nil]) [] rfl rfl rfl 0 7 rfl rfl ⟨Nat.le_of_ble_eq_true rfl, Nat.le_of_ble_eq_true rfl⟩ (Nat.le_of_ble_eq_true rfl) ⟨Nat.le_refl _, Nat.le_refl _⟩ (fun v1 h => ?_)
      refine g_if_eq hC dX3_resident_22 36 (by decide) 25 rfl (fun c => ?_) (fun c => ?_)
      · have h := h.1 c
        obtain ⟨v2, ev2⟩ : ∃ y : Int32, y = x4 + (1 : Int32) := ⟨_, rfl⟩
        have h := h v2 ev2
        refine g_iinc (v2 := v2) (lv2 := [(4, .int v2), (0, .ref (a 0)), (1, .int x1), (2, .int x2), (3, .int x3)]) hC dX3_resident_36 39 rfl 4 rfl (by rw [iconst_1, ev2]) (by decide) rfl ?_
        refine g_goto hC dX3_resident_39 5 (by decide) ?_
        refine g_lv (lv2 := [(0, .ref (a 0)), (1, .int x1), (2, .int x2), (3, .int x3), (4, .int v2)]) [1, 2, 3, 4, 0] rfl ?_
        exact ih x1 x2 x3 v2 h
      · have h := h.2 c
        refine g_iload_n hC dX3_resident_25 26 rfl rfl 3 rfl ?_
        refine g_iload_n hC dX3_resident_26 27 rfl rfl 2 rfl ?_
        refine g_icmp_ne hC dX3_resident_27 33 (by decide) 30 rfl (fun c => ?_) (fun c => ?_)
        · have h := h.1 c
          obtain ⟨v3, ev3⟩ : ∃ y : Int32, y = x3 + (1 : Int32) := ⟨_, rfl⟩
          have h := h v3 ev3
          refine g_iinc (v2 := v3) (lv2 := [(3, .int v3), (0, .ref (a 0)), (1, .int x1), (2, .int x2), (4, .int x4)]) hC dX3_resident_33 36 rfl 3 rfl (by rw [iconst_1, ev3]) (by decide) rfl ?_
          obtain ⟨v4, ev4⟩ : ∃ y : Int32, y = x4 + (1 : Int32) := ⟨_, rfl⟩
          have h := h v4 ev4
          refine g_iinc (v2 := v4) (lv2 := [(4, .int v4), (3, .int v3), (0, .ref (a 0)), (1, .int x1), (2, .int x2)]) hC dX3_resident_36 39 rfl 4 rfl (by rw [iconst_1, ev4]) (by decide) rfl ?_
          refine g_goto hC dX3_resident_39 5 (by decide) ?_
          refine g_lv (lv2 := [(0, .ref (a 0)), (1, .int x1), (2, .int x2), (3, .int v3), (4, .int v4)]) [2, 3, 4, 1, 0] rfl ?_
          exact ih x1 x2 v3 v4 h
        · have h := h.2 c
          refine g_iload hC dX3_resident_30 32 rfl 4 rfl ?_
          exact g_iret hC hZ dX3_resident_32 ⟨_, rfl, rfl, h⟩
set_option maxRecDepth 100000 in
set_option maxHeartbeats 4000000 in
theorem ct_X3_resident (l : Launch) (g : gE) (a : Nat → Nat) (o : Off) (p0 : Int32) (p1 : Int32) (post : Int32 → Prop) (h : wp_X3_resident post o p0 p1) : Fn l g yX3_resident cX3_resident 5 (some .int) 1 23 0 0 (offW g a o) [.ref (a 0), .int p0, .int p1] (pR (offW g a o) post) := by
  refine Fn.of (by decide) (Nat.le_of_ble_eq_true rfl) (fun x hC hZ => ?_)
  rw [wp_X3_resident] at h
  show G x g 5 0 0 (offW g a o) 0 [(0, .ref (a 0)), (1, .int p0), (2, .int p1)] []
  refine g_iconst hC (0 : Int32) dX3_resident_0 1 rfl iconst_0 ?_
  refine g_istore_n (lv2 := [(3, .int (0 : Int32)), (0, .ref (a 0)), (1, .int p0), (2, .int p1)]) hC dX3_resident_1 2 rfl rfl (by decide) rfl ?_
  refine g_iconst hC (0 : Int32) dX3_resident_2 3 rfl iconst_0 ?_
  refine g_istore (lv2 := [(4, .int (0 : Int32)), (3, .int (0 : Int32)), (0, .ref (a 0)), (1, .int p0), (2, .int p1)]) hC dX3_resident_3 5 rfl (by decide) rfl ?_
  refine g_lv (lv2 := [(0, .ref (a 0)), (1, .int p0), (2, .int p1), (3, .int (0 : Int32)), (4, .int (0 : Int32))]) [2, 3, 4, 1, 0] rfl ?_
  obtain ⟨m, h⟩ := h
  exact lp_X3_resident_5 hC hZ m p0 p1 (0 : Int32) (0 : Int32) h
def wp_X3_hasRoom (post : Int32 → Prop) (o : Off) (p0 : Int32) : Prop := wp_X3_countOf (fun v1 => (vp_in p0 5 ∧ (((o 9 p0.toNatClampNeg) ≤ v1 → post (0 : Int32)) ∧ (¬ (o 9 p0.toNatClampNeg) ≤ v1 → post (1 : Int32))))) o (3 : Int32) p0
set_option maxRecDepth 100000 in
set_option maxHeartbeats 4000000 in
theorem ct_X3_hasRoom (l : Launch) (g : gE) (a : Nat → Nat) (o : Off) (p0 : Int32) (post : Int32 → Prop) (h : wp_X3_hasRoom post o p0) : Fn l g yX3_hasRoom cX3_hasRoom 2 (some .boolean) 1 24 0 0 (offW g a o) [.ref (a 0), .int p0] (pR (offW g a o) post) := by
  refine Fn.of (by decide) (Nat.le_of_ble_eq_true rfl) (fun x hC hZ => ?_)
  rw [wp_X3_hasRoom] at h
  show G x g 2 0 0 (offW g a o) 0 [(0, .ref (a 0)), (1, .int p0)] []
  refine g_aload_n hC dX3_hasRoom_0 1 rfl rfl 0 rfl ?_
  refine g_iconst hC (3 : Int32) dX3_hasRoom_1 2 rfl iconst_3 ?_
  refine g_iload_n hC dX3_hasRoom_2 3 rfl rfl 1 rfl ?_
  refine g_readV hC (ct_X3_countOf l g a o (3 : Int32) p0 _ h) gY_X3_countOf dX3_hasRoom_3 6 rfl ml_X3_81 [] [] (by simp only [List.nil_append, List.append_nil]) [] rfl rfl rfl 0 7 rfl rfl ⟨Nat.le_of_ble_eq_true rfl, Nat.le_of_ble_eq_true rfl⟩ (Nat.le_of_ble_eq_true rfl) ⟨Nat.le_refl _, Nat.le_refl _⟩ (fun v1 h => ?_)
  refine g_aload_n hC dX3_hasRoom_6 7 rfl rfl 0 rfl ?_
  refine g_get hC fl_X3_36 dX3_hasRoom_7 10 rfl 0 rfl rfl ?_
  refine g_iload_n hC dX3_hasRoom_10 11 rfl rfl 1 rfl ?_
  obtain ⟨hi, h⟩ := h
  refine g_iald hC dX3_hasRoom_11 12 rfl 9 rfl hi ?_
  refine g_icmp_ge hC dX3_hasRoom_12 19 (by decide) 15 rfl (fun c => ?_) (fun c => ?_)
  · have h := h.1 c
    refine g_iconst hC (0 : Int32) dX3_hasRoom_19 20 rfl iconst_0 ?_
    exact g_zret hC hZ rfl dX3_hasRoom_20 ⟨_, rfl, rfl, h⟩
  · have h := h.2 c
    refine g_iconst hC (1 : Int32) dX3_hasRoom_15 16 rfl iconst_1 ?_
    refine g_goto hC dX3_hasRoom_16 20 (by decide) ?_
    exact g_zret hC hZ rfl dX3_hasRoom_20 ⟨_, rfl, rfl, h⟩
def wp_X3_hasBit (post : Int32 → Prop) (p0 : Int32) (p1 : Int32) : Prop := ((¬ ((p0 >>> (p1 &&& 31)) &&& (1 : Int32)) = (1 : Int32) → post (0 : Int32)) ∧ (((p0 >>> (p1 &&& 31)) &&& (1 : Int32)) = (1 : Int32) → post (1 : Int32)))
set_option maxRecDepth 100000 in
set_option maxHeartbeats 4000000 in
theorem ct_X3_hasBit (l : Launch) (g : gE) (p0 : Int32) (p1 : Int32) (post : Int32 → Prop) (h : wp_X3_hasBit post p0 p1) : Fn l g yX3_hasBit cX3_hasBit 2 (some .boolean) 0 0 0 0 [] [.int p0, .int p1] (pR [] post) := by
  refine Fn.of (by decide) (Nat.le_of_ble_eq_true rfl) (fun x hC hZ => ?_)
  rw [wp_X3_hasBit] at h
  show G x g 2 0 0 [] 0 [(0, .int p0), (1, .int p1)] []
  refine g_iload_n hC dX3_hasBit_0 1 rfl rfl 0 rfl ?_
  refine g_iload_n hC dX3_hasBit_1 2 rfl rfl 1 rfl ?_
  refine g_ishr hC dX3_hasBit_2 3 rfl ?_
  refine g_iconst hC (1 : Int32) dX3_hasBit_3 4 rfl iconst_1 ?_
  refine g_iand hC dX3_hasBit_4 5 rfl ?_
  refine g_iconst hC (1 : Int32) dX3_hasBit_5 6 rfl iconst_1 ?_
  refine g_icmp_ne hC dX3_hasBit_6 13 (by decide) 9 rfl (fun c => ?_) (fun c => ?_)
  · have h := h.1 c
    refine g_iconst hC (0 : Int32) dX3_hasBit_13 14 rfl iconst_0 ?_
    exact g_zret hC hZ rfl dX3_hasBit_14 ⟨_, rfl, rfl, h⟩
  · have h := h.2 c
    refine g_iconst hC (1 : Int32) dX3_hasBit_9 10 rfl iconst_1 ?_
    refine g_goto hC dX3_hasBit_10 14 (by decide) ?_
    exact g_zret hC hZ rfl dX3_hasBit_14 ⟨_, rfl, rfl, h⟩
def wp_X3_bans (post : Int32 → Prop) (o : Off) (p0 : Int32) (p1 : Int32) : Prop := (vp_in p0 5 ∧ wp_J0_indexOf_0f7a4 (fun v1 => wp_X3_hasBit (fun v2 => (isB v2 ∧ post v2)) (o 10 p0.toNatClampNeg) v1) [114, 103, 98, 119] p1)
set_option maxRecDepth 100000 in
set_option maxHeartbeats 4000000 in
theorem ct_X3_bans (l : Launch) (g : gE) (a : Nat → Nat) (o : Off) (p0 : Int32) (p1 : Int32) (post : Int32 → Prop) (h : wp_X3_bans post o p0 p1) : Fn l g yX3_bans cX3_bans 3 (some .boolean) 4 91 0 0 (offW g a o) [.ref (a 0), .int p0, .int p1] (pR (offW g a o) post) := by
  refine Fn.of (by decide) (Nat.le_of_ble_eq_true rfl) (fun x hC hZ => ?_)
  rw [wp_X3_bans] at h
  show G x g 3 0 0 (offW g a o) 0 [(0, .ref (a 0)), (1, .int p0), (2, .int p1)] []
  refine g_aload_n hC dX3_bans_0 1 rfl rfl 0 rfl ?_
  refine g_get hC fl_X3_39 dX3_bans_1 4 rfl 0 rfl rfl ?_
  refine g_iload_n hC dX3_bans_4 5 rfl rfl 1 rfl ?_
  obtain ⟨hi, h⟩ := h
  refine g_iald hC dX3_bans_5 6 rfl 10 rfl hi ?_
  refine g_litS (i := 0) hC rfl dX3_bans_6 8 rfl ?_
  refine g_iload_n hC dX3_bans_8 9 rfl rfl 2 rfl ?_
  refine g_callL hC rfl (by decide) (ct_J0_indexOf_0f7a4 l g 0 [114, 103, 98, 119] rfl (by decide) p1 _ h) gY_J0_indexOf_0f7a4 dX3_bans_9 12 rfl ml_X3_86 [.int (o 10 p0.toNatClampNeg)] rfl rfl rfl rfl ⟨Nat.le_of_ble_eq_true rfl, Nat.le_of_ble_eq_true rfl⟩ (Nat.le_of_ble_eq_true rfl) ⟨Nat.le_refl _, Nat.le_refl _⟩ (fun v1 h => ?_)
  refine g_readS hC (ct_X3_hasBit l g (o 10 p0.toNatClampNeg) v1 _ h) gY_X3_hasBit dX3_bans_12 15 rfl ml_X3_92 [] _ rfl [] rfl rfl ⟨Nat.le_of_ble_eq_true rfl, Nat.le_of_ble_eq_true rfl⟩ (Nat.le_of_ble_eq_true rfl) ⟨Nat.le_refl _, Nat.le_refl _⟩ (fun v2 h => ?_)
  obtain ⟨hb, h⟩ := h
  exact g_zret hC hZ (isB_n hb) dX3_bans_15 ⟨_, rfl, rfl, h⟩
def wp_X3_add (post : Int32 → Off → Prop) (o : Off) (p0 : Int32) (p1 : Int32) : Prop := (∀ v1 : Int32, v1 = (o 0 0) → (vp_in v1 14 ∧ (∀ o2 : Off, o2 = st o 1 v1.toNatClampNeg p0 → (vp_in v1 14 ∧ (∀ o3 : Off, o3 = st o2 2 v1.toNatClampNeg p1 → (vp_in v1 14 ∧ (∀ o4 : Off, o4 = st o3 3 v1.toNatClampNeg (0 : Int32) → (vp_in v1 14 ∧ (∀ o5 : Off, o5 = st o4 8 v1.toNatClampNeg (-1 : Int32) → (∀ o6 : Off, o6 = st o5 0 0 ((o5 0 0) + (1 : Int32)) → post v1 o6))))))))))
set_option maxRecDepth 100000 in
set_option maxHeartbeats 4000000 in
theorem ct_X3_add (l : Launch) (g : gE) (a : Nat → Nat) (o : Off) (p0 : Int32) (p1 : Int32) (post : Int32 → Off → Prop) (h : wp_X3_add post o p0 p1) : Fn l g yX3_add cX3_add 4 (some .int) 0 0 0 0 (offW g a o) [.ref (a 0), .int p0, .int p1] (pI (offW g a) post) := by
  refine Fn.of (by decide) (Nat.le_of_ble_eq_true rfl) (fun x hC hZ => ?_)
  rw [wp_X3_add] at h
  show G x g 4 0 0 (offW g a o) 0 [(0, .ref (a 0)), (1, .int p0), (2, .int p1)] []
  refine g_aload_n hC dX3_add_0 1 rfl rfl 0 rfl ?_
  refine g_get hC fl_X3_45 dX3_add_1 4 rfl 0 rfl rfl ?_
  refine g_topi (fun v1 ev1 => ?_)
  have h := h v1 ev1
  refine g_istore_n (lv2 := [(3, .int v1), (0, .ref (a 0)), (1, .int p0), (2, .int p1)]) hC dX3_add_4 5 rfl rfl (by decide) rfl ?_
  refine g_aload_n hC dX3_add_5 6 rfl rfl 1 rfl ?_
  refine g_get hC fl_X3_9 dX3_add_6 9 rfl 0 rfl rfl ?_
  refine g_iload_n hC dX3_add_9 10 rfl rfl 0 rfl ?_
  refine g_iload_n hC dX3_add_10 11 rfl rfl 2 rfl ?_
  obtain ⟨hi, h⟩ := h
  obtain ⟨o2, eo2⟩ : ∃ y : Off, y = st o 1 v1.toNatClampNeg p0 := ⟨_, rfl⟩
  have h := h o2 eo2
  refine g_iast hC dX3_add_11 12 rfl 1 rfl hi (offW_s1 eo2) ?_
  refine g_aload_n hC dX3_add_12 13 rfl rfl 1 rfl ?_
  refine g_get hC fl_X3_15 dX3_add_13 16 rfl 0 rfl rfl ?_
  refine g_iload_n hC dX3_add_16 17 rfl rfl 0 rfl ?_
  refine g_iload_n hC dX3_add_17 18 rfl rfl 3 rfl ?_
  obtain ⟨hi, h⟩ := h
  obtain ⟨o3, eo3⟩ : ∃ y : Off, y = st o2 2 v1.toNatClampNeg p1 := ⟨_, rfl⟩
  have h := h o3 eo3
  refine g_iast hC dX3_add_18 19 rfl 2 rfl hi (offW_s2 eo3) ?_
  refine g_aload_n hC dX3_add_19 20 rfl rfl 1 rfl ?_
  refine g_get hC fl_X3_18 dX3_add_20 23 rfl 0 rfl rfl ?_
  refine g_iload_n hC dX3_add_23 24 rfl rfl 0 rfl ?_
  refine g_iconst hC (0 : Int32) dX3_add_24 25 rfl iconst_0 ?_
  obtain ⟨hi, h⟩ := h
  obtain ⟨o4, eo4⟩ : ∃ y : Off, y = st o3 3 v1.toNatClampNeg (0 : Int32) := ⟨_, rfl⟩
  have h := h o4 eo4
  refine g_iast hC dX3_add_25 26 rfl 3 rfl hi (offW_s3 eo4) ?_
  refine g_aload_n hC dX3_add_26 27 rfl rfl 1 rfl ?_
  refine g_get hC fl_X3_33 dX3_add_27 30 rfl 0 rfl rfl ?_
  refine g_iload_n hC dX3_add_30 31 rfl rfl 0 rfl ?_
  refine g_iconst hC (-1 : Int32) dX3_add_31 32 rfl iconst_m1 ?_
  obtain ⟨hi, h⟩ := h
  obtain ⟨o5, eo5⟩ : ∃ y : Off, y = st o4 8 v1.toNatClampNeg (-1 : Int32) := ⟨_, rfl⟩
  have h := h o5 eo5
  refine g_iast hC dX3_add_32 33 rfl 8 rfl hi (offW_s8 eo5) ?_
  refine g_aload_n hC dX3_add_33 34 rfl rfl 1 rfl ?_
  refine g_dup hC dX3_add_34 35 rfl rfl ?_
  refine g_get hC fl_X3_45 dX3_add_35 38 rfl 0 rfl rfl ?_
  refine g_iconst hC (1 : Int32) dX3_add_38 39 rfl iconst_1 ?_
  refine g_iadd hC dX3_add_39 40 rfl ?_
  obtain ⟨o6, eo6⟩ : ∃ y : Off, y = st o5 0 0 ((o5 0 0) + (1 : Int32)) := ⟨_, rfl⟩
  have h := h o6 eo6
  refine g_put hC fp_X3_45 dX3_add_40 43 rfl 0 rfl rfl rfl (Nat.le_of_ble_eq_true rfl) (offW_p0 eo6) ?_
  refine g_iload_n hC dX3_add_43 44 rfl rfl 0 rfl ?_
  exact g_iret hC hZ dX3_add_44 ⟨_, _, rfl, rfl, h⟩
def wp_X3_file (post : Int32 → Off → Prop) (o : Off) (p0 : Int32) (p1 : Int32) : Prop := (vp_in p0 14 ∧ (∀ o1 : Off, o1 = st o 3 p0.toNatClampNeg (1 : Int32) → (vp_in p0 14 ∧ (∀ o2 : Off, o2 = st o1 4 p0.toNatClampNeg p1 → (vp_in p0 14 ∧ (∀ o3 : Off, o3 = st o2 5 p0.toNatClampNeg (1 : Int32) → (vp_in p0 14 ∧ (∀ o4 : Off, o4 = st o3 6 p0.toNatClampNeg (o3 0 1) → wp_X3_countOf (fun v5 => post v5 o4) o4 (1 : Int32) p1))))))))
set_option maxRecDepth 100000 in
set_option maxHeartbeats 4000000 in
theorem ct_X3_file (l : Launch) (g : gE) (a : Nat → Nat) (o : Off) (p0 : Int32) (p1 : Int32) (post : Int32 → Off → Prop) (h : wp_X3_file post o p0 p1) : Fn l g yX3_file cX3_file 3 (some .int) 1 24 0 0 (offW g a o) [.ref (a 0), .int p0, .int p1] (pI (offW g a) post) := by
  refine Fn.of (by decide) (Nat.le_of_ble_eq_true rfl) (fun x hC hZ => ?_)
  rw [wp_X3_file] at h
  show G x g 3 0 0 (offW g a o) 0 [(0, .ref (a 0)), (1, .int p0), (2, .int p1)] []
  refine g_aload_n hC dX3_file_0 1 rfl rfl 0 rfl ?_
  refine g_get hC fl_X3_18 dX3_file_1 4 rfl 0 rfl rfl ?_
  refine g_iload_n hC dX3_file_4 5 rfl rfl 1 rfl ?_
  refine g_iconst hC (1 : Int32) dX3_file_5 6 rfl iconst_1 ?_
  obtain ⟨hi, h⟩ := h
  obtain ⟨o1, eo1⟩ : ∃ y : Off, y = st o 3 p0.toNatClampNeg (1 : Int32) := ⟨_, rfl⟩
  have h := h o1 eo1
  refine g_iast hC dX3_file_6 7 rfl 3 rfl hi (offW_s3 eo1) ?_
  refine g_aload_n hC dX3_file_7 8 rfl rfl 0 rfl ?_
  refine g_get hC fl_X3_21 dX3_file_8 11 rfl 0 rfl rfl ?_
  refine g_iload_n hC dX3_file_11 12 rfl rfl 1 rfl ?_
  refine g_iload_n hC dX3_file_12 13 rfl rfl 2 rfl ?_
  obtain ⟨hi, h⟩ := h
  obtain ⟨o2, eo2⟩ : ∃ y : Off, y = st o1 4 p0.toNatClampNeg p1 := ⟨_, rfl⟩
  have h := h o2 eo2
  refine g_iast hC dX3_file_13 14 rfl 4 rfl hi (offW_s4 eo2) ?_
  refine g_aload_n hC dX3_file_14 15 rfl rfl 0 rfl ?_
  refine g_get hC fl_X3_24 dX3_file_15 18 rfl 0 rfl rfl ?_
  refine g_iload_n hC dX3_file_18 19 rfl rfl 1 rfl ?_
  refine g_iconst hC (1 : Int32) dX3_file_19 20 rfl iconst_1 ?_
  obtain ⟨hi, h⟩ := h
  obtain ⟨o3, eo3⟩ : ∃ y : Off, y = st o2 5 p0.toNatClampNeg (1 : Int32) := ⟨_, rfl⟩
  have h := h o3 eo3
  refine g_iast hC dX3_file_20 21 rfl 5 rfl hi (offW_s5 eo3) ?_
  refine g_aload_n hC dX3_file_21 22 rfl rfl 0 rfl ?_
  refine g_get hC fl_X3_27 dX3_file_22 25 rfl 0 rfl rfl ?_
  refine g_iload_n hC dX3_file_25 26 rfl rfl 1 rfl ?_
  refine g_aload_n hC dX3_file_26 27 rfl rfl 0 rfl ?_
  refine g_get hC fl_X3_49 dX3_file_27 30 rfl 0 rfl rfl ?_
  obtain ⟨hi, h⟩ := h
  obtain ⟨o4, eo4⟩ : ∃ y : Off, y = st o3 6 p0.toNatClampNeg (o3 0 1) := ⟨_, rfl⟩
  have h := h o4 eo4
  refine g_iast hC dX3_file_30 31 rfl 6 rfl hi (offW_s6 eo4) ?_
  refine g_aload_n hC dX3_file_31 32 rfl rfl 0 rfl ?_
  refine g_iconst hC (1 : Int32) dX3_file_32 33 rfl iconst_1 ?_
  refine g_iload_n hC dX3_file_33 34 rfl rfl 2 rfl ?_
  refine g_readV hC (ct_X3_countOf l g a o4 (1 : Int32) p1 _ h) gY_X3_countOf dX3_file_34 37 rfl ml_X3_81 [] [] (by simp only [List.nil_append, List.append_nil]) [] rfl rfl rfl 0 7 rfl rfl ⟨Nat.le_of_ble_eq_true rfl, Nat.le_of_ble_eq_true rfl⟩ (Nat.le_of_ble_eq_true rfl) ⟨Nat.le_refl _, Nat.le_refl _⟩ (fun v5 h => ?_)
  exact g_iret hC hZ dX3_file_37 ⟨_, _, rfl, rfl, h⟩
def wp_X3_dropApplication (post : Int32 → Off → Prop) (o : Off) (p0 : Int32) : Prop := (vp_in p0 14 ∧ (∀ o1 : Off, o1 = st o 3 p0.toNatClampNeg (0 : Int32) → (vp_in p0 14 ∧ post (o1 4 p0.toNatClampNeg) o1)))
set_option maxRecDepth 100000 in
set_option maxHeartbeats 4000000 in
theorem ct_X3_dropApplication (l : Launch) (g : gE) (a : Nat → Nat) (o : Off) (p0 : Int32) (post : Int32 → Off → Prop) (h : wp_X3_dropApplication post o p0) : Fn l g yX3_dropApplication cX3_dropApplication 2 (some .int) 0 0 0 0 (offW g a o) [.ref (a 0), .int p0] (pI (offW g a) post) := by
  refine Fn.of (by decide) (Nat.le_of_ble_eq_true rfl) (fun x hC hZ => ?_)
  rw [wp_X3_dropApplication] at h
  show G x g 2 0 0 (offW g a o) 0 [(0, .ref (a 0)), (1, .int p0)] []
  refine g_aload_n hC dX3_dropApplication_0 1 rfl rfl 0 rfl ?_
  refine g_get hC fl_X3_18 dX3_dropApplication_1 4 rfl 0 rfl rfl ?_
  refine g_iload_n hC dX3_dropApplication_4 5 rfl rfl 1 rfl ?_
  refine g_iconst hC (0 : Int32) dX3_dropApplication_5 6 rfl iconst_0 ?_
  obtain ⟨hi, h⟩ := h
  obtain ⟨o1, eo1⟩ : ∃ y : Off, y = st o 3 p0.toNatClampNeg (0 : Int32) := ⟨_, rfl⟩
  have h := h o1 eo1
  refine g_iast hC dX3_dropApplication_6 7 rfl 3 rfl hi (offW_s3 eo1) ?_
  refine g_aload_n hC dX3_dropApplication_7 8 rfl rfl 0 rfl ?_
  refine g_get hC fl_X3_21 dX3_dropApplication_8 11 rfl 0 rfl rfl ?_
  refine g_iload_n hC dX3_dropApplication_11 12 rfl rfl 1 rfl ?_
  obtain ⟨hi, h⟩ := h
  refine g_iald hC dX3_dropApplication_12 13 rfl 4 rfl hi ?_
  exact g_iret hC hZ dX3_dropApplication_13 ⟨_, _, rfl, rfl, h⟩
def wp_X3_raise (post : Int32 → Off → Prop) (o : Off) (p0 : Int32) : Prop := (vp_in p0 14 ∧ (∀ o1 : Off, o1 = st o 3 p0.toNatClampNeg (1 : Int32) → (vp_in p0 14 ∧ (vp_in p0 14 ∧ (∀ o2 : Off, o2 = st o1 5 p0.toNatClampNeg ((o1 5 p0.toNatClampNeg) + (1 : Int32)) → (vp_in p0 14 ∧ (∀ o3 : Off, o3 = st o2 6 p0.toNatClampNeg (o2 0 1) → (vp_in p0 14 ∧ post (o3 5 p0.toNatClampNeg) o3))))))))
set_option maxRecDepth 100000 in
set_option maxHeartbeats 4000000 in
theorem ct_X3_raise (l : Launch) (g : gE) (a : Nat → Nat) (o : Off) (p0 : Int32) (post : Int32 → Off → Prop) (h : wp_X3_raise post o p0) : Fn l g yX3_raise cX3_raise 2 (some .int) 0 0 0 0 (offW g a o) [.ref (a 0), .int p0] (pI (offW g a) post) := by
  refine Fn.of (by decide) (Nat.le_of_ble_eq_true rfl) (fun x hC hZ => ?_)
  rw [wp_X3_raise] at h
  show G x g 2 0 0 (offW g a o) 0 [(0, .ref (a 0)), (1, .int p0)] []
  refine g_aload_n hC dX3_raise_0 1 rfl rfl 0 rfl ?_
  refine g_get hC fl_X3_18 dX3_raise_1 4 rfl 0 rfl rfl ?_
  refine g_iload_n hC dX3_raise_4 5 rfl rfl 1 rfl ?_
  refine g_iconst hC (1 : Int32) dX3_raise_5 6 rfl iconst_1 ?_
  obtain ⟨hi, h⟩ := h
  obtain ⟨o1, eo1⟩ : ∃ y : Off, y = st o 3 p0.toNatClampNeg (1 : Int32) := ⟨_, rfl⟩
  have h := h o1 eo1
  refine g_iast hC dX3_raise_6 7 rfl 3 rfl hi (offW_s3 eo1) ?_
  refine g_aload_n hC dX3_raise_7 8 rfl rfl 0 rfl ?_
  refine g_get hC fl_X3_24 dX3_raise_8 11 rfl 0 rfl rfl ?_
  refine g_iload_n hC dX3_raise_11 12 rfl rfl 1 rfl ?_
  refine g_dup2 hC dX3_raise_12 13 rfl rfl rfl ?_
  obtain ⟨hi, h⟩ := h
  refine g_iald hC dX3_raise_13 14 rfl 5 rfl hi ?_
  refine g_iconst hC (1 : Int32) dX3_raise_14 15 rfl iconst_1 ?_
  refine g_iadd hC dX3_raise_15 16 rfl ?_
  obtain ⟨hi, h⟩ := h
  obtain ⟨o2, eo2⟩ : ∃ y : Off, y = st o1 5 p0.toNatClampNeg ((o1 5 p0.toNatClampNeg) + (1 : Int32)) := ⟨_, rfl⟩
  have h := h o2 eo2
  refine g_iast hC dX3_raise_16 17 rfl 5 rfl hi (offW_s5 eo2) ?_
  refine g_aload_n hC dX3_raise_17 18 rfl rfl 0 rfl ?_
  refine g_get hC fl_X3_27 dX3_raise_18 21 rfl 0 rfl rfl ?_
  refine g_iload_n hC dX3_raise_21 22 rfl rfl 1 rfl ?_
  refine g_aload_n hC dX3_raise_22 23 rfl rfl 0 rfl ?_
  refine g_get hC fl_X3_49 dX3_raise_23 26 rfl 0 rfl rfl ?_
  obtain ⟨hi, h⟩ := h
  obtain ⟨o3, eo3⟩ : ∃ y : Off, y = st o2 6 p0.toNatClampNeg (o2 0 1) := ⟨_, rfl⟩
  have h := h o3 eo3
  refine g_iast hC dX3_raise_26 27 rfl 6 rfl hi (offW_s6 eo3) ?_
  refine g_aload_n hC dX3_raise_27 28 rfl rfl 0 rfl ?_
  refine g_get hC fl_X3_24 dX3_raise_28 31 rfl 0 rfl rfl ?_
  refine g_iload_n hC dX3_raise_31 32 rfl rfl 1 rfl ?_
  obtain ⟨hi, h⟩ := h
  refine g_iald hC dX3_raise_32 33 rfl 5 rfl hi ?_
  exact g_iret hC hZ dX3_raise_33 ⟨_, _, rfl, rfl, h⟩
def wp_X3_isDecidedAhead (post : Int32 → Prop) (o : Off) (p0 : Int32) (p1 : Int32) : Prop := (vp_in p0 14 ∧ (vp_in p1 14 ∧ (((o 5 p0.toNatClampNeg) = (o 5 p1.toNatClampNeg) → (vp_in p0 14 ∧ (vp_in p1 14 ∧ (((o 6 p0.toNatClampNeg) = (o 6 p1.toNatClampNeg) → ((p1 ≤ p0 → post (0 : Int32)) ∧ (¬ p1 ≤ p0 → post (1 : Int32)))) ∧ (¬ (o 6 p0.toNatClampNeg) = (o 6 p1.toNatClampNeg) → (vp_in p0 14 ∧ (vp_in p1 14 ∧ (((o 6 p1.toNatClampNeg) ≤ (o 6 p0.toNatClampNeg) → post (0 : Int32)) ∧ (¬ (o 6 p1.toNatClampNeg) ≤ (o 6 p0.toNatClampNeg) → post (1 : Int32)))))))))) ∧ (¬ (o 5 p0.toNatClampNeg) = (o 5 p1.toNatClampNeg) → (vp_in p0 14 ∧ (vp_in p1 14 ∧ (((o 5 p0.toNatClampNeg) ≤ (o 5 p1.toNatClampNeg) → post (0 : Int32)) ∧ (¬ (o 5 p0.toNatClampNeg) ≤ (o 5 p1.toNatClampNeg) → post (1 : Int32)))))))))
set_option maxRecDepth 100000 in
set_option maxHeartbeats 4000000 in
theorem ct_X3_isDecidedAhead (l : Launch) (g : gE) (a : Nat → Nat) (o : Off) (p0 : Int32) (p1 : Int32) (post : Int32 → Prop) (h : wp_X3_isDecidedAhead post o p0 p1) : Fn l g yX3_isDecidedAhead cX3_isDecidedAhead 3 (some .boolean) 0 0 0 0 (offW g a o) [.ref (a 0), .int p0, .int p1] (pR (offW g a o) post) := by
  refine Fn.of (by decide) (Nat.le_of_ble_eq_true rfl) (fun x hC hZ => ?_)
  rw [wp_X3_isDecidedAhead] at h
  show G x g 3 0 0 (offW g a o) 0 [(0, .ref (a 0)), (1, .int p0), (2, .int p1)] []
  refine g_aload_n hC dX3_isDecidedAhead_0 1 rfl rfl 0 rfl ?_
  refine g_get hC fl_X3_24 dX3_isDecidedAhead_1 4 rfl 0 rfl rfl ?_
  refine g_iload_n hC dX3_isDecidedAhead_4 5 rfl rfl 1 rfl ?_
  obtain ⟨hi, h⟩ := h
  refine g_iald hC dX3_isDecidedAhead_5 6 rfl 5 rfl hi ?_
  refine g_aload_n hC dX3_isDecidedAhead_6 7 rfl rfl 0 rfl ?_
  refine g_get hC fl_X3_24 dX3_isDecidedAhead_7 10 rfl 0 rfl rfl ?_
  refine g_iload_n hC dX3_isDecidedAhead_10 11 rfl rfl 2 rfl ?_
  obtain ⟨hi, h⟩ := h
  refine g_iald hC dX3_isDecidedAhead_11 12 rfl 5 rfl hi ?_
  refine g_icmp_eq hC dX3_isDecidedAhead_12 36 (by decide) 15 rfl (fun c => ?_) (fun c => ?_)
  · have h := h.1 c
    refine g_aload_n hC dX3_isDecidedAhead_36 37 rfl rfl 0 rfl ?_
    refine g_get hC fl_X3_27 dX3_isDecidedAhead_37 40 rfl 0 rfl rfl ?_
    refine g_iload_n hC dX3_isDecidedAhead_40 41 rfl rfl 1 rfl ?_
    obtain ⟨hi, h⟩ := h
    refine g_iald hC dX3_isDecidedAhead_41 42 rfl 6 rfl hi ?_
    refine g_aload_n hC dX3_isDecidedAhead_42 43 rfl rfl 0 rfl ?_
    refine g_get hC fl_X3_27 dX3_isDecidedAhead_43 46 rfl 0 rfl rfl ?_
    refine g_iload_n hC dX3_isDecidedAhead_46 47 rfl rfl 2 rfl ?_
    obtain ⟨hi, h⟩ := h
    refine g_iald hC dX3_isDecidedAhead_47 48 rfl 6 rfl hi ?_
    refine g_icmp_eq hC dX3_isDecidedAhead_48 72 (by decide) 51 rfl (fun c => ?_) (fun c => ?_)
    · have h := h.1 c
      refine g_iload_n hC dX3_isDecidedAhead_72 73 rfl rfl 1 rfl ?_
      refine g_iload_n hC dX3_isDecidedAhead_73 74 rfl rfl 2 rfl ?_
      refine g_icmp_ge hC dX3_isDecidedAhead_74 81 (by decide) 77 rfl (fun c => ?_) (fun c => ?_)
      · have h := h.1 c
        refine g_iconst hC (0 : Int32) dX3_isDecidedAhead_81 82 rfl iconst_0 ?_
        exact g_zret hC hZ rfl dX3_isDecidedAhead_82 ⟨_, rfl, rfl, h⟩
      · have h := h.2 c
        refine g_iconst hC (1 : Int32) dX3_isDecidedAhead_77 78 rfl iconst_1 ?_
        refine g_goto hC dX3_isDecidedAhead_78 82 (by decide) ?_
        exact g_zret hC hZ rfl dX3_isDecidedAhead_82 ⟨_, rfl, rfl, h⟩
    · have h := h.2 c
      refine g_aload_n hC dX3_isDecidedAhead_51 52 rfl rfl 0 rfl ?_
      refine g_get hC fl_X3_27 dX3_isDecidedAhead_52 55 rfl 0 rfl rfl ?_
      refine g_iload_n hC dX3_isDecidedAhead_55 56 rfl rfl 1 rfl ?_
      obtain ⟨hi, h⟩ := h
      refine g_iald hC dX3_isDecidedAhead_56 57 rfl 6 rfl hi ?_
      refine g_aload_n hC dX3_isDecidedAhead_57 58 rfl rfl 0 rfl ?_
      refine g_get hC fl_X3_27 dX3_isDecidedAhead_58 61 rfl 0 rfl rfl ?_
      refine g_iload_n hC dX3_isDecidedAhead_61 62 rfl rfl 2 rfl ?_
      obtain ⟨hi, h⟩ := h
      refine g_iald hC dX3_isDecidedAhead_62 63 rfl 6 rfl hi ?_
      refine g_icmp_ge hC dX3_isDecidedAhead_63 70 (by decide) 66 rfl (fun c => ?_) (fun c => ?_)
      · have h := h.1 c
        refine g_iconst hC (0 : Int32) dX3_isDecidedAhead_70 71 rfl iconst_0 ?_
        exact g_zret hC hZ rfl dX3_isDecidedAhead_71 ⟨_, rfl, rfl, h⟩
      · have h := h.2 c
        refine g_iconst hC (1 : Int32) dX3_isDecidedAhead_66 67 rfl iconst_1 ?_
        refine g_goto hC dX3_isDecidedAhead_67 71 (by decide) ?_
        exact g_zret hC hZ rfl dX3_isDecidedAhead_71 ⟨_, rfl, rfl, h⟩
  · have h := h.2 c
    refine g_aload_n hC dX3_isDecidedAhead_15 16 rfl rfl 0 rfl ?_
    refine g_get hC fl_X3_24 dX3_isDecidedAhead_16 19 rfl 0 rfl rfl ?_
    refine g_iload_n hC dX3_isDecidedAhead_19 20 rfl rfl 1 rfl ?_
    obtain ⟨hi, h⟩ := h
    refine g_iald hC dX3_isDecidedAhead_20 21 rfl 5 rfl hi ?_
    refine g_aload_n hC dX3_isDecidedAhead_21 22 rfl rfl 0 rfl ?_
    refine g_get hC fl_X3_24 dX3_isDecidedAhead_22 25 rfl 0 rfl rfl ?_
    refine g_iload_n hC dX3_isDecidedAhead_25 26 rfl rfl 2 rfl ?_
    obtain ⟨hi, h⟩ := h
    refine g_iald hC dX3_isDecidedAhead_26 27 rfl 5 rfl hi ?_
    refine g_icmp_le hC dX3_isDecidedAhead_27 34 (by decide) 30 rfl (fun c => ?_) (fun c => ?_)
    · have h := h.1 c
      refine g_iconst hC (0 : Int32) dX3_isDecidedAhead_34 35 rfl iconst_0 ?_
      exact g_zret hC hZ rfl dX3_isDecidedAhead_35 ⟨_, rfl, rfl, h⟩
    · have h := h.2 c
      refine g_iconst hC (1 : Int32) dX3_isDecidedAhead_30 31 rfl iconst_1 ?_
      refine g_goto hC dX3_isDecidedAhead_31 35 (by decide) ?_
      exact g_zret hC hZ rfl dX3_isDecidedAhead_35 ⟨_, rfl, rfl, h⟩
def wl_X3_queuedAhead_5 (post : Int32 → Prop) (o : Off) : Nat → Int32 → Int32 → Int32 → Int32 → Prop
  | 0, _, _, _, _ => False
  | n + 1, x1, x2, x3, x4 => (((o 0 0) ≤ x4 → post x3) ∧ (¬ (o 0 0) ≤ x4 → wp_X3_is (fun v1 => ((v1 = 0 → (∀ v2 : Int32, v2 = x4 + (1 : Int32) → wl_X3_queuedAhead_5 post o n x1 x2 x3 v2)) ∧ (¬ v1 = 0 → wp_X3_isDecidedAhead (fun v3 => ((v3 = 0 → (∀ v4 : Int32, v4 = x4 + (1 : Int32) → wl_X3_queuedAhead_5 post o n x1 x2 x3 v4)) ∧ (¬ v3 = 0 → (∀ v5 : Int32, v5 = x3 + (1 : Int32) → (∀ v6 : Int32, v6 = x4 + (1 : Int32) → wl_X3_queuedAhead_5 post o n x1 x2 v5 v6))))) o x4 x1))) o x4 (1 : Int32) x2))
def wp_X3_queuedAhead (post : Int32 → Prop) (o : Off) (p0 : Int32) (p1 : Int32) : Prop := (∃ m : Nat, wl_X3_queuedAhead_5 post o m p0 p1 (0 : Int32) (0 : Int32))
set_option maxRecDepth 100000 in
set_option maxHeartbeats 4000000 in
theorem lp_X3_queuedAhead_5 {x : gX} {l : Launch} {g : gE} {a : Nat → Nat} {o : Off} {post : Int32 → Prop} (hC : gC x l cX3_queuedAhead 5 RX3 g 1 23 0 0) (hZ : gZ x g (some .int) (offW g a o) (pR (offW g a o) post) 0 0) : ∀ (n : Nat) (x1 : Int32) (x2 : Int32) (x3 : Int32) (x4 : Int32) , wl_X3_queuedAhead_5 post o n x1 x2 x3 x4 → G x g 5 0 0 (offW g a o) 5 [(0, .ref (a 0)), (1, .int x1), (2, .int x2), (3, .int x3), (4, .int x4)] [] := by
  intro n
  induction n with
  | zero =>
    intro x1 x2 x3 x4 h
    exact h.elim
  | succ n ih =>
    intro x1 x2 x3 x4 h
    rw [wl_X3_queuedAhead_5] at h
    refine g_iload hC dX3_queuedAhead_5 7 rfl 4 rfl ?_
    refine g_aload_n hC dX3_queuedAhead_7 8 rfl rfl 0 rfl ?_
    refine g_get hC fl_X3_45 dX3_queuedAhead_8 11 rfl 0 rfl rfl ?_
    refine g_icmp_ge hC dX3_queuedAhead_11 44 (by decide) 14 rfl (fun c => ?_) (fun c => ?_)
    · have h := h.1 c
      refine g_iload_n hC dX3_queuedAhead_44 45 rfl rfl 3 rfl ?_
      exact g_iret hC hZ dX3_queuedAhead_45 ⟨_, rfl, rfl, h⟩
    · have h := h.2 c
      refine g_aload_n hC dX3_queuedAhead_14 15 rfl rfl 0 rfl ?_
      refine g_iload hC dX3_queuedAhead_15 17 rfl 4 rfl ?_
      refine g_iconst hC (1 : Int32) dX3_queuedAhead_17 18 rfl iconst_1 ?_
      refine g_iload_n hC dX3_queuedAhead_18 19 rfl rfl 2 rfl ?_
      refine g_readV hC (ct_X3_is l g a o x4 (1 : Int32) x2 _ h) gY_X3_is dX3_queuedAhead_19 22 rfl ml_X3_77 [] [] (by simp only [List.nil_append, List.append_nil]) [] rfl rfl rfl 0 7 rfl rfl ⟨Nat.le_of_ble_eq_true rfl, Nat.le_of_ble_eq_true rfl⟩ (Nat.le_of_ble_eq_true rfl) ⟨Nat.le_refl _, Nat.le_refl _⟩ (fun v1 h => ?_)
      refine g_if_eq hC dX3_queuedAhead_22 38 (by decide) 25 rfl (fun c => ?_) (fun c => ?_)
      · have h := h.1 c
        obtain ⟨v2, ev2⟩ : ∃ y : Int32, y = x4 + (1 : Int32) := ⟨_, rfl⟩
        have h := h v2 ev2
        refine g_iinc (v2 := v2) (lv2 := [(4, .int v2), (0, .ref (a 0)), (1, .int x1), (2, .int x2), (3, .int x3)]) hC dX3_queuedAhead_38 41 rfl 4 rfl (by rw [iconst_1, ev2]) (by decide) rfl ?_
        refine g_goto hC dX3_queuedAhead_41 5 (by decide) ?_
        refine g_lv (lv2 := [(0, .ref (a 0)), (1, .int x1), (2, .int x2), (3, .int x3), (4, .int v2)]) [1, 2, 3, 4, 0] rfl ?_
        exact ih x1 x2 x3 v2 h
      · have h := h.2 c
        refine g_aload_n hC dX3_queuedAhead_25 26 rfl rfl 0 rfl ?_
        refine g_iload hC dX3_queuedAhead_26 28 rfl 4 rfl ?_
        refine g_iload_n hC dX3_queuedAhead_28 29 rfl rfl 1 rfl ?_
        refine g_readV hC (ct_X3_isDecidedAhead l g a o x4 x1 _ h) gY_X3_isDecidedAhead dX3_queuedAhead_29 32 rfl ml_X3_121 [] [] (by simp only [List.nil_append, List.append_nil]) [] rfl rfl rfl 0 7 rfl rfl ⟨Nat.le_of_ble_eq_true rfl, Nat.le_of_ble_eq_true rfl⟩ (Nat.le_of_ble_eq_true rfl) ⟨Nat.le_refl _, Nat.le_refl _⟩ (fun v3 h => ?_)
        refine g_if_eq hC dX3_queuedAhead_32 38 (by decide) 35 rfl (fun c => ?_) (fun c => ?_)
        · have h := h.1 c
          obtain ⟨v4, ev4⟩ : ∃ y : Int32, y = x4 + (1 : Int32) := ⟨_, rfl⟩
          have h := h v4 ev4
          refine g_iinc (v2 := v4) (lv2 := [(4, .int v4), (0, .ref (a 0)), (1, .int x1), (2, .int x2), (3, .int x3)]) hC dX3_queuedAhead_38 41 rfl 4 rfl (by rw [iconst_1, ev4]) (by decide) rfl ?_
          refine g_goto hC dX3_queuedAhead_41 5 (by decide) ?_
          refine g_lv (lv2 := [(0, .ref (a 0)), (1, .int x1), (2, .int x2), (3, .int x3), (4, .int v4)]) [1, 2, 3, 4, 0] rfl ?_
          exact ih x1 x2 x3 v4 h
        · have h := h.2 c
          obtain ⟨v5, ev5⟩ : ∃ y : Int32, y = x3 + (1 : Int32) := ⟨_, rfl⟩
          have h := h v5 ev5
          refine g_iinc (v2 := v5) (lv2 := [(3, .int v5), (0, .ref (a 0)), (1, .int x1), (2, .int x2), (4, .int x4)]) hC dX3_queuedAhead_35 38 rfl 3 rfl (by rw [iconst_1, ev5]) (by decide) rfl ?_
          obtain ⟨v6, ev6⟩ : ∃ y : Int32, y = x4 + (1 : Int32) := ⟨_, rfl⟩
          have h := h v6 ev6
          refine g_iinc (v2 := v6) (lv2 := [(4, .int v6), (3, .int v5), (0, .ref (a 0)), (1, .int x1), (2, .int x2)]) hC dX3_queuedAhead_38 41 rfl 4 rfl (by rw [iconst_1, ev6]) (by decide) rfl ?_
          refine g_goto hC dX3_queuedAhead_41 5 (by decide) ?_
          refine g_lv (lv2 := [(0, .ref (a 0)), (1, .int x1), (2, .int x2), (3, .int v5), (4, .int v6)]) [2, 3, 4, 1, 0] rfl ?_
          exact ih x1 x2 v5 v6 h
set_option maxRecDepth 100000 in
set_option maxHeartbeats 4000000 in
theorem ct_X3_queuedAhead (l : Launch) (g : gE) (a : Nat → Nat) (o : Off) (p0 : Int32) (p1 : Int32) (post : Int32 → Prop) (h : wp_X3_queuedAhead post o p0 p1) : Fn l g yX3_queuedAhead cX3_queuedAhead 5 (some .int) 1 23 0 0 (offW g a o) [.ref (a 0), .int p0, .int p1] (pR (offW g a o) post) := by
  refine Fn.of (by decide) (Nat.le_of_ble_eq_true rfl) (fun x hC hZ => ?_)
  rw [wp_X3_queuedAhead] at h
  show G x g 5 0 0 (offW g a o) 0 [(0, .ref (a 0)), (1, .int p0), (2, .int p1)] []
  refine g_iconst hC (0 : Int32) dX3_queuedAhead_0 1 rfl iconst_0 ?_
  refine g_istore_n (lv2 := [(3, .int (0 : Int32)), (0, .ref (a 0)), (1, .int p0), (2, .int p1)]) hC dX3_queuedAhead_1 2 rfl rfl (by decide) rfl ?_
  refine g_iconst hC (0 : Int32) dX3_queuedAhead_2 3 rfl iconst_0 ?_
  refine g_istore (lv2 := [(4, .int (0 : Int32)), (3, .int (0 : Int32)), (0, .ref (a 0)), (1, .int p0), (2, .int p1)]) hC dX3_queuedAhead_3 5 rfl (by decide) rfl ?_
  refine g_lv (lv2 := [(0, .ref (a 0)), (1, .int p0), (2, .int p1), (3, .int (0 : Int32)), (4, .int (0 : Int32))]) [2, 3, 4, 1, 0] rfl ?_
  obtain ⟨m, h⟩ := h
  exact lp_X3_queuedAhead_5 hC hZ m p0 p1 (0 : Int32) (0 : Int32) h
def wl_X3_queued_2 (post : Int32 → Prop) (o : Off) : Nat → Int32 → Int32 → Int32 → Prop
  | 0, _, _, _ => False
  | n + 1, x1, x2, x3 => (((o 0 0) ≤ x3 → post (-1 : Int32)) ∧ (¬ (o 0 0) ≤ x3 → wp_X3_is (fun v1 => ((v1 = 0 → (∀ v2 : Int32, v2 = x3 + (1 : Int32) → wl_X3_queued_2 post o n x1 x2 v2)) ∧ (¬ v1 = 0 → wp_X3_queuedAhead (fun v3 => ((¬ v3 = x2 → (∀ v4 : Int32, v4 = x3 + (1 : Int32) → wl_X3_queued_2 post o n x1 x2 v4)) ∧ (v3 = x2 → post x3))) o x3 x1))) o x3 (1 : Int32) x1))
def wp_X3_queued (post : Int32 → Prop) (o : Off) (p0 : Int32) (p1 : Int32) : Prop := (∃ m : Nat, wl_X3_queued_2 post o m p0 p1 (0 : Int32))
set_option maxRecDepth 100000 in
set_option maxHeartbeats 4000000 in
theorem lp_X3_queued_2 {x : gX} {l : Launch} {g : gE} {a : Nat → Nat} {o : Off} {post : Int32 → Prop} (hC : gC x l cX3_queued 4 RX3 g 2 47 0 0) (hZ : gZ x g (some .int) (offW g a o) (pR (offW g a o) post) 0 0) : ∀ (n : Nat) (x1 : Int32) (x2 : Int32) (x3 : Int32) , wl_X3_queued_2 post o n x1 x2 x3 → G x g 4 0 0 (offW g a o) 2 [(0, .ref (a 0)), (1, .int x1), (2, .int x2), (3, .int x3)] [] := by
  intro n
  induction n with
  | zero =>
    intro x1 x2 x3 h
    exact h.elim
  | succ n ih =>
    intro x1 x2 x3 h
    rw [wl_X3_queued_2] at h
    refine g_iload_n hC dX3_queued_2 3 rfl rfl 3 rfl ?_
    refine g_aload_n hC dX3_queued_3 4 rfl rfl 0 rfl ?_
    refine g_get hC fl_X3_45 dX3_queued_4 7 rfl 0 rfl rfl ?_
    refine g_icmp_ge hC dX3_queued_7 38 (by decide) 10 rfl (fun c => ?_) (fun c => ?_)
    · have h := h.1 c
      refine g_iconst hC (-1 : Int32) dX3_queued_38 39 rfl iconst_m1 ?_
      exact g_iret hC hZ dX3_queued_39 ⟨_, rfl, rfl, h⟩
    · have h := h.2 c
      refine g_aload_n hC dX3_queued_10 11 rfl rfl 0 rfl ?_
      refine g_iload_n hC dX3_queued_11 12 rfl rfl 3 rfl ?_
      refine g_iconst hC (1 : Int32) dX3_queued_12 13 rfl iconst_1 ?_
      refine g_iload_n hC dX3_queued_13 14 rfl rfl 1 rfl ?_
      refine g_readV hC (ct_X3_is l g a o x3 (1 : Int32) x1 _ h) gY_X3_is dX3_queued_14 17 rfl ml_X3_77 [] [] (by simp only [List.nil_append, List.append_nil]) [] rfl rfl rfl 0 7 rfl rfl ⟨Nat.le_of_ble_eq_true rfl, Nat.le_of_ble_eq_true rfl⟩ (Nat.le_of_ble_eq_true rfl) ⟨Nat.le_refl _, Nat.le_refl _⟩ (fun v1 h => ?_)
      refine g_if_eq hC dX3_queued_17 32 (by decide) 20 rfl (fun c => ?_) (fun c => ?_)
      · have h := h.1 c
        obtain ⟨v2, ev2⟩ : ∃ y : Int32, y = x3 + (1 : Int32) := ⟨_, rfl⟩
        have h := h v2 ev2
        refine g_iinc (v2 := v2) (lv2 := [(3, .int v2), (0, .ref (a 0)), (1, .int x1), (2, .int x2)]) hC dX3_queued_32 35 rfl 3 rfl (by rw [iconst_1, ev2]) (by decide) rfl ?_
        refine g_goto hC dX3_queued_35 2 (by decide) ?_
        refine g_lv (lv2 := [(0, .ref (a 0)), (1, .int x1), (2, .int x2), (3, .int v2)]) [1, 2, 3, 0] rfl ?_
        exact ih x1 x2 v2 h
      · have h := h.2 c
        refine g_aload_n hC dX3_queued_20 21 rfl rfl 0 rfl ?_
        refine g_iload_n hC dX3_queued_21 22 rfl rfl 3 rfl ?_
        refine g_iload_n hC dX3_queued_22 23 rfl rfl 1 rfl ?_
        refine g_readV hC (ct_X3_queuedAhead l g a o x3 x1 _ h) gY_X3_queuedAhead dX3_queued_23 26 rfl ml_X3_118 [] [] (by simp only [List.nil_append, List.append_nil]) [] rfl rfl rfl 0 7 rfl rfl ⟨Nat.le_of_ble_eq_true rfl, Nat.le_of_ble_eq_true rfl⟩ (Nat.le_of_ble_eq_true rfl) ⟨Nat.le_refl _, Nat.le_refl _⟩ (fun v3 h => ?_)
        refine g_iload_n hC dX3_queued_26 27 rfl rfl 2 rfl ?_
        refine g_icmp_ne hC dX3_queued_27 32 (by decide) 30 rfl (fun c => ?_) (fun c => ?_)
        · have h := h.1 c
          obtain ⟨v4, ev4⟩ : ∃ y : Int32, y = x3 + (1 : Int32) := ⟨_, rfl⟩
          have h := h v4 ev4
          refine g_iinc (v2 := v4) (lv2 := [(3, .int v4), (0, .ref (a 0)), (1, .int x1), (2, .int x2)]) hC dX3_queued_32 35 rfl 3 rfl (by rw [iconst_1, ev4]) (by decide) rfl ?_
          refine g_goto hC dX3_queued_35 2 (by decide) ?_
          refine g_lv (lv2 := [(0, .ref (a 0)), (1, .int x1), (2, .int x2), (3, .int v4)]) [1, 2, 3, 0] rfl ?_
          exact ih x1 x2 v4 h
        · have h := h.2 c
          refine g_iload_n hC dX3_queued_30 31 rfl rfl 3 rfl ?_
          exact g_iret hC hZ dX3_queued_31 ⟨_, rfl, rfl, h⟩
set_option maxRecDepth 100000 in
set_option maxHeartbeats 4000000 in
theorem ct_X3_queued (l : Launch) (g : gE) (a : Nat → Nat) (o : Off) (p0 : Int32) (p1 : Int32) (post : Int32 → Prop) (h : wp_X3_queued post o p0 p1) : Fn l g yX3_queued cX3_queued 4 (some .int) 2 47 0 0 (offW g a o) [.ref (a 0), .int p0, .int p1] (pR (offW g a o) post) := by
  refine Fn.of (by decide) (Nat.le_of_ble_eq_true rfl) (fun x hC hZ => ?_)
  rw [wp_X3_queued] at h
  show G x g 4 0 0 (offW g a o) 0 [(0, .ref (a 0)), (1, .int p0), (2, .int p1)] []
  refine g_iconst hC (0 : Int32) dX3_queued_0 1 rfl iconst_0 ?_
  refine g_istore_n (lv2 := [(3, .int (0 : Int32)), (0, .ref (a 0)), (1, .int p0), (2, .int p1)]) hC dX3_queued_1 2 rfl rfl (by decide) rfl ?_
  refine g_lv (lv2 := [(0, .ref (a 0)), (1, .int p0), (2, .int p1), (3, .int (0 : Int32))]) [1, 2, 3, 0] rfl ?_
  obtain ⟨m, h⟩ := h
  exact lp_X3_queued_2 hC hZ m p0 p1 (0 : Int32) h
def wj_X3_decideOne_54 (post : Off → Prop) (o : Off) (x1 : Int32) : Prop := (vp_in x1 14 ∧ (∀ o2 : Off, o2 = st o 3 x1.toNatClampNeg (2 : Int32) → (∀ o3 : Off, o3 = st o2 0 3 ((o2 0 3) + (1 : Int32)) → post o3)))
def wp_X3_decideOne (post : Off → Prop) (o : Off) (p0 : Int32) (p1 : Int32) : Prop := wp_X3_hasRoom (fun v1 => ((v1 = 0 → wj_X3_decideOne_54 post o p0) ∧ (¬ v1 = 0 → wp_X3_colourAt (fun v4 => wp_X3_bans (fun v5 => ((¬ v5 = 0 → wj_X3_decideOne_54 post o p0) ∧ (v5 = 0 → (vp_in p0 14 ∧ (∀ o6 : Off, o6 = st o 3 p0.toNatClampNeg (3 : Int32) → (vp_in p0 14 ∧ (∀ o7 : Off, o7 = st o6 7 p0.toNatClampNeg ((o6 0 1) + (10 : Int32)) → (∀ o8 : Off, o8 = st o7 0 2 ((o7 0 2) + (1 : Int32)) → post o8)))))))) o p1 v4) o p0))) o p1
set_option maxRecDepth 100000 in
set_option maxHeartbeats 4000000 in
theorem jn_X3_decideOne_54 {x : gX} {l : Launch} {g : gE} {a : Nat → Nat} {o0 : Off} {post : Off → Prop} (hC : gC x l cX3_decideOne 3 RX3 g 5 113 0 0) (hZ : gZ x g none (offW g a o0) (pV (offW g a) post) 0 0) : ∀ (o : Off) (x1 : Int32) , wj_X3_decideOne_54 post o x1 → G x g 3 0 0 (offW g a o) 54 [(0, .ref (a 0)), (1, .int x1)] [] := by
  intro o x1 h
  rw [wj_X3_decideOne_54] at h
  refine g_aload_n hC dX3_decideOne_54 55 rfl rfl 0 rfl ?_
  refine g_get hC fl_X3_18 dX3_decideOne_55 58 rfl 0 rfl rfl ?_
  refine g_iload_n hC dX3_decideOne_58 59 rfl rfl 1 rfl ?_
  refine g_iconst hC (2 : Int32) dX3_decideOne_59 60 rfl iconst_2 ?_
  obtain ⟨hi, h⟩ := h
  obtain ⟨o2, eo2⟩ : ∃ y : Off, y = st o 3 x1.toNatClampNeg (2 : Int32) := ⟨_, rfl⟩
  have h := h o2 eo2
  refine g_iast hC dX3_decideOne_60 61 rfl 3 rfl hi (offW_s3 eo2) ?_
  refine g_aload_n hC dX3_decideOne_61 62 rfl rfl 0 rfl ?_
  refine g_dup hC dX3_decideOne_62 63 rfl rfl ?_
  refine g_get hC fl_X3_55 dX3_decideOne_63 66 rfl 0 rfl rfl ?_
  refine g_iconst hC (1 : Int32) dX3_decideOne_66 67 rfl iconst_1 ?_
  refine g_iadd hC dX3_decideOne_67 68 rfl ?_
  obtain ⟨o3, eo3⟩ : ∃ y : Off, y = st o2 0 3 ((o2 0 3) + (1 : Int32)) := ⟨_, rfl⟩
  have h := h o3 eo3
  refine g_put hC fp_X3_55 dX3_decideOne_68 71 rfl 0 rfl rfl rfl (Nat.le_of_ble_eq_true rfl) (offW_p3 eo3) ?_
  exact g_vret hC hZ dX3_decideOne_71 ⟨_, rfl, rfl, h⟩
set_option maxRecDepth 100000 in
set_option maxHeartbeats 4000000 in
theorem ct_X3_decideOne (l : Launch) (g : gE) (a : Nat → Nat) (o : Off) (p0 : Int32) (p1 : Int32) (post : Off → Prop) (h : wp_X3_decideOne post o p0 p1) : Fn l g yX3_decideOne cX3_decideOne 3 none 5 113 0 0 (offW g a o) [.ref (a 0), .int p0, .int p1] (pV (offW g a) post) := by
  refine Fn.of (by decide) (Nat.le_of_ble_eq_true rfl) (fun x hC hZ => ?_)
  rw [wp_X3_decideOne] at h
  show G x g 3 0 0 (offW g a o) 0 [(0, .ref (a 0)), (1, .int p0), (2, .int p1)] []
  refine g_aload_n hC dX3_decideOne_0 1 rfl rfl 0 rfl ?_
  refine g_iload_n hC dX3_decideOne_1 2 rfl rfl 2 rfl ?_
  refine g_readV hC (ct_X3_hasRoom l g a o p1 _ h) gY_X3_hasRoom dX3_decideOne_2 5 rfl ml_X3_103 [] [] (by simp only [List.nil_append, List.append_nil]) [] rfl rfl rfl 0 7 rfl rfl ⟨Nat.le_of_ble_eq_true rfl, Nat.le_of_ble_eq_true rfl⟩ (Nat.le_of_ble_eq_true rfl) ⟨Nat.le_refl _, Nat.le_refl _⟩ (fun v1 h => ?_)
  refine g_if_eq hC dX3_decideOne_5 54 (by decide) 8 rfl (fun c => ?_) (fun c => ?_)
  · have h := h.1 c
    refine g_lv (lv2 := [(0, .ref (a 0)), (1, .int p0)]) [0, 1] rfl ?_
    exact jn_X3_decideOne_54 hC hZ o p0 h
  · have h := h.2 c
    refine g_aload_n hC dX3_decideOne_8 9 rfl rfl 0 rfl ?_
    refine g_iload_n hC dX3_decideOne_9 10 rfl rfl 2 rfl ?_
    refine g_aload_n hC dX3_decideOne_10 11 rfl rfl 0 rfl ?_
    refine g_iload_n hC dX3_decideOne_11 12 rfl rfl 1 rfl ?_
    refine g_readV hC (ct_X3_colourAt l g a o p0 _ h) gY_X3_colourAt dX3_decideOne_12 15 rfl ml_X3_107 [] [] (by simp only [List.nil_append, List.append_nil]) [.int p1, .ref (a 0)] rfl rfl rfl 0 7 rfl rfl ⟨Nat.le_of_ble_eq_true rfl, Nat.le_of_ble_eq_true rfl⟩ (Nat.le_of_ble_eq_true rfl) ⟨Nat.le_refl _, Nat.le_refl _⟩ (fun v4 h => ?_)
    refine g_readV hC (ct_X3_bans l g a o p1 v4 _ h) gY_X3_bans dX3_decideOne_15 18 rfl ml_X3_111 [] [] (by simp only [List.nil_append, List.append_nil]) [] rfl rfl rfl 0 7 rfl rfl ⟨Nat.le_of_ble_eq_true rfl, Nat.le_of_ble_eq_true rfl⟩ (Nat.le_of_ble_eq_true rfl) ⟨Nat.le_refl _, Nat.le_refl _⟩ (fun v5 h => ?_)
    refine g_if_ne hC dX3_decideOne_18 54 (by decide) 21 rfl (fun c => ?_) (fun c => ?_)
    · have h := h.1 c
      refine g_lv (lv2 := [(0, .ref (a 0)), (1, .int p0)]) [0, 1] rfl ?_
      exact jn_X3_decideOne_54 hC hZ o p0 h
    · have h := h.2 c
      refine g_aload_n hC dX3_decideOne_21 22 rfl rfl 0 rfl ?_
      refine g_get hC fl_X3_18 dX3_decideOne_22 25 rfl 0 rfl rfl ?_
      refine g_iload_n hC dX3_decideOne_25 26 rfl rfl 1 rfl ?_
      refine g_iconst hC (3 : Int32) dX3_decideOne_26 27 rfl iconst_3 ?_
      obtain ⟨hi, h⟩ := h
      obtain ⟨o6, eo6⟩ : ∃ y : Off, y = st o 3 p0.toNatClampNeg (3 : Int32) := ⟨_, rfl⟩
      have h := h o6 eo6
      refine g_iast hC dX3_decideOne_27 28 rfl 3 rfl hi (offW_s3 eo6) ?_
      refine g_aload_n hC dX3_decideOne_28 29 rfl rfl 0 rfl ?_
      refine g_get hC fl_X3_30 dX3_decideOne_29 32 rfl 0 rfl rfl ?_
      refine g_iload_n hC dX3_decideOne_32 33 rfl rfl 1 rfl ?_
      refine g_aload_n hC dX3_decideOne_33 34 rfl rfl 0 rfl ?_
      refine g_get hC fl_X3_49 dX3_decideOne_34 37 rfl 0 rfl rfl ?_
      refine g_bipush hC (10 : Int32) dX3_decideOne_37 39 rfl bipush_10 ?_
      refine g_iadd hC dX3_decideOne_39 40 rfl ?_
      obtain ⟨hi, h⟩ := h
      obtain ⟨o7, eo7⟩ : ∃ y : Off, y = st o6 7 p0.toNatClampNeg ((o6 0 1) + (10 : Int32)) := ⟨_, rfl⟩
      have h := h o7 eo7
      refine g_iast hC dX3_decideOne_40 41 rfl 7 rfl hi (offW_s7 eo7) ?_
      refine g_aload_n hC dX3_decideOne_41 42 rfl rfl 0 rfl ?_
      refine g_dup hC dX3_decideOne_42 43 rfl rfl ?_
      refine g_get hC fl_X3_52 dX3_decideOne_43 46 rfl 0 rfl rfl ?_
      refine g_iconst hC (1 : Int32) dX3_decideOne_46 47 rfl iconst_1 ?_
      refine g_iadd hC dX3_decideOne_47 48 rfl ?_
      obtain ⟨o8, eo8⟩ : ∃ y : Off, y = st o7 0 2 ((o7 0 2) + (1 : Int32)) := ⟨_, rfl⟩
      have h := h o8 eo8
      refine g_put hC fp_X3_52 dX3_decideOne_48 51 rfl 0 rfl rfl rfl (Nat.le_of_ble_eq_true rfl) (offW_p2 eo8) ?_
      refine g_goto hC dX3_decideOne_51 71 (by decide) ?_
      exact g_vret hC hZ dX3_decideOne_71 ⟨_, rfl, rfl, h⟩
def wl_X3_decideAll_15 (post : Int32 → Off → Prop) : Nat → Off → Int32 → Int32 → Int32 → Int32 → Prop
  | 0, _, _, _, _, _ => False
  | n + 1, o, x1, x2, x3, x4 => ((x3 ≤ x4 → post ((o 0 2) - x2) o) ∧ (¬ x3 ≤ x4 → wp_X3_queued (fun v3 => ((v3 = (-1 : Int32) → (∀ v4 : Int32, v4 = x4 + (1 : Int32) → wl_X3_decideAll_15 post n o x1 x2 x3 v4)) ∧ (¬ v3 = (-1 : Int32) → wp_X3_decideOne (fun o5 => (∀ v6 : Int32, v6 = x4 + (1 : Int32) → wl_X3_decideAll_15 post n o5 x1 x2 x3 v6)) o v3 x1))) o x1 (0 : Int32)))
def wp_X3_decideAll (post : Int32 → Off → Prop) (o : Off) (p0 : Int32) : Prop := (∀ v1 : Int32, v1 = (o 0 2) → wp_X3_countOf (fun v2 => (∃ m : Nat, wl_X3_decideAll_15 post m o p0 v1 v2 (0 : Int32))) o (1 : Int32) p0)
set_option maxRecDepth 100000 in
set_option maxHeartbeats 4000000 in
theorem lp_X3_decideAll_15 {x : gX} {l : Launch} {g : gE} {a : Nat → Nat} {o0 : Off} {post : Int32 → Off → Prop} (hC : gC x l cX3_decideAll 6 RX3 g 6 135 0 0) (hZ : gZ x g (some .int) (offW g a o0) (pI (offW g a) post) 0 0) : ∀ (n : Nat) (o : Off) (x1 : Int32) (x2 : Int32) (x3 : Int32) (x4 : Int32) , wl_X3_decideAll_15 post n o x1 x2 x3 x4 → G x g 6 0 0 (offW g a o) 15 [(0, .ref (a 0)), (1, .int x1), (2, .int x2), (3, .int x3), (4, .int x4)] [] := by
  intro n
  induction n with
  | zero =>
    intro o x1 x2 x3 x4 h
    exact h.elim
  | succ n ih =>
    intro o x1 x2 x3 x4 h
    rw [wl_X3_decideAll_15] at h
    refine g_iload hC dX3_decideAll_15 17 rfl 4 rfl ?_
    refine g_iload_n hC dX3_decideAll_17 18 rfl rfl 3 rfl ?_
    refine g_icmp_ge hC dX3_decideAll_18 48 (by decide) 21 rfl (fun c => ?_) (fun c => ?_)
    · have h := h.1 c
      refine g_aload_n hC dX3_decideAll_48 49 rfl rfl 0 rfl ?_
      refine g_get hC fl_X3_52 dX3_decideAll_49 52 rfl 0 rfl rfl ?_
      refine g_iload_n hC dX3_decideAll_52 53 rfl rfl 2 rfl ?_
      refine g_isub hC dX3_decideAll_53 54 rfl ?_
      exact g_iret hC hZ dX3_decideAll_54 ⟨_, _, rfl, rfl, h⟩
    · have h := h.2 c
      refine g_aload_n hC dX3_decideAll_21 22 rfl rfl 0 rfl ?_
      refine g_iload_n hC dX3_decideAll_22 23 rfl rfl 1 rfl ?_
      refine g_iconst hC (0 : Int32) dX3_decideAll_23 24 rfl iconst_0 ?_
      refine g_readV hC (ct_X3_queued l g a o x1 (0 : Int32) _ h) gY_X3_queued dX3_decideAll_24 27 rfl ml_X3_96 [] [] (by simp only [List.nil_append, List.append_nil]) [] rfl rfl rfl 0 7 rfl rfl ⟨Nat.le_of_ble_eq_true rfl, Nat.le_of_ble_eq_true rfl⟩ (Nat.le_of_ble_eq_true rfl) ⟨Nat.le_refl _, Nat.le_refl _⟩ (fun v3 h => ?_)
      refine g_istore (lv2 := [(5, .int v3), (0, .ref (a 0)), (1, .int x1), (2, .int x2), (3, .int x3), (4, .int x4)]) hC dX3_decideAll_27 29 rfl (by decide) rfl ?_
      refine g_iload hC dX3_decideAll_29 31 rfl 0 rfl ?_
      refine g_iconst hC (-1 : Int32) dX3_decideAll_31 32 rfl iconst_m1 ?_
      refine g_icmp_eq hC dX3_decideAll_32 42 (by decide) 35 rfl (fun c => ?_) (fun c => ?_)
      · have h := h.1 c
        obtain ⟨v4, ev4⟩ : ∃ y : Int32, y = x4 + (1 : Int32) := ⟨_, rfl⟩
        have h := h v4 ev4
        refine g_iinc (v2 := v4) (lv2 := [(4, .int v4), (5, .int v3), (0, .ref (a 0)), (1, .int x1), (2, .int x2), (3, .int x3)]) hC dX3_decideAll_42 45 rfl 5 rfl (by rw [iconst_1, ev4]) (by decide) rfl ?_
        refine g_goto hC dX3_decideAll_45 15 (by decide) ?_
        refine g_lv (lv2 := [(0, .ref (a 0)), (1, .int x1), (2, .int x2), (3, .int x3), (4, .int v4)]) [2, 3, 4, 5, 0] rfl ?_
        exact ih o x1 x2 x3 v4 h
      · have h := h.2 c
        refine g_aload_n hC dX3_decideAll_35 36 rfl rfl 1 rfl ?_
        refine g_iload hC dX3_decideAll_36 38 rfl 0 rfl ?_
        refine g_iload_n hC dX3_decideAll_38 39 rfl rfl 2 rfl ?_
        refine g_ownV hC (ct_X3_decideOne l g a o v3 x1 _ h) gY_X3_decideOne dX3_decideAll_39 42 rfl ml_X3_99 [] rfl rfl rfl 0 7 rfl rfl ⟨Nat.le_of_ble_eq_true rfl, Nat.le_of_ble_eq_true rfl⟩ (Nat.le_of_ble_eq_true rfl) ⟨Nat.le_refl _, Nat.le_refl _⟩ (fun o5 h => ?_)
        obtain ⟨v6, ev6⟩ : ∃ y : Int32, y = x4 + (1 : Int32) := ⟨_, rfl⟩
        have h := h v6 ev6
        refine g_iinc (v2 := v6) (lv2 := [(4, .int v6), (5, .int v3), (0, .ref (a 0)), (1, .int x1), (2, .int x2), (3, .int x3)]) hC dX3_decideAll_42 45 rfl 5 rfl (by rw [iconst_1, ev6]) (by decide) rfl ?_
        refine g_goto hC dX3_decideAll_45 15 (by decide) ?_
        refine g_lv (lv2 := [(0, .ref (a 0)), (1, .int x1), (2, .int x2), (3, .int x3), (4, .int v6)]) [2, 3, 4, 5, 0] rfl ?_
        exact ih o5 x1 x2 x3 v6 h
set_option maxRecDepth 100000 in
set_option maxHeartbeats 4000000 in
theorem ct_X3_decideAll (l : Launch) (g : gE) (a : Nat → Nat) (o : Off) (p0 : Int32) (post : Int32 → Off → Prop) (h : wp_X3_decideAll post o p0) : Fn l g yX3_decideAll cX3_decideAll 6 (some .int) 6 135 0 0 (offW g a o) [.ref (a 0), .int p0] (pI (offW g a) post) := by
  refine Fn.of (by decide) (Nat.le_of_ble_eq_true rfl) (fun x hC hZ => ?_)
  rw [wp_X3_decideAll] at h
  show G x g 6 0 0 (offW g a o) 0 [(0, .ref (a 0)), (1, .int p0)] []
  refine g_aload_n hC dX3_decideAll_0 1 rfl rfl 0 rfl ?_
  refine g_get hC fl_X3_52 dX3_decideAll_1 4 rfl 0 rfl rfl ?_
  refine g_topi (fun v1 ev1 => ?_)
  have h := h v1 ev1
  refine g_istore_n (lv2 := [(2, .int v1), (0, .ref (a 0)), (1, .int p0)]) hC dX3_decideAll_4 5 rfl rfl (by decide) rfl ?_
  refine g_aload_n hC dX3_decideAll_5 6 rfl rfl 1 rfl ?_
  refine g_iconst hC (1 : Int32) dX3_decideAll_6 7 rfl iconst_1 ?_
  refine g_iload_n hC dX3_decideAll_7 8 rfl rfl 2 rfl ?_
  refine g_readV hC (ct_X3_countOf l g a o (1 : Int32) p0 _ h) gY_X3_countOf dX3_decideAll_8 11 rfl ml_X3_81 [] [] (by simp only [List.nil_append, List.append_nil]) [] rfl rfl rfl 0 7 rfl rfl ⟨Nat.le_of_ble_eq_true rfl, Nat.le_of_ble_eq_true rfl⟩ (Nat.le_of_ble_eq_true rfl) ⟨Nat.le_refl _, Nat.le_refl _⟩ (fun v2 h => ?_)
  refine g_istore_n (lv2 := [(3, .int v2), (2, .int v1), (0, .ref (a 0)), (1, .int p0)]) hC dX3_decideAll_11 12 rfl rfl (by decide) rfl ?_
  refine g_iconst hC (0 : Int32) dX3_decideAll_12 13 rfl iconst_0 ?_
  refine g_istore (lv2 := [(4, .int (0 : Int32)), (3, .int v2), (2, .int v1), (0, .ref (a 0)), (1, .int p0)]) hC dX3_decideAll_13 15 rfl (by decide) rfl ?_
  refine g_lv (lv2 := [(0, .ref (a 0)), (1, .int p0), (2, .int v1), (3, .int v2), (4, .int (0 : Int32))]) [3, 4, 2, 1, 0] rfl ?_
  obtain ⟨m, h⟩ := h
  exact lp_X3_decideAll_15 hC hZ m o p0 v1 v2 (0 : Int32) h
def wl_X3_admissible_4 (post : Int32 → Prop) (o : Off) : Nat → Int32 → Int32 → Int32 → Prop
  | 0, _, _, _ => False
  | n + 1, x1, x2, x3 => (((o 0 0) ≤ x3 → (vp_in x1 5 ∧ wp_X3_countOf (fun v1 => (∀ v2 : Int32, v2 = (if (0 : Int32) < ((o 9 x1.toNatClampNeg) - v1) then ((o 9 x1.toNatClampNeg) - v1) else (0 : Int32)) → post (if v2 < x2 then v2 else x2))) o (3 : Int32) x1)) ∧ (¬ (o 0 0) ≤ x3 → wp_X3_is (fun v3 => ((v3 = 0 → (∀ v4 : Int32, v4 = x3 + (1 : Int32) → wl_X3_admissible_4 post o n x1 x2 v4)) ∧ (¬ v3 = 0 → wp_X3_colourAt (fun v5 => wp_X3_bans (fun v6 => ((¬ v6 = 0 → (∀ v7 : Int32, v7 = x3 + (1 : Int32) → wl_X3_admissible_4 post o n x1 x2 v7)) ∧ (v6 = 0 → (∀ v8 : Int32, v8 = x2 + (1 : Int32) → (∀ v9 : Int32, v9 = x3 + (1 : Int32) → wl_X3_admissible_4 post o n x1 v8 v9))))) o x1 v5) o x3))) o x3 (1 : Int32) x1))
def wp_X3_admissible (post : Int32 → Prop) (o : Off) (p0 : Int32) : Prop := (∃ m : Nat, wl_X3_admissible_4 post o m p0 (0 : Int32) (0 : Int32))
set_option maxRecDepth 100000 in
set_option maxHeartbeats 4000000 in
theorem lp_X3_admissible_4 {x : gX} {l : Launch} {g : gE} {a : Nat → Nat} {o : Off} {post : Int32 → Prop} (hC : gC x l cX3_admissible 4 RX3 g 5 113 0 0) (hZ : gZ x g (some .int) (offW g a o) (pR (offW g a o) post) 0 0) : ∀ (n : Nat) (x1 : Int32) (x2 : Int32) (x3 : Int32) , wl_X3_admissible_4 post o n x1 x2 x3 → G x g 4 0 0 (offW g a o) 4 [(0, .ref (a 0)), (1, .int x1), (2, .int x2), (3, .int x3)] [] := by
  intro n
  induction n with
  | zero =>
    intro x1 x2 x3 h
    exact h.elim
  | succ n ih =>
    intro x1 x2 x3 h
    rw [wl_X3_admissible_4] at h
    refine g_iload_n hC dX3_admissible_4 5 rfl rfl 3 rfl ?_
    refine g_aload_n hC dX3_admissible_5 6 rfl rfl 0 rfl ?_
    refine g_get hC fl_X3_45 dX3_admissible_6 9 rfl 0 rfl rfl ?_
    refine g_icmp_ge hC dX3_admissible_9 44 (by decide) 12 rfl (fun c => ?_) (fun c => ?_)
    · have h := h.1 c
      refine g_iconst hC (0 : Int32) dX3_admissible_44 45 rfl iconst_0 ?_
      refine g_aload_n hC dX3_admissible_45 46 rfl rfl 0 rfl ?_
      refine g_get hC fl_X3_36 dX3_admissible_46 49 rfl 0 rfl rfl ?_
      refine g_iload_n hC dX3_admissible_49 50 rfl rfl 1 rfl ?_
      obtain ⟨hi, h⟩ := h
      refine g_iald hC dX3_admissible_50 51 rfl 9 rfl hi ?_
      refine g_aload_n hC dX3_admissible_51 52 rfl rfl 0 rfl ?_
      refine g_iconst hC (3 : Int32) dX3_admissible_52 53 rfl iconst_3 ?_
      refine g_iload_n hC dX3_admissible_53 54 rfl rfl 1 rfl ?_
      refine g_readV hC (ct_X3_countOf l g a o (3 : Int32) x1 _ h) gY_X3_countOf dX3_admissible_54 57 rfl ml_X3_81 [] [] (by simp only [List.nil_append, List.append_nil]) [.int (o 9 x1.toNatClampNeg), .int (0 : Int32)] rfl rfl rfl 0 7 rfl rfl ⟨Nat.le_of_ble_eq_true rfl, Nat.le_of_ble_eq_true rfl⟩ (Nat.le_of_ble_eq_true rfl) ⟨Nat.le_refl _, Nat.le_refl _⟩ (fun v1 h => ?_)
      refine g_isub hC dX3_admissible_57 58 rfl ?_
      refine g_mmax hC dX3_admissible_58 61 rfl mth_X3_115 mth_max.1 mth_max.2.1 mth_max.2.2 ⟨Nat.le_of_ble_eq_true rfl, Nat.le_of_ble_eq_true rfl, Nat.le_refl _, Nat.le_refl _⟩ (Nat.le_of_ble_eq_true rfl) ?_
      refine g_topi (fun v2 ev2 => ?_)
      have h := h v2 ev2
      refine g_istore_n (lv2 := [(3, .int v2), (0, .ref (a 0)), (1, .int x1), (2, .int x2)]) hC dX3_admissible_61 62 rfl rfl (by decide) rfl ?_
      refine g_iload_n hC dX3_admissible_62 63 rfl rfl 3 rfl ?_
      refine g_iload_n hC dX3_admissible_63 64 rfl rfl 0 rfl ?_
      refine g_mmin hC dX3_admissible_64 67 rfl mth_X3_65 mth_min.1 mth_min.2.1 mth_min.2.2 ⟨Nat.le_of_ble_eq_true rfl, Nat.le_of_ble_eq_true rfl, Nat.le_refl _, Nat.le_refl _⟩ (Nat.le_of_ble_eq_true rfl) ?_
      exact g_iret hC hZ dX3_admissible_67 ⟨_, rfl, rfl, h⟩
    · have h := h.2 c
      refine g_aload_n hC dX3_admissible_12 13 rfl rfl 0 rfl ?_
      refine g_iload_n hC dX3_admissible_13 14 rfl rfl 3 rfl ?_
      refine g_iconst hC (1 : Int32) dX3_admissible_14 15 rfl iconst_1 ?_
      refine g_iload_n hC dX3_admissible_15 16 rfl rfl 1 rfl ?_
      refine g_readV hC (ct_X3_is l g a o x3 (1 : Int32) x1 _ h) gY_X3_is dX3_admissible_16 19 rfl ml_X3_77 [] [] (by simp only [List.nil_append, List.append_nil]) [] rfl rfl rfl 0 7 rfl rfl ⟨Nat.le_of_ble_eq_true rfl, Nat.le_of_ble_eq_true rfl⟩ (Nat.le_of_ble_eq_true rfl) ⟨Nat.le_refl _, Nat.le_refl _⟩ (fun v3 h => ?_)
      refine g_if_eq hC dX3_admissible_19 38 (by decide) 22 rfl (fun c => ?_) (fun c => ?_)
      · have h := h.1 c
        obtain ⟨v4, ev4⟩ : ∃ y : Int32, y = x3 + (1 : Int32) := ⟨_, rfl⟩
        have h := h v4 ev4
        refine g_iinc (v2 := v4) (lv2 := [(3, .int v4), (0, .ref (a 0)), (1, .int x1), (2, .int x2)]) hC dX3_admissible_38 41 rfl 3 rfl (by rw [iconst_1, ev4]) (by decide) rfl ?_
        refine g_goto hC dX3_admissible_41 4 (by decide) ?_
        refine g_lv (lv2 := [(0, .ref (a 0)), (1, .int x1), (2, .int x2), (3, .int v4)]) [1, 2, 3, 0] rfl ?_
        exact ih x1 x2 v4 h
      · have h := h.2 c
        refine g_aload_n hC dX3_admissible_22 23 rfl rfl 0 rfl ?_
        refine g_iload_n hC dX3_admissible_23 24 rfl rfl 1 rfl ?_
        refine g_aload_n hC dX3_admissible_24 25 rfl rfl 0 rfl ?_
        refine g_iload_n hC dX3_admissible_25 26 rfl rfl 3 rfl ?_
        refine g_readV hC (ct_X3_colourAt l g a o x3 _ h) gY_X3_colourAt dX3_admissible_26 29 rfl ml_X3_107 [] [] (by simp only [List.nil_append, List.append_nil]) [.int x1, .ref (a 0)] rfl rfl rfl 0 7 rfl rfl ⟨Nat.le_of_ble_eq_true rfl, Nat.le_of_ble_eq_true rfl⟩ (Nat.le_of_ble_eq_true rfl) ⟨Nat.le_refl _, Nat.le_refl _⟩ (fun v5 h => ?_)
        refine g_readV hC (ct_X3_bans l g a o x1 v5 _ h) gY_X3_bans dX3_admissible_29 32 rfl ml_X3_111 [] [] (by simp only [List.nil_append, List.append_nil]) [] rfl rfl rfl 0 7 rfl rfl ⟨Nat.le_of_ble_eq_true rfl, Nat.le_of_ble_eq_true rfl⟩ (Nat.le_of_ble_eq_true rfl) ⟨Nat.le_refl _, Nat.le_refl _⟩ (fun v6 h => ?_)
        refine g_if_ne hC dX3_admissible_32 38 (by decide) 35 rfl (fun c => ?_) (fun c => ?_)
        · have h := h.1 c
          obtain ⟨v7, ev7⟩ : ∃ y : Int32, y = x3 + (1 : Int32) := ⟨_, rfl⟩
          have h := h v7 ev7
          refine g_iinc (v2 := v7) (lv2 := [(3, .int v7), (0, .ref (a 0)), (1, .int x1), (2, .int x2)]) hC dX3_admissible_38 41 rfl 3 rfl (by rw [iconst_1, ev7]) (by decide) rfl ?_
          refine g_goto hC dX3_admissible_41 4 (by decide) ?_
          refine g_lv (lv2 := [(0, .ref (a 0)), (1, .int x1), (2, .int x2), (3, .int v7)]) [1, 2, 3, 0] rfl ?_
          exact ih x1 x2 v7 h
        · have h := h.2 c
          obtain ⟨v8, ev8⟩ : ∃ y : Int32, y = x2 + (1 : Int32) := ⟨_, rfl⟩
          have h := h v8 ev8
          refine g_iinc (v2 := v8) (lv2 := [(2, .int v8), (0, .ref (a 0)), (1, .int x1), (3, .int x3)]) hC dX3_admissible_35 38 rfl 2 rfl (by rw [iconst_1, ev8]) (by decide) rfl ?_
          obtain ⟨v9, ev9⟩ : ∃ y : Int32, y = x3 + (1 : Int32) := ⟨_, rfl⟩
          have h := h v9 ev9
          refine g_iinc (v2 := v9) (lv2 := [(3, .int v9), (2, .int v8), (0, .ref (a 0)), (1, .int x1)]) hC dX3_admissible_38 41 rfl 3 rfl (by rw [iconst_1, ev9]) (by decide) rfl ?_
          refine g_goto hC dX3_admissible_41 4 (by decide) ?_
          refine g_lv (lv2 := [(0, .ref (a 0)), (1, .int x1), (2, .int v8), (3, .int v9)]) [2, 3, 1, 0] rfl ?_
          exact ih x1 v8 v9 h
set_option maxRecDepth 100000 in
set_option maxHeartbeats 4000000 in
theorem ct_X3_admissible (l : Launch) (g : gE) (a : Nat → Nat) (o : Off) (p0 : Int32) (post : Int32 → Prop) (h : wp_X3_admissible post o p0) : Fn l g yX3_admissible cX3_admissible 4 (some .int) 5 113 0 0 (offW g a o) [.ref (a 0), .int p0] (pR (offW g a o) post) := by
  refine Fn.of (by decide) (Nat.le_of_ble_eq_true rfl) (fun x hC hZ => ?_)
  rw [wp_X3_admissible] at h
  show G x g 4 0 0 (offW g a o) 0 [(0, .ref (a 0)), (1, .int p0)] []
  refine g_iconst hC (0 : Int32) dX3_admissible_0 1 rfl iconst_0 ?_
  refine g_istore_n (lv2 := [(2, .int (0 : Int32)), (0, .ref (a 0)), (1, .int p0)]) hC dX3_admissible_1 2 rfl rfl (by decide) rfl ?_
  refine g_iconst hC (0 : Int32) dX3_admissible_2 3 rfl iconst_0 ?_
  refine g_istore_n (lv2 := [(3, .int (0 : Int32)), (2, .int (0 : Int32)), (0, .ref (a 0)), (1, .int p0)]) hC dX3_admissible_3 4 rfl rfl (by decide) rfl ?_
  refine g_lv (lv2 := [(0, .ref (a 0)), (1, .int p0), (2, .int (0 : Int32)), (3, .int (0 : Int32))]) [2, 3, 1, 0] rfl ?_
  obtain ⟨m, h⟩ := h
  exact lp_X3_admissible_4 hC hZ m p0 (0 : Int32) (0 : Int32) h
def wp_X3_extend (post : Int32 → Off → Prop) (o : Off) (p0 : Int32) (p1 : Int32) : Prop := (vp_in p0 14 ∧ (vp_in p0 14 ∧ (∀ o1 : Off, o1 = st o 7 p0.toNatClampNeg ((o 7 p0.toNatClampNeg) + p1) → (vp_in p0 14 ∧ post (o1 7 p0.toNatClampNeg) o1))))
set_option maxRecDepth 100000 in
set_option maxHeartbeats 4000000 in
theorem ct_X3_extend (l : Launch) (g : gE) (a : Nat → Nat) (o : Off) (p0 : Int32) (p1 : Int32) (post : Int32 → Off → Prop) (h : wp_X3_extend post o p0 p1) : Fn l g yX3_extend cX3_extend 3 (some .int) 0 0 0 0 (offW g a o) [.ref (a 0), .int p0, .int p1] (pI (offW g a) post) := by
  refine Fn.of (by decide) (Nat.le_of_ble_eq_true rfl) (fun x hC hZ => ?_)
  rw [wp_X3_extend] at h
  show G x g 3 0 0 (offW g a o) 0 [(0, .ref (a 0)), (1, .int p0), (2, .int p1)] []
  refine g_aload_n hC dX3_extend_0 1 rfl rfl 0 rfl ?_
  refine g_get hC fl_X3_30 dX3_extend_1 4 rfl 0 rfl rfl ?_
  refine g_iload_n hC dX3_extend_4 5 rfl rfl 1 rfl ?_
  refine g_dup2 hC dX3_extend_5 6 rfl rfl rfl ?_
  obtain ⟨hi, h⟩ := h
  refine g_iald hC dX3_extend_6 7 rfl 7 rfl hi ?_
  refine g_iload_n hC dX3_extend_7 8 rfl rfl 2 rfl ?_
  refine g_iadd hC dX3_extend_8 9 rfl ?_
  obtain ⟨hi, h⟩ := h
  obtain ⟨o1, eo1⟩ : ∃ y : Off, y = st o 7 p0.toNatClampNeg ((o 7 p0.toNatClampNeg) + p1) := ⟨_, rfl⟩
  have h := h o1 eo1
  refine g_iast hC dX3_extend_9 10 rfl 7 rfl hi (offW_s7 eo1) ?_
  refine g_aload_n hC dX3_extend_10 11 rfl rfl 0 rfl ?_
  refine g_get hC fl_X3_30 dX3_extend_11 14 rfl 0 rfl rfl ?_
  refine g_iload_n hC dX3_extend_14 15 rfl rfl 1 rfl ?_
  obtain ⟨hi, h⟩ := h
  refine g_iald hC dX3_extend_15 16 rfl 7 rfl hi ?_
  exact g_iret hC hZ dX3_extend_16 ⟨_, _, rfl, rfl, h⟩
def wp_X3_release (post : Int32 → Off → Prop) (o : Off) (p0 : Int32) : Prop := (vp_in p0 14 ∧ (∀ o1 : Off, o1 = st o 3 p0.toNatClampNeg (0 : Int32) → (vp_in p0 14 ∧ post ((o1 7 p0.toNatClampNeg) - (o1 0 1)) o1)))
set_option maxRecDepth 100000 in
set_option maxHeartbeats 4000000 in
theorem ct_X3_release (l : Launch) (g : gE) (a : Nat → Nat) (o : Off) (p0 : Int32) (post : Int32 → Off → Prop) (h : wp_X3_release post o p0) : Fn l g yX3_release cX3_release 2 (some .int) 0 0 0 0 (offW g a o) [.ref (a 0), .int p0] (pI (offW g a) post) := by
  refine Fn.of (by decide) (Nat.le_of_ble_eq_true rfl) (fun x hC hZ => ?_)
  rw [wp_X3_release] at h
  show G x g 2 0 0 (offW g a o) 0 [(0, .ref (a 0)), (1, .int p0)] []
  refine g_aload_n hC dX3_release_0 1 rfl rfl 0 rfl ?_
  refine g_get hC fl_X3_18 dX3_release_1 4 rfl 0 rfl rfl ?_
  refine g_iload_n hC dX3_release_4 5 rfl rfl 1 rfl ?_
  refine g_iconst hC (0 : Int32) dX3_release_5 6 rfl iconst_0 ?_
  obtain ⟨hi, h⟩ := h
  obtain ⟨o1, eo1⟩ : ∃ y : Off, y = st o 3 p0.toNatClampNeg (0 : Int32) := ⟨_, rfl⟩
  have h := h o1 eo1
  refine g_iast hC dX3_release_6 7 rfl 3 rfl hi (offW_s3 eo1) ?_
  refine g_aload_n hC dX3_release_7 8 rfl rfl 0 rfl ?_
  refine g_get hC fl_X3_30 dX3_release_8 11 rfl 0 rfl rfl ?_
  refine g_iload_n hC dX3_release_11 12 rfl rfl 1 rfl ?_
  obtain ⟨hi, h⟩ := h
  refine g_iald hC dX3_release_12 13 rfl 7 rfl hi ?_
  refine g_aload_n hC dX3_release_13 14 rfl rfl 0 rfl ?_
  refine g_get hC fl_X3_49 dX3_release_14 17 rfl 0 rfl rfl ?_
  refine g_isub hC dX3_release_17 18 rfl ?_
  exact g_iret hC hZ dX3_release_18 ⟨_, _, rfl, rfl, h⟩
def wp_X3_clauseBetween (post : Int32 → Prop) (o : Off) (p0 : Int32) (p1 : Int32) : Prop := (vp_in ((p0 * (5 : Int32)) + p1) 25 ∧ post (o 11 ((p0 * (5 : Int32)) + p1).toNatClampNeg))
set_option maxRecDepth 100000 in
set_option maxHeartbeats 4000000 in
theorem ct_X3_clauseBetween (l : Launch) (g : gE) (a : Nat → Nat) (o : Off) (p0 : Int32) (p1 : Int32) (post : Int32 → Prop) (h : wp_X3_clauseBetween post o p0 p1) : Fn l g yX3_clauseBetween cX3_clauseBetween 3 (some .int) 0 0 0 0 (offW g a o) [.ref (a 0), .int p0, .int p1] (pR (offW g a o) post) := by
  refine Fn.of (by decide) (Nat.le_of_ble_eq_true rfl) (fun x hC hZ => ?_)
  rw [wp_X3_clauseBetween] at h
  show G x g 3 0 0 (offW g a o) 0 [(0, .ref (a 0)), (1, .int p0), (2, .int p1)] []
  refine g_aload_n hC dX3_clauseBetween_0 1 rfl rfl 0 rfl ?_
  refine g_get hC fl_X3_42 dX3_clauseBetween_1 4 rfl 0 rfl rfl ?_
  refine g_iload_n hC dX3_clauseBetween_4 5 rfl rfl 1 rfl ?_
  refine g_iconst hC (5 : Int32) dX3_clauseBetween_5 6 rfl iconst_5 ?_
  refine g_imul hC dX3_clauseBetween_6 7 rfl ?_
  refine g_iload_n hC dX3_clauseBetween_7 8 rfl rfl 2 rfl ?_
  refine g_iadd hC dX3_clauseBetween_8 9 rfl ?_
  obtain ⟨hi, h⟩ := h
  refine g_iald hC dX3_clauseBetween_9 10 rfl 11 rfl hi ?_
  exact g_iret hC hZ dX3_clauseBetween_10 ⟨_, rfl, rfl, h⟩
def wj_X3_transfer_37 (post : Int32 → Off → Prop) (o : Off) (x1 : Int32) (x2 : Int32) : Prop := (vp_in x1 14 ∧ (∀ o2 : Off, o2 = st o 4 x1.toNatClampNeg x2 → (vp_in x1 14 ∧ post (o2 7 x1.toNatClampNeg) o2)))
def wp_X3_transfer (post : Int32 → Off → Prop) (o : Off) (p0 : Int32) (p1 : Int32) : Prop := (vp_in p0 14 ∧ wp_X3_clauseBetween (fun v1 => ((¬ v1 = (115 : Int32) → wj_X3_transfer_37 post o p0 p1) ∧ (v1 = (115 : Int32) → (vp_in p0 14 ∧ (vp_in p0 14 ∧ (∀ o3 : Off, o3 = st o 7 p0.toNatClampNeg (if ((o 0 1) + (3 : Int32)) < (o 7 p0.toNatClampNeg) then ((o 0 1) + (3 : Int32)) else (o 7 p0.toNatClampNeg)) → wj_X3_transfer_37 post o3 p0 p1)))))) o (o 4 p0.toNatClampNeg) p1)
set_option maxRecDepth 100000 in
set_option maxHeartbeats 4000000 in
theorem jn_X3_transfer_37 {x : gX} {l : Launch} {g : gE} {a : Nat → Nat} {o0 : Off} {post : Int32 → Off → Prop} (hC : gC x l cX3_transfer 3 RX3 g 1 22 0 0) (hZ : gZ x g (some .int) (offW g a o0) (pI (offW g a) post) 0 0) : ∀ (o : Off) (x1 : Int32) (x2 : Int32) , wj_X3_transfer_37 post o x1 x2 → G x g 3 0 0 (offW g a o) 37 [(0, .ref (a 0)), (1, .int x1), (2, .int x2)] [] := by
  intro o x1 x2 h
  rw [wj_X3_transfer_37] at h
  refine g_aload_n hC dX3_transfer_37 38 rfl rfl 0 rfl ?_
  refine g_get hC fl_X3_21 dX3_transfer_38 41 rfl 0 rfl rfl ?_
  refine g_iload_n hC dX3_transfer_41 42 rfl rfl 1 rfl ?_
  refine g_iload_n hC dX3_transfer_42 43 rfl rfl 2 rfl ?_
  obtain ⟨hi, h⟩ := h
  obtain ⟨o2, eo2⟩ : ∃ y : Off, y = st o 4 x1.toNatClampNeg x2 := ⟨_, rfl⟩
  have h := h o2 eo2
  refine g_iast hC dX3_transfer_43 44 rfl 4 rfl hi (offW_s4 eo2) ?_
  refine g_aload_n hC dX3_transfer_44 45 rfl rfl 0 rfl ?_
  refine g_get hC fl_X3_30 dX3_transfer_45 48 rfl 0 rfl rfl ?_
  refine g_iload_n hC dX3_transfer_48 49 rfl rfl 1 rfl ?_
  obtain ⟨hi, h⟩ := h
  refine g_iald hC dX3_transfer_49 50 rfl 7 rfl hi ?_
  exact g_iret hC hZ dX3_transfer_50 ⟨_, _, rfl, rfl, h⟩
set_option maxRecDepth 100000 in
set_option maxHeartbeats 4000000 in
theorem ct_X3_transfer (l : Launch) (g : gE) (a : Nat → Nat) (o : Off) (p0 : Int32) (p1 : Int32) (post : Int32 → Off → Prop) (h : wp_X3_transfer post o p0 p1) : Fn l g yX3_transfer cX3_transfer 3 (some .int) 1 22 0 0 (offW g a o) [.ref (a 0), .int p0, .int p1] (pI (offW g a) post) := by
  refine Fn.of (by decide) (Nat.le_of_ble_eq_true rfl) (fun x hC hZ => ?_)
  rw [wp_X3_transfer] at h
  show G x g 3 0 0 (offW g a o) 0 [(0, .ref (a 0)), (1, .int p0), (2, .int p1)] []
  refine g_aload_n hC dX3_transfer_0 1 rfl rfl 0 rfl ?_
  refine g_aload_n hC dX3_transfer_1 2 rfl rfl 0 rfl ?_
  refine g_get hC fl_X3_21 dX3_transfer_2 5 rfl 0 rfl rfl ?_
  refine g_iload_n hC dX3_transfer_5 6 rfl rfl 1 rfl ?_
  obtain ⟨hi, h⟩ := h
  refine g_iald hC dX3_transfer_6 7 rfl 4 rfl hi ?_
  refine g_iload_n hC dX3_transfer_7 8 rfl rfl 2 rfl ?_
  refine g_readV hC (ct_X3_clauseBetween l g a o (o 4 p0.toNatClampNeg) p1 _ h) gY_X3_clauseBetween dX3_transfer_8 11 rfl ml_X3_124 [] [] (by simp only [List.nil_append, List.append_nil]) [] rfl rfl rfl 0 7 rfl rfl ⟨Nat.le_of_ble_eq_true rfl, Nat.le_of_ble_eq_true rfl⟩ (Nat.le_of_ble_eq_true rfl) ⟨Nat.le_refl _, Nat.le_refl _⟩ (fun v1 h => ?_)
  refine g_bipush hC (115 : Int32) dX3_transfer_11 13 rfl bipush_115 ?_
  refine g_icmp_ne hC dX3_transfer_13 37 (by decide) 16 rfl (fun c => ?_) (fun c => ?_)
  · have h := h.1 c
    exact jn_X3_transfer_37 hC hZ o p0 p1 h
  · have h := h.2 c
    refine g_aload_n hC dX3_transfer_16 17 rfl rfl 0 rfl ?_
    refine g_get hC fl_X3_30 dX3_transfer_17 20 rfl 0 rfl rfl ?_
    refine g_iload_n hC dX3_transfer_20 21 rfl rfl 1 rfl ?_
    refine g_aload_n hC dX3_transfer_21 22 rfl rfl 0 rfl ?_
    refine g_get hC fl_X3_30 dX3_transfer_22 25 rfl 0 rfl rfl ?_
    refine g_iload_n hC dX3_transfer_25 26 rfl rfl 1 rfl ?_
    obtain ⟨hi, h⟩ := h
    refine g_iald hC dX3_transfer_26 27 rfl 7 rfl hi ?_
    refine g_aload_n hC dX3_transfer_27 28 rfl rfl 0 rfl ?_
    refine g_get hC fl_X3_49 dX3_transfer_28 31 rfl 0 rfl rfl ?_
    refine g_iconst hC (3 : Int32) dX3_transfer_31 32 rfl iconst_3 ?_
    refine g_iadd hC dX3_transfer_32 33 rfl ?_
    refine g_mmin hC dX3_transfer_33 36 rfl mth_X3_65 mth_min.1 mth_min.2.1 mth_min.2.2 ⟨Nat.le_of_ble_eq_true rfl, Nat.le_of_ble_eq_true rfl, Nat.le_refl _, Nat.le_refl _⟩ (Nat.le_of_ble_eq_true rfl) ?_
    obtain ⟨hi, h⟩ := h
    obtain ⟨o3, eo3⟩ : ∃ y : Off, y = st o 7 p0.toNatClampNeg (if ((o 0 1) + (3 : Int32)) < (o 7 p0.toNatClampNeg) then ((o 0 1) + (3 : Int32)) else (o 7 p0.toNatClampNeg)) := ⟨_, rfl⟩
    have h := h o3 eo3
    refine g_iast hC dX3_transfer_36 37 rfl 7 rfl hi (offW_s7 eo3) ?_
    exact jn_X3_transfer_37 hC hZ o3 p0 p1 h
def wl_X3_pairsIn_4 (post : Int32 → Prop) (o : Off) : Nat → Int32 → Int32 → Int32 → Prop
  | 0, _, _, _ => False
  | n + 1, x1, x2, x3 => (((o 0 0) ≤ x3 → post (x2 / (2 : Int32))) ∧ (¬ (o 0 0) ≤ x3 → wp_X3_is (fun v1 => ((v1 = 0 → (∀ v2 : Int32, v2 = x3 + (1 : Int32) → wl_X3_pairsIn_4 post o n x1 x2 v2)) ∧ (¬ v1 = 0 → (vp_in x3 14 ∧ (((o 8 x3.toNatClampNeg) = (-1 : Int32) → (∀ v3 : Int32, v3 = x3 + (1 : Int32) → wl_X3_pairsIn_4 post o n x1 x2 v3)) ∧ (¬ (o 8 x3.toNatClampNeg) = (-1 : Int32) → (∀ v4 : Int32, v4 = x2 + (1 : Int32) → (∀ v5 : Int32, v5 = x3 + (1 : Int32) → wl_X3_pairsIn_4 post o n x1 v4 v5)))))))) o x3 (3 : Int32) x1))
def wp_X3_pairsIn (post : Int32 → Prop) (o : Off) (p0 : Int32) : Prop := (∃ m : Nat, wl_X3_pairsIn_4 post o m p0 (0 : Int32) (0 : Int32))
set_option maxRecDepth 100000 in
set_option maxHeartbeats 4000000 in
theorem lp_X3_pairsIn_4 {x : gX} {l : Launch} {g : gE} {a : Nat → Nat} {o : Off} {post : Int32 → Prop} (hC : gC x l cX3_pairsIn 4 RX3 g 1 23 0 0) (hZ : gZ x g (some .int) (offW g a o) (pR (offW g a o) post) 0 0) : ∀ (n : Nat) (x1 : Int32) (x2 : Int32) (x3 : Int32) , wl_X3_pairsIn_4 post o n x1 x2 x3 → G x g 4 0 0 (offW g a o) 4 [(0, .ref (a 0)), (1, .int x1), (2, .int x2), (3, .int x3)] [] := by
  intro n
  induction n with
  | zero =>
    intro x1 x2 x3 h
    exact h.elim
  | succ n ih =>
    intro x1 x2 x3 h
    rw [wl_X3_pairsIn_4] at h
    refine g_iload_n hC dX3_pairsIn_4 5 rfl rfl 3 rfl ?_
    refine g_aload_n hC dX3_pairsIn_5 6 rfl rfl 0 rfl ?_
    refine g_get hC fl_X3_45 dX3_pairsIn_6 9 rfl 0 rfl rfl ?_
    refine g_icmp_ge hC dX3_pairsIn_9 41 (by decide) 12 rfl (fun c => ?_) (fun c => ?_)
    · have h := h.1 c
      refine g_iload_n hC dX3_pairsIn_41 42 rfl rfl 2 rfl ?_
      refine g_iconst hC (2 : Int32) dX3_pairsIn_42 43 rfl iconst_2 ?_
      refine g_idiv hC dX3_pairsIn_43 44 rfl (by decide) ?_
      exact g_iret hC hZ dX3_pairsIn_44 ⟨_, rfl, rfl, h⟩
    · have h := h.2 c
      refine g_aload_n hC dX3_pairsIn_12 13 rfl rfl 0 rfl ?_
      refine g_iload_n hC dX3_pairsIn_13 14 rfl rfl 3 rfl ?_
      refine g_iconst hC (3 : Int32) dX3_pairsIn_14 15 rfl iconst_3 ?_
      refine g_iload_n hC dX3_pairsIn_15 16 rfl rfl 1 rfl ?_
      refine g_readV hC (ct_X3_is l g a o x3 (3 : Int32) x1 _ h) gY_X3_is dX3_pairsIn_16 19 rfl ml_X3_77 [] [] (by simp only [List.nil_append, List.append_nil]) [] rfl rfl rfl 0 7 rfl rfl ⟨Nat.le_of_ble_eq_true rfl, Nat.le_of_ble_eq_true rfl⟩ (Nat.le_of_ble_eq_true rfl) ⟨Nat.le_refl _, Nat.le_refl _⟩ (fun v1 h => ?_)
      refine g_if_eq hC dX3_pairsIn_19 35 (by decide) 22 rfl (fun c => ?_) (fun c => ?_)
      · have h := h.1 c
        obtain ⟨v2, ev2⟩ : ∃ y : Int32, y = x3 + (1 : Int32) := ⟨_, rfl⟩
        have h := h v2 ev2
        refine g_iinc (v2 := v2) (lv2 := [(3, .int v2), (0, .ref (a 0)), (1, .int x1), (2, .int x2)]) hC dX3_pairsIn_35 38 rfl 3 rfl (by rw [iconst_1, ev2]) (by decide) rfl ?_
        refine g_goto hC dX3_pairsIn_38 4 (by decide) ?_
        refine g_lv (lv2 := [(0, .ref (a 0)), (1, .int x1), (2, .int x2), (3, .int v2)]) [1, 2, 3, 0] rfl ?_
        exact ih x1 x2 v2 h
      · have h := h.2 c
        refine g_aload_n hC dX3_pairsIn_22 23 rfl rfl 0 rfl ?_
        refine g_get hC fl_X3_33 dX3_pairsIn_23 26 rfl 0 rfl rfl ?_
        refine g_iload_n hC dX3_pairsIn_26 27 rfl rfl 3 rfl ?_
        obtain ⟨hi, h⟩ := h
        refine g_iald hC dX3_pairsIn_27 28 rfl 8 rfl hi ?_
        refine g_iconst hC (-1 : Int32) dX3_pairsIn_28 29 rfl iconst_m1 ?_
        refine g_icmp_eq hC dX3_pairsIn_29 35 (by decide) 32 rfl (fun c => ?_) (fun c => ?_)
        · have h := h.1 c
          obtain ⟨v3, ev3⟩ : ∃ y : Int32, y = x3 + (1 : Int32) := ⟨_, rfl⟩
          have h := h v3 ev3
          refine g_iinc (v2 := v3) (lv2 := [(3, .int v3), (0, .ref (a 0)), (1, .int x1), (2, .int x2)]) hC dX3_pairsIn_35 38 rfl 3 rfl (by rw [iconst_1, ev3]) (by decide) rfl ?_
          refine g_goto hC dX3_pairsIn_38 4 (by decide) ?_
          refine g_lv (lv2 := [(0, .ref (a 0)), (1, .int x1), (2, .int x2), (3, .int v3)]) [1, 2, 3, 0] rfl ?_
          exact ih x1 x2 v3 h
        · have h := h.2 c
          obtain ⟨v4, ev4⟩ : ∃ y : Int32, y = x2 + (1 : Int32) := ⟨_, rfl⟩
          have h := h v4 ev4
          refine g_iinc (v2 := v4) (lv2 := [(2, .int v4), (0, .ref (a 0)), (1, .int x1), (3, .int x3)]) hC dX3_pairsIn_32 35 rfl 2 rfl (by rw [iconst_1, ev4]) (by decide) rfl ?_
          obtain ⟨v5, ev5⟩ : ∃ y : Int32, y = x3 + (1 : Int32) := ⟨_, rfl⟩
          have h := h v5 ev5
          refine g_iinc (v2 := v5) (lv2 := [(3, .int v5), (2, .int v4), (0, .ref (a 0)), (1, .int x1)]) hC dX3_pairsIn_35 38 rfl 3 rfl (by rw [iconst_1, ev5]) (by decide) rfl ?_
          refine g_goto hC dX3_pairsIn_38 4 (by decide) ?_
          refine g_lv (lv2 := [(0, .ref (a 0)), (1, .int x1), (2, .int v4), (3, .int v5)]) [2, 3, 1, 0] rfl ?_
          exact ih x1 v4 v5 h
set_option maxRecDepth 100000 in
set_option maxHeartbeats 4000000 in
theorem ct_X3_pairsIn (l : Launch) (g : gE) (a : Nat → Nat) (o : Off) (p0 : Int32) (post : Int32 → Prop) (h : wp_X3_pairsIn post o p0) : Fn l g yX3_pairsIn cX3_pairsIn 4 (some .int) 1 23 0 0 (offW g a o) [.ref (a 0), .int p0] (pR (offW g a o) post) := by
  refine Fn.of (by decide) (Nat.le_of_ble_eq_true rfl) (fun x hC hZ => ?_)
  rw [wp_X3_pairsIn] at h
  show G x g 4 0 0 (offW g a o) 0 [(0, .ref (a 0)), (1, .int p0)] []
  refine g_iconst hC (0 : Int32) dX3_pairsIn_0 1 rfl iconst_0 ?_
  refine g_istore_n (lv2 := [(2, .int (0 : Int32)), (0, .ref (a 0)), (1, .int p0)]) hC dX3_pairsIn_1 2 rfl rfl (by decide) rfl ?_
  refine g_iconst hC (0 : Int32) dX3_pairsIn_2 3 rfl iconst_0 ?_
  refine g_istore_n (lv2 := [(3, .int (0 : Int32)), (2, .int (0 : Int32)), (0, .ref (a 0)), (1, .int p0)]) hC dX3_pairsIn_3 4 rfl rfl (by decide) rfl ?_
  refine g_lv (lv2 := [(0, .ref (a 0)), (1, .int p0), (2, .int (0 : Int32)), (3, .int (0 : Int32))]) [2, 3, 1, 0] rfl ?_
  obtain ⟨m, h⟩ := h
  exact lp_X3_pairsIn_4 hC hZ m p0 (0 : Int32) (0 : Int32) h
def wp_X3_join (post : Int32 → Off → Prop) (o : Off) (p0 : Int32) (p1 : Int32) : Prop := (vp_in p0 14 ∧ (∀ o1 : Off, o1 = st o 8 p0.toNatClampNeg p1 → (vp_in p1 14 ∧ (∀ o2 : Off, o2 = st o1 8 p1.toNatClampNeg p0 → (vp_in p0 14 ∧ wp_X3_pairsIn (fun v3 => post v3 o2) o2 (o2 4 p0.toNatClampNeg))))))
set_option maxRecDepth 100000 in
set_option maxHeartbeats 4000000 in
theorem ct_X3_join (l : Launch) (g : gE) (a : Nat → Nat) (o : Off) (p0 : Int32) (p1 : Int32) (post : Int32 → Off → Prop) (h : wp_X3_join post o p0 p1) : Fn l g yX3_join cX3_join 3 (some .int) 2 46 0 0 (offW g a o) [.ref (a 0), .int p0, .int p1] (pI (offW g a) post) := by
  refine Fn.of (by decide) (Nat.le_of_ble_eq_true rfl) (fun x hC hZ => ?_)
  rw [wp_X3_join] at h
  show G x g 3 0 0 (offW g a o) 0 [(0, .ref (a 0)), (1, .int p0), (2, .int p1)] []
  refine g_aload_n hC dX3_join_0 1 rfl rfl 0 rfl ?_
  refine g_get hC fl_X3_33 dX3_join_1 4 rfl 0 rfl rfl ?_
  refine g_iload_n hC dX3_join_4 5 rfl rfl 1 rfl ?_
  refine g_iload_n hC dX3_join_5 6 rfl rfl 2 rfl ?_
  obtain ⟨hi, h⟩ := h
  obtain ⟨o1, eo1⟩ : ∃ y : Off, y = st o 8 p0.toNatClampNeg p1 := ⟨_, rfl⟩
  have h := h o1 eo1
  refine g_iast hC dX3_join_6 7 rfl 8 rfl hi (offW_s8 eo1) ?_
  refine g_aload_n hC dX3_join_7 8 rfl rfl 0 rfl ?_
  refine g_get hC fl_X3_33 dX3_join_8 11 rfl 0 rfl rfl ?_
  refine g_iload_n hC dX3_join_11 12 rfl rfl 2 rfl ?_
  refine g_iload_n hC dX3_join_12 13 rfl rfl 1 rfl ?_
  obtain ⟨hi, h⟩ := h
  obtain ⟨o2, eo2⟩ : ∃ y : Off, y = st o1 8 p1.toNatClampNeg p0 := ⟨_, rfl⟩
  have h := h o2 eo2
  refine g_iast hC dX3_join_13 14 rfl 8 rfl hi (offW_s8 eo2) ?_
  refine g_aload_n hC dX3_join_14 15 rfl rfl 0 rfl ?_
  refine g_aload_n hC dX3_join_15 16 rfl rfl 0 rfl ?_
  refine g_get hC fl_X3_21 dX3_join_16 19 rfl 0 rfl rfl ?_
  refine g_iload_n hC dX3_join_19 20 rfl rfl 1 rfl ?_
  obtain ⟨hi, h⟩ := h
  refine g_iald hC dX3_join_20 21 rfl 4 rfl hi ?_
  refine g_readV hC (ct_X3_pairsIn l g a o2 (o2 4 p0.toNatClampNeg) _ h) gY_X3_pairsIn dX3_join_21 24 rfl ml_X3_127 [] [] (by simp only [List.nil_append, List.append_nil]) [] rfl rfl rfl 0 7 rfl rfl ⟨Nat.le_of_ble_eq_true rfl, Nat.le_of_ble_eq_true rfl⟩ (Nat.le_of_ble_eq_true rfl) ⟨Nat.le_refl _, Nat.le_refl _⟩ (fun v3 h => ?_)
  exact g_iret hC hZ dX3_join_24 ⟨_, _, rfl, rfl, h⟩
def wp_X3_part (post : Int32 → Off → Prop) (o : Off) (p0 : Int32) : Prop := (vp_in p0 14 ∧ (∀ v1 : Int32, v1 = (o 8 p0.toNatClampNeg) → (vp_in p0 14 ∧ (∀ o2 : Off, o2 = st o 8 p0.toNatClampNeg (-1 : Int32) → wp_X3_isSock (fun v3 => ((v3 = 0 → post v1 o2) ∧ (¬ v3 = 0 → (vp_in v1 14 ∧ (∀ o4 : Off, o4 = st o2 8 v1.toNatClampNeg (-1 : Int32) → post v1 o4))))) o2 v1))))
set_option maxRecDepth 100000 in
set_option maxHeartbeats 4000000 in
theorem ct_X3_part (l : Launch) (g : gE) (a : Nat → Nat) (o : Off) (p0 : Int32) (post : Int32 → Off → Prop) (h : wp_X3_part post o p0) : Fn l g yX3_part cX3_part 3 (some .int) 1 21 0 0 (offW g a o) [.ref (a 0), .int p0] (pI (offW g a) post) := by
  refine Fn.of (by decide) (Nat.le_of_ble_eq_true rfl) (fun x hC hZ => ?_)
  rw [wp_X3_part] at h
  show G x g 3 0 0 (offW g a o) 0 [(0, .ref (a 0)), (1, .int p0)] []
  refine g_aload_n hC dX3_part_0 1 rfl rfl 0 rfl ?_
  refine g_get hC fl_X3_33 dX3_part_1 4 rfl 0 rfl rfl ?_
  refine g_iload_n hC dX3_part_4 5 rfl rfl 1 rfl ?_
  obtain ⟨hi, h⟩ := h
  refine g_iald hC dX3_part_5 6 rfl 8 rfl hi ?_
  refine g_topi (fun v1 ev1 => ?_)
  have h := h v1 ev1
  refine g_istore_n (lv2 := [(2, .int v1), (0, .ref (a 0)), (1, .int p0)]) hC dX3_part_6 7 rfl rfl (by decide) rfl ?_
  refine g_aload_n hC dX3_part_7 8 rfl rfl 1 rfl ?_
  refine g_get hC fl_X3_33 dX3_part_8 11 rfl 0 rfl rfl ?_
  refine g_iload_n hC dX3_part_11 12 rfl rfl 2 rfl ?_
  refine g_iconst hC (-1 : Int32) dX3_part_12 13 rfl iconst_m1 ?_
  obtain ⟨hi, h⟩ := h
  obtain ⟨o2, eo2⟩ : ∃ y : Off, y = st o 8 p0.toNatClampNeg (-1 : Int32) := ⟨_, rfl⟩
  have h := h o2 eo2
  refine g_iast hC dX3_part_13 14 rfl 8 rfl hi (offW_s8 eo2) ?_
  refine g_aload_n hC dX3_part_14 15 rfl rfl 1 rfl ?_
  refine g_iload_n hC dX3_part_15 16 rfl rfl 0 rfl ?_
  refine g_readV hC (ct_X3_isSock l g a o2 v1 _ h) gY_X3_isSock dX3_part_16 19 rfl ml_X3_130 [] [] (by simp only [List.nil_append, List.append_nil]) [] rfl rfl rfl 0 7 rfl rfl ⟨Nat.le_of_ble_eq_true rfl, Nat.le_of_ble_eq_true rfl⟩ (Nat.le_of_ble_eq_true rfl) ⟨Nat.le_refl _, Nat.le_refl _⟩ (fun v3 h => ?_)
  refine g_if_eq hC dX3_part_19 29 (by decide) 22 rfl (fun c => ?_) (fun c => ?_)
  · have h := h.1 c
    refine g_iload_n hC dX3_part_29 30 rfl rfl 0 rfl ?_
    exact g_iret hC hZ dX3_part_30 ⟨_, _, rfl, rfl, h⟩
  · have h := h.2 c
    refine g_aload_n hC dX3_part_22 23 rfl rfl 1 rfl ?_
    refine g_get hC fl_X3_33 dX3_part_23 26 rfl 0 rfl rfl ?_
    refine g_iload_n hC dX3_part_26 27 rfl rfl 0 rfl ?_
    refine g_iconst hC (-1 : Int32) dX3_part_27 28 rfl iconst_m1 ?_
    obtain ⟨hi, h⟩ := h
    obtain ⟨o4, eo4⟩ : ∃ y : Off, y = st o2 8 v1.toNatClampNeg (-1 : Int32) := ⟨_, rfl⟩
    have h := h o4 eo4
    refine g_iast hC dX3_part_28 29 rfl 8 rfl hi (offW_s8 eo4) ?_
    refine g_iload_n hC dX3_part_29 30 rfl rfl 0 rfl ?_
    exact g_iret hC hZ dX3_part_30 ⟨_, _, rfl, rfl, h⟩
def wp_X3_isSingle (post : Int32 → Prop) (o : Off) (p0 : Int32) (p1 : Int32) : Prop := wp_X3_is (fun v1 => ((v1 = 0 → post (0 : Int32)) ∧ (¬ v1 = 0 → (vp_in p0 14 ∧ ((¬ (o 8 p0.toNatClampNeg) = (-1 : Int32) → post (0 : Int32)) ∧ ((o 8 p0.toNatClampNeg) = (-1 : Int32) → post (1 : Int32))))))) o p0 (3 : Int32) p1
set_option maxRecDepth 100000 in
set_option maxHeartbeats 4000000 in
theorem ct_X3_isSingle (l : Launch) (g : gE) (a : Nat → Nat) (o : Off) (p0 : Int32) (p1 : Int32) (post : Int32 → Prop) (h : wp_X3_isSingle post o p0 p1) : Fn l g yX3_isSingle cX3_isSingle 3 (some .boolean) 1 23 0 0 (offW g a o) [.ref (a 0), .int p0, .int p1] (pR (offW g a o) post) := by
  refine Fn.of (by decide) (Nat.le_of_ble_eq_true rfl) (fun x hC hZ => ?_)
  rw [wp_X3_isSingle] at h
  show G x g 3 0 0 (offW g a o) 0 [(0, .ref (a 0)), (1, .int p0), (2, .int p1)] []
  refine g_aload_n hC dX3_isSingle_0 1 rfl rfl 0 rfl ?_
  refine g_iload_n hC dX3_isSingle_1 2 rfl rfl 1 rfl ?_
  refine g_iconst hC (3 : Int32) dX3_isSingle_2 3 rfl iconst_3 ?_
  refine g_iload_n hC dX3_isSingle_3 4 rfl rfl 2 rfl ?_
  refine g_readV hC (ct_X3_is l g a o p0 (3 : Int32) p1 _ h) gY_X3_is dX3_isSingle_4 7 rfl ml_X3_77 [] [] (by simp only [List.nil_append, List.append_nil]) [] rfl rfl rfl 0 7 rfl rfl ⟨Nat.le_of_ble_eq_true rfl, Nat.le_of_ble_eq_true rfl⟩ (Nat.le_of_ble_eq_true rfl) ⟨Nat.le_refl _, Nat.le_refl _⟩ (fun v1 h => ?_)
  refine g_if_eq hC dX3_isSingle_7 24 (by decide) 10 rfl (fun c => ?_) (fun c => ?_)
  · have h := h.1 c
    refine g_iconst hC (0 : Int32) dX3_isSingle_24 25 rfl iconst_0 ?_
    exact g_zret hC hZ rfl dX3_isSingle_25 ⟨_, rfl, rfl, h⟩
  · have h := h.2 c
    refine g_aload_n hC dX3_isSingle_10 11 rfl rfl 0 rfl ?_
    refine g_get hC fl_X3_33 dX3_isSingle_11 14 rfl 0 rfl rfl ?_
    refine g_iload_n hC dX3_isSingle_14 15 rfl rfl 1 rfl ?_
    obtain ⟨hi, h⟩ := h
    refine g_iald hC dX3_isSingle_15 16 rfl 8 rfl hi ?_
    refine g_iconst hC (-1 : Int32) dX3_isSingle_16 17 rfl iconst_m1 ?_
    refine g_icmp_ne hC dX3_isSingle_17 24 (by decide) 20 rfl (fun c => ?_) (fun c => ?_)
    · have h := h.1 c
      refine g_iconst hC (0 : Int32) dX3_isSingle_24 25 rfl iconst_0 ?_
      exact g_zret hC hZ rfl dX3_isSingle_25 ⟨_, rfl, rfl, h⟩
    · have h := h.2 c
      refine g_iconst hC (1 : Int32) dX3_isSingle_20 21 rfl iconst_1 ?_
      refine g_goto hC dX3_isSingle_21 25 (by decide) ?_
      exact g_zret hC hZ rfl dX3_isSingle_25 ⟨_, rfl, rfl, h⟩
def wl_X3_mostPairs_58 (post : Int32 → Prop) (o : Off) (REC : (Int32 → Prop) → Int32 → Int32 → Prop) : Nat → Int32 → Int32 → Int32 → Int32 → Int32 → Prop
  | 0, _, _, _, _, _ => False
  | n + 1, x2, x3, x4, x5, x6 => (((o 0 0) ≤ x6 → post x5) ∧ (¬ (o 0 0) ≤ x6 → ((x4 ≤ x5 → post x5) ∧ (¬ x4 ≤ x5 → wp_X3_hasBit (fun v7 => ((v7 = 0 → (∀ v8 : Int32, v8 = x6 + (1 : Int32) → wl_X3_mostPairs_58 post o REC n x2 x3 x4 x5 v8)) ∧ (¬ v7 = 0 → wp_X3_match (fun v9 => ((v9 = 0 → (∀ v10 : Int32, v10 = x6 + (1 : Int32) → wl_X3_mostPairs_58 post o REC n x2 x3 x4 x5 v10)) ∧ (¬ v9 = 0 → REC (fun v11 => (∀ v12 : Int32, v12 = (if x5 < ((1 : Int32) + v11) then ((1 : Int32) + v11) else x5) → (∀ v13 : Int32, v13 = x6 + (1 : Int32) → wl_X3_mostPairs_58 post o REC n x2 x3 x4 v12 v13))) (x3 &&& (((1 : Int32) <<< (x6 &&& 31)) ^^^ (-1 : Int32))) (x2 + (1 : Int32))))) o x2 x6))) x3 x6))))
def wp_X3_mostPairs : Nat → (Int32 → Prop) → Off → Int32 → Int32 → Prop
  | 0, _, _, _, _ => False
  | d + 1, post, o, p0, p1 => ((p1 < (o 0 0) → wp_X3_hasBit (fun v1 => ((¬ v1 = 0 → (∀ v2 : Int32, v2 = (p0 &&& (((1 : Int32) <<< (p1 &&& 31)) ^^^ (-1 : Int32))) → wp_J6_bitCount_0f7a4 (fun v3 => (∀ v4 : Int32, v4 = (v3 / (2 : Int32)) → (fun q f k => wp_X3_mostPairs d q o f k) (fun v5 => (∀ v6 : Int32, v6 = (p1 + (1 : Int32)) → (∃ m : Nat, wl_X3_mostPairs_58 post o (fun q f k => wp_X3_mostPairs d q o f k) m p1 v2 v4 v5 v6))) v2 (p1 + (1 : Int32)))) p0)) ∧ (v1 = 0 → (fun q f k => wp_X3_mostPairs d q o f k) (fun v14 => post v14) p0 (p1 + (1 : Int32))))) p0 p1) ∧ (¬ p1 < (o 0 0) → post (0 : Int32)))
set_option maxRecDepth 100000 in
set_option maxHeartbeats 4000000 in
theorem lp_X3_mostPairs_58 {x : gX} {l : Launch} {g : gE} {d : Nat} {a : Nat → Nat} {o : Off} {REC : (Int32 → Prop) → Int32 → Int32 → Prop} (hREC : ∀ (q : Int32 → Prop) (f k : Int32), REC q f k → Fn l g yX3_mostPairs cX3_mostPairs 7 (some .int) (d) (40 * (d)) 0 0 (offW g a o) [.ref (a 0), .int f, .int k] (pR (offW g a o) q)) {post : Int32 → Prop} (hC : gC x l cX3_mostPairs 7 RX3 g (d + 1) (40 * (d + 1)) 0 0) (hZ : gZ x g (some .int) (offW g a o) (pR (offW g a o) post) 0 0) : ∀ (n : Nat) (x2 : Int32) (x3 : Int32) (x4 : Int32) (x5 : Int32) (x6 : Int32) , wl_X3_mostPairs_58 post o REC n x2 x3 x4 x5 x6 → G x g 7 0 0 (offW g a o) 58 [(0, .ref (a 0)), (2, .int x2), (3, .int x3), (4, .int x4), (5, .int x5), (6, .int x6)] [] := by
  intro n
  induction n with
  | zero =>
    intro x2 x3 x4 x5 x6 h
    exact h.elim
  | succ n ih =>
    intro x2 x3 x4 x5 x6 h
    rw [wl_X3_mostPairs_58] at h
    refine g_iload hC dX3_mostPairs_58 60 rfl 5 rfl ?_
    refine g_aload_n hC dX3_mostPairs_60 61 rfl rfl 0 rfl ?_
    refine g_get hC fl_X3_45 dX3_mostPairs_61 64 rfl 0 rfl rfl ?_
    refine g_icmp_ge hC dX3_mostPairs_64 123 (by decide) 67 rfl (fun c => ?_) (fun c => ?_)
    · have h := h.1 c
      refine g_iload hC dX3_mostPairs_123 125 rfl 4 rfl ?_
      exact g_iret hC hZ dX3_mostPairs_125 ⟨_, rfl, rfl, h⟩
    · have h := h.2 c
      refine g_iload hC dX3_mostPairs_67 69 rfl 4 rfl ?_
      refine g_iload hC dX3_mostPairs_69 71 rfl 3 rfl ?_
      refine g_icmp_ge hC dX3_mostPairs_71 123 (by decide) 74 rfl (fun c => ?_) (fun c => ?_)
      · have h := h.1 c
        refine g_iload hC dX3_mostPairs_123 125 rfl 4 rfl ?_
        exact g_iret hC hZ dX3_mostPairs_125 ⟨_, rfl, rfl, h⟩
      · have h := h.2 c
        refine g_iload_n hC dX3_mostPairs_74 75 rfl rfl 2 rfl ?_
        refine g_iload hC dX3_mostPairs_75 77 rfl 5 rfl ?_
        refine g_readS hC (ct_X3_hasBit l g x3 x6 _ h) gY_X3_hasBit dX3_mostPairs_77 80 rfl ml_X3_92 [] _ rfl [] rfl rfl ⟨by omega, by omega⟩ (Nat.le_of_ble_eq_true rfl) ⟨Nat.le_refl _, Nat.le_refl _⟩ (fun v7 h => ?_)
        refine g_if_eq hC dX3_mostPairs_80 117 (by decide) 83 rfl (fun c => ?_) (fun c => ?_)
        · have h := h.1 c
          obtain ⟨v8, ev8⟩ : ∃ y : Int32, y = x6 + (1 : Int32) := ⟨_, rfl⟩
          have h := h v8 ev8
          refine g_iinc (v2 := v8) (lv2 := [(6, .int v8), (0, .ref (a 0)), (2, .int x2), (3, .int x3), (4, .int x4), (5, .int x5)]) hC dX3_mostPairs_117 120 rfl 5 rfl (by rw [iconst_1, ev8]) (by decide) rfl ?_
          refine g_goto hC dX3_mostPairs_120 58 (by decide) ?_
          refine g_lv (lv2 := [(0, .ref (a 0)), (2, .int x2), (3, .int x3), (4, .int x4), (5, .int x5), (6, .int v8)]) [1, 2, 3, 4, 5, 0] rfl ?_
          exact ih x2 x3 x4 x5 v8 h
        · have h := h.2 c
          refine g_aload_n hC dX3_mostPairs_83 84 rfl rfl 0 rfl ?_
          refine g_iload_n hC dX3_mostPairs_84 85 rfl rfl 1 rfl ?_
          refine g_iload hC dX3_mostPairs_85 87 rfl 5 rfl ?_
          refine g_readV hC (ct_X3_match l g a o x2 x6 _ h) gY_X3_match dX3_mostPairs_87 90 rfl ml_X3_145 [] [] (by simp only [List.nil_append, List.append_nil]) [] rfl rfl rfl 0 7 rfl rfl ⟨by omega, by omega⟩ (Nat.le_of_ble_eq_true rfl) ⟨Nat.le_refl _, Nat.le_refl _⟩ (fun v9 h => ?_)
          refine g_if_eq hC dX3_mostPairs_90 117 (by decide) 93 rfl (fun c => ?_) (fun c => ?_)
          · have h := h.1 c
            obtain ⟨v10, ev10⟩ : ∃ y : Int32, y = x6 + (1 : Int32) := ⟨_, rfl⟩
            have h := h v10 ev10
            refine g_iinc (v2 := v10) (lv2 := [(6, .int v10), (0, .ref (a 0)), (2, .int x2), (3, .int x3), (4, .int x4), (5, .int x5)]) hC dX3_mostPairs_117 120 rfl 5 rfl (by rw [iconst_1, ev10]) (by decide) rfl ?_
            refine g_goto hC dX3_mostPairs_120 58 (by decide) ?_
            refine g_lv (lv2 := [(0, .ref (a 0)), (2, .int x2), (3, .int x3), (4, .int x4), (5, .int x5), (6, .int v10)]) [1, 2, 3, 4, 5, 0] rfl ?_
            exact ih x2 x3 x4 x5 v10 h
          · have h := h.2 c
            refine g_iload hC dX3_mostPairs_93 95 rfl 4 rfl ?_
            refine g_iconst hC (1 : Int32) dX3_mostPairs_95 96 rfl iconst_1 ?_
            refine g_aload_n hC dX3_mostPairs_96 97 rfl rfl 0 rfl ?_
            refine g_iload_n hC dX3_mostPairs_97 98 rfl rfl 2 rfl ?_
            refine g_iconst hC (1 : Int32) dX3_mostPairs_98 99 rfl iconst_1 ?_
            refine g_iload hC dX3_mostPairs_99 101 rfl 5 rfl ?_
            refine g_ishl hC dX3_mostPairs_101 102 rfl ?_
            refine g_iconst hC (-1 : Int32) dX3_mostPairs_102 103 rfl iconst_m1 ?_
            refine g_ixor hC dX3_mostPairs_103 104 rfl ?_
            refine g_iand hC dX3_mostPairs_104 105 rfl ?_
            refine g_iload_n hC dX3_mostPairs_105 106 rfl rfl 1 rfl ?_
            refine g_iconst hC (1 : Int32) dX3_mostPairs_106 107 rfl iconst_1 ?_
            refine g_iadd hC dX3_mostPairs_107 108 rfl ?_
            refine g_readS hC (hREC _ (x3 &&& (((1 : Int32) <<< (x6 &&& 31)) ^^^ (-1 : Int32))) (x2 + (1 : Int32)) h) gY_X3_mostPairs dX3_mostPairs_108 111 rfl ml_X3_136 [] [] (by simp only [List.nil_append, List.append_nil]) [.int (1 : Int32), .int x5] rfl rfl ⟨by omega, by omega⟩ (Nat.le_of_ble_eq_true rfl) ⟨Nat.le_refl _, Nat.le_refl _⟩ (fun v11 h => ?_)
            refine g_iadd hC dX3_mostPairs_111 112 rfl ?_
            refine g_mmax hC dX3_mostPairs_112 115 rfl mth_X3_115 mth_max.1 mth_max.2.1 mth_max.2.2 ⟨by omega, by omega, Nat.le_refl _, Nat.le_refl _⟩ (Nat.le_of_ble_eq_true rfl) ?_
            refine g_topi (fun v12 ev12 => ?_)
            have h := h v12 ev12
            refine g_istore (lv2 := [(5, .int v12), (0, .ref (a 0)), (2, .int x2), (3, .int x3), (4, .int x4), (6, .int x6)]) hC dX3_mostPairs_115 117 rfl (by decide) rfl ?_
            obtain ⟨v13, ev13⟩ : ∃ y : Int32, y = x6 + (1 : Int32) := ⟨_, rfl⟩
            have h := h v13 ev13
            refine g_iinc (v2 := v13) (lv2 := [(6, .int v13), (5, .int v12), (0, .ref (a 0)), (2, .int x2), (3, .int x3), (4, .int x4)]) hC dX3_mostPairs_117 120 rfl 5 rfl (by rw [iconst_1, ev13]) (by decide) rfl ?_
            refine g_goto hC dX3_mostPairs_120 58 (by decide) ?_
            refine g_lv (lv2 := [(0, .ref (a 0)), (2, .int x2), (3, .int x3), (4, .int x4), (5, .int v12), (6, .int v13)]) [2, 3, 4, 5, 1, 0] rfl ?_
            exact ih x2 x3 x4 v12 v13 h
set_option maxRecDepth 100000 in
set_option maxHeartbeats 4000000 in
theorem ct_X3_mostPairs (l : Launch) (g : gE) (a : Nat → Nat) (o : Off) : ∀ (d : Nat) (p0 p1 : Int32) (post : Int32 → Prop), wp_X3_mostPairs d post o p0 p1 → Fn l g yX3_mostPairs cX3_mostPairs 7 (some .int) (d) (40 * (d)) 0 0 (offW g a o) [.ref (a 0), .int p0, .int p1] (pR (offW g a o) post) := by
  intro d
  induction d with
  | zero =>
    intro p0 p1 post h
    exact h.elim
  | succ d ihd =>
    intro p0 p1 post h
    rw [wp_X3_mostPairs] at h
    have hREC : ∀ (q : Int32 → Prop) (f k : Int32), (fun (q : Int32 → Prop) (f k : Int32) => wp_X3_mostPairs d q o f k) q f k → Fn l g yX3_mostPairs cX3_mostPairs 7 (some .int) (d) (40 * (d)) 0 0 (offW g a o) [.ref (a 0), .int f, .int k] (pR (offW g a o) q) := fun q f k h => ihd f k q h
    refine Fn.of (by decide) (Nat.le_of_ble_eq_true rfl) (fun x hC hZ => ?_)
    show G x g 7 0 0 (offW g a o) 0 [(0, .ref (a 0)), (1, .int p0), (2, .int p1)] []
    refine g_iload_n hC dX3_mostPairs_0 1 rfl rfl 2 rfl ?_
    refine g_aload_n hC dX3_mostPairs_1 2 rfl rfl 0 rfl ?_
    refine g_get hC fl_X3_45 dX3_mostPairs_2 5 rfl 0 rfl rfl ?_
    refine g_icmp_lt hC dX3_mostPairs_5 10 (by decide) 8 rfl (fun c => ?_) (fun c => ?_)
    · have h := h.1 c
      refine g_iload_n hC dX3_mostPairs_10 11 rfl rfl 1 rfl ?_
      refine g_iload_n hC dX3_mostPairs_11 12 rfl rfl 2 rfl ?_
      refine g_readS hC (ct_X3_hasBit l g p0 p1 _ h) gY_X3_hasBit dX3_mostPairs_12 15 rfl ml_X3_92 [] _ rfl [] rfl rfl ⟨by omega, by omega⟩ (Nat.le_of_ble_eq_true rfl) ⟨Nat.le_refl _, Nat.le_refl _⟩ (fun v1 h => ?_)
      refine g_if_ne hC dX3_mostPairs_15 27 (by decide) 18 rfl (fun c => ?_) (fun c => ?_)
      · have h := h.1 c
        refine g_iload_n hC dX3_mostPairs_27 28 rfl rfl 1 rfl ?_
        refine g_iconst hC (1 : Int32) dX3_mostPairs_28 29 rfl iconst_1 ?_
        refine g_iload_n hC dX3_mostPairs_29 30 rfl rfl 2 rfl ?_
        refine g_ishl hC dX3_mostPairs_30 31 rfl ?_
        refine g_iconst hC (-1 : Int32) dX3_mostPairs_31 32 rfl iconst_m1 ?_
        refine g_ixor hC dX3_mostPairs_32 33 rfl ?_
        refine g_iand hC dX3_mostPairs_33 34 rfl ?_
        refine g_topi (fun v2 ev2 => ?_)
        have h := h v2 ev2
        refine g_istore_n (lv2 := [(3, .int v2), (0, .ref (a 0)), (1, .int p0), (2, .int p1)]) hC dX3_mostPairs_34 35 rfl rfl (by decide) rfl ?_
        refine g_iload_n hC dX3_mostPairs_35 36 rfl rfl 2 rfl ?_
        refine g_readS hC (ct_J6_bitCount_0f7a4 l g p0 _ h) gY_J6_bitCount_0f7a4 dX3_mostPairs_36 39 rfl ml_X3_140 [] _ rfl [] rfl rfl ⟨by omega, by omega⟩ (Nat.le_of_ble_eq_true rfl) ⟨Nat.le_refl _, Nat.le_refl _⟩ (fun v3 h => ?_)
        refine g_iconst hC (2 : Int32) dX3_mostPairs_39 40 rfl iconst_2 ?_
        refine g_idiv hC dX3_mostPairs_40 41 rfl (by decide) ?_
        refine g_topi (fun v4 ev4 => ?_)
        have h := h v4 ev4
        refine g_istore (lv2 := [(4, .int v4), (3, .int v2), (0, .ref (a 0)), (1, .int p0), (2, .int p1)]) hC dX3_mostPairs_41 43 rfl (by decide) rfl ?_
        refine g_aload_n hC dX3_mostPairs_43 44 rfl rfl 2 rfl ?_
        refine g_iload_n hC dX3_mostPairs_44 45 rfl rfl 1 rfl ?_
        refine g_iload_n hC dX3_mostPairs_45 46 rfl rfl 4 rfl ?_
        refine g_iconst hC (1 : Int32) dX3_mostPairs_46 47 rfl iconst_1 ?_
        refine g_iadd hC dX3_mostPairs_47 48 rfl ?_
        refine g_readS hC (hREC _ v2 (p1 + (1 : Int32)) h) gY_X3_mostPairs dX3_mostPairs_48 51 rfl ml_X3_136 [] [] (by simp only [List.nil_append, List.append_nil]) [] rfl rfl ⟨by omega, by omega⟩ (Nat.le_of_ble_eq_true rfl) ⟨Nat.le_refl _, Nat.le_refl _⟩ (fun v5 h => ?_)
        refine g_istore (lv2 := [(5, .int v5), (4, .int v4), (3, .int v2), (0, .ref (a 0)), (1, .int p0), (2, .int p1)]) hC dX3_mostPairs_51 53 rfl (by decide) rfl ?_
        refine g_iload_n hC dX3_mostPairs_53 54 rfl rfl 5 rfl ?_
        refine g_iconst hC (1 : Int32) dX3_mostPairs_54 55 rfl iconst_1 ?_
        refine g_iadd hC dX3_mostPairs_55 56 rfl ?_
        refine g_topi (fun v6 ev6 => ?_)
        have h := h v6 ev6
        refine g_istore (lv2 := [(6, .int v6), (5, .int v5), (4, .int v4), (3, .int v2), (0, .ref (a 0)), (1, .int p0), (2, .int p1)]) hC dX3_mostPairs_56 58 rfl (by decide) rfl ?_
        refine g_lv (lv2 := [(0, .ref (a 0)), (2, .int p1), (3, .int v2), (4, .int v4), (5, .int v5), (6, .int v6)]) [4, 6, 3, 2, 1, 0] rfl ?_
        obtain ⟨m, h⟩ := h
        exact lp_X3_mostPairs_58 hREC hC hZ m p1 v2 v4 v5 v6 h
      · have h := h.2 c
        refine g_aload_n hC dX3_mostPairs_18 19 rfl rfl 0 rfl ?_
        refine g_iload_n hC dX3_mostPairs_19 20 rfl rfl 1 rfl ?_
        refine g_iload_n hC dX3_mostPairs_20 21 rfl rfl 2 rfl ?_
        refine g_iconst hC (1 : Int32) dX3_mostPairs_21 22 rfl iconst_1 ?_
        refine g_iadd hC dX3_mostPairs_22 23 rfl ?_
        refine g_readS hC (hREC _ p0 (p1 + (1 : Int32)) h) gY_X3_mostPairs dX3_mostPairs_23 26 rfl ml_X3_136 [] [] (by simp only [List.nil_append, List.append_nil]) [] rfl rfl ⟨by omega, by omega⟩ (Nat.le_of_ble_eq_true rfl) ⟨Nat.le_refl _, Nat.le_refl _⟩ (fun v14 h => ?_)
        exact g_iret hC hZ dX3_mostPairs_26 ⟨_, rfl, rfl, h⟩
    · have h := h.2 c
      refine g_iconst hC (0 : Int32) dX3_mostPairs_8 9 rfl iconst_0 ?_
      exact g_iret hC hZ dX3_mostPairs_9 ⟨_, rfl, rfl, h⟩
def wl_X3_pairsByTrying_4 (post : Int32 → Prop) (o : Off) : Nat → Int32 → Int32 → Int32 → Prop
  | 0, _, _, _ => False
  | n + 1, x1, x2, x3 => (((o 0 0) ≤ x3 → wp_X3_mostPairs 16 (fun v1 => post v1) o x2 (0 : Int32)) ∧ (¬ (o 0 0) ≤ x3 → wp_X3_isSingle (fun v2 => ((v2 = 0 → (∀ v3 : Int32, v3 = x3 + (1 : Int32) → wl_X3_pairsByTrying_4 post o n x1 x2 v3)) ∧ (¬ v2 = 0 → (∀ v4 : Int32, v4 = (x2 ||| ((1 : Int32) <<< (x3 &&& 31))) → (∀ v5 : Int32, v5 = x3 + (1 : Int32) → wl_X3_pairsByTrying_4 post o n x1 v4 v5))))) o x3 x1))
def wp_X3_pairsByTrying (post : Int32 → Prop) (o : Off) (p0 : Int32) : Prop := (∃ m : Nat, wl_X3_pairsByTrying_4 post o m p0 (0 : Int32) (0 : Int32))
set_option maxRecDepth 100000 in
set_option maxHeartbeats 4000000 in
theorem lp_X3_pairsByTrying_4 {x : gX} {l : Launch} {g : gE} {a : Nat → Nat} {o : Off} {post : Int32 → Prop} (hC : gC x l cX3_pairsByTrying 4 RX3 g 17 666 0 0) (hZ : gZ x g (some .int) (offW g a o) (pR (offW g a o) post) 0 0) : ∀ (n : Nat) (x1 : Int32) (x2 : Int32) (x3 : Int32) , wl_X3_pairsByTrying_4 post o n x1 x2 x3 → G x g 4 0 0 (offW g a o) 4 [(0, .ref (a 0)), (1, .int x1), (2, .int x2), (3, .int x3)] [] := by
  intro n
  induction n with
  | zero =>
    intro x1 x2 x3 h
    exact h.elim
  | succ n ih =>
    intro x1 x2 x3 h
    rw [wl_X3_pairsByTrying_4] at h
    refine g_iload_n hC dX3_pairsByTrying_4 5 rfl rfl 3 rfl ?_
    refine g_aload_n hC dX3_pairsByTrying_5 6 rfl rfl 0 rfl ?_
    refine g_get hC fl_X3_45 dX3_pairsByTrying_6 9 rfl 0 rfl rfl ?_
    refine g_icmp_ge hC dX3_pairsByTrying_9 33 (by decide) 12 rfl (fun c => ?_) (fun c => ?_)
    · have h := h.1 c
      refine g_aload_n hC dX3_pairsByTrying_33 34 rfl rfl 0 rfl ?_
      refine g_iload_n hC dX3_pairsByTrying_34 35 rfl rfl 2 rfl ?_
      refine g_iconst hC (0 : Int32) dX3_pairsByTrying_35 36 rfl iconst_0 ?_
      refine g_readS hC (ct_X3_mostPairs l g a o 16 x2 (0 : Int32) _ h) gY_X3_mostPairs dX3_pairsByTrying_36 39 rfl ml_X3_136 [] [] (by simp only [List.nil_append, List.append_nil]) [] rfl rfl ⟨Nat.le_of_ble_eq_true rfl, Nat.le_of_ble_eq_true rfl⟩ (Nat.le_of_ble_eq_true rfl) ⟨Nat.le_refl _, Nat.le_refl _⟩ (fun v1 h => ?_)
      exact g_iret hC hZ dX3_pairsByTrying_39 ⟨_, rfl, rfl, h⟩
    · have h := h.2 c
      refine g_aload_n hC dX3_pairsByTrying_12 13 rfl rfl 0 rfl ?_
      refine g_iload_n hC dX3_pairsByTrying_13 14 rfl rfl 3 rfl ?_
      refine g_iload_n hC dX3_pairsByTrying_14 15 rfl rfl 1 rfl ?_
      refine g_readV hC (ct_X3_isSingle l g a o x3 x1 _ h) gY_X3_isSingle dX3_pairsByTrying_15 18 rfl ml_X3_133 [] [] (by simp only [List.nil_append, List.append_nil]) [] rfl rfl rfl 0 7 rfl rfl ⟨Nat.le_of_ble_eq_true rfl, Nat.le_of_ble_eq_true rfl⟩ (Nat.le_of_ble_eq_true rfl) ⟨Nat.le_refl _, Nat.le_refl _⟩ (fun v2 h => ?_)
      refine g_if_eq hC dX3_pairsByTrying_18 27 (by decide) 21 rfl (fun c => ?_) (fun c => ?_)
      · have h := h.1 c
        obtain ⟨v3, ev3⟩ : ∃ y : Int32, y = x3 + (1 : Int32) := ⟨_, rfl⟩
        have h := h v3 ev3
        refine g_iinc (v2 := v3) (lv2 := [(3, .int v3), (0, .ref (a 0)), (1, .int x1), (2, .int x2)]) hC dX3_pairsByTrying_27 30 rfl 3 rfl (by rw [iconst_1, ev3]) (by decide) rfl ?_
        refine g_goto hC dX3_pairsByTrying_30 4 (by decide) ?_
        refine g_lv (lv2 := [(0, .ref (a 0)), (1, .int x1), (2, .int x2), (3, .int v3)]) [1, 2, 3, 0] rfl ?_
        exact ih x1 x2 v3 h
      · have h := h.2 c
        refine g_iload_n hC dX3_pairsByTrying_21 22 rfl rfl 2 rfl ?_
        refine g_iconst hC (1 : Int32) dX3_pairsByTrying_22 23 rfl iconst_1 ?_
        refine g_iload_n hC dX3_pairsByTrying_23 24 rfl rfl 3 rfl ?_
        refine g_ishl hC dX3_pairsByTrying_24 25 rfl ?_
        refine g_ior hC dX3_pairsByTrying_25 26 rfl ?_
        refine g_topi (fun v4 ev4 => ?_)
        have h := h v4 ev4
        refine g_istore_n (lv2 := [(2, .int v4), (0, .ref (a 0)), (1, .int x1), (3, .int x3)]) hC dX3_pairsByTrying_26 27 rfl rfl (by decide) rfl ?_
        obtain ⟨v5, ev5⟩ : ∃ y : Int32, y = x3 + (1 : Int32) := ⟨_, rfl⟩
        have h := h v5 ev5
        refine g_iinc (v2 := v5) (lv2 := [(3, .int v5), (2, .int v4), (0, .ref (a 0)), (1, .int x1)]) hC dX3_pairsByTrying_27 30 rfl 3 rfl (by rw [iconst_1, ev5]) (by decide) rfl ?_
        refine g_goto hC dX3_pairsByTrying_30 4 (by decide) ?_
        refine g_lv (lv2 := [(0, .ref (a 0)), (1, .int x1), (2, .int v4), (3, .int v5)]) [2, 3, 1, 0] rfl ?_
        exact ih x1 v4 v5 h
set_option maxRecDepth 100000 in
set_option maxHeartbeats 4000000 in
theorem ct_X3_pairsByTrying (l : Launch) (g : gE) (a : Nat → Nat) (o : Off) (p0 : Int32) (post : Int32 → Prop) (h : wp_X3_pairsByTrying post o p0) : Fn l g yX3_pairsByTrying cX3_pairsByTrying 4 (some .int) 17 666 0 0 (offW g a o) [.ref (a 0), .int p0] (pR (offW g a o) post) := by
  refine Fn.of (by decide) (Nat.le_of_ble_eq_true rfl) (fun x hC hZ => ?_)
  rw [wp_X3_pairsByTrying] at h
  show G x g 4 0 0 (offW g a o) 0 [(0, .ref (a 0)), (1, .int p0)] []
  refine g_iconst hC (0 : Int32) dX3_pairsByTrying_0 1 rfl iconst_0 ?_
  refine g_istore_n (lv2 := [(2, .int (0 : Int32)), (0, .ref (a 0)), (1, .int p0)]) hC dX3_pairsByTrying_1 2 rfl rfl (by decide) rfl ?_
  refine g_iconst hC (0 : Int32) dX3_pairsByTrying_2 3 rfl iconst_0 ?_
  refine g_istore_n (lv2 := [(3, .int (0 : Int32)), (2, .int (0 : Int32)), (0, .ref (a 0)), (1, .int p0)]) hC dX3_pairsByTrying_3 4 rfl rfl (by decide) rfl ?_
  refine g_lv (lv2 := [(0, .ref (a 0)), (1, .int p0), (2, .int (0 : Int32)), (3, .int (0 : Int32))]) [2, 3, 1, 0] rfl ?_
  obtain ⟨m, h⟩ := h
  exact lp_X3_pairsByTrying_4 hC hZ m p0 (0 : Int32) (0 : Int32) h
def wl_X3_singles_6 (post : Int32 → Prop) (o : Off) : Nat → Int32 → Int32 → Int32 → Int32 → Int32 → Prop
  | 0, _, _, _, _, _ => False
  | n + 1, x1, x2, x3, x4, x5 => (((o 0 0) ≤ x5 → post x4) ∧ (¬ (o 0 0) ≤ x5 → wp_X3_isSingle (fun v1 => ((v1 = 0 → (∀ v2 : Int32, v2 = x5 + (1 : Int32) → wl_X3_singles_6 post o n x1 x2 x3 x4 v2)) ∧ (¬ v1 = 0 → (vp_in x5 14 ∧ ((¬ (o 2 x5.toNatClampNeg) = x2 → (∀ v3 : Int32, v3 = x5 + (1 : Int32) → wl_X3_singles_6 post o n x1 x2 x3 x4 v3)) ∧ ((o 2 x5.toNatClampNeg) = x2 → (vp_in x5 14 ∧ ((¬ (o 1 x5.toNatClampNeg) = x3 → (∀ v4 : Int32, v4 = x5 + (1 : Int32) → wl_X3_singles_6 post o n x1 x2 x3 x4 v4)) ∧ ((o 1 x5.toNatClampNeg) = x3 → (∀ v5 : Int32, v5 = x4 + (1 : Int32) → (∀ v6 : Int32, v6 = x5 + (1 : Int32) → wl_X3_singles_6 post o n x1 x2 x3 v5 v6))))))))))) o x5 x1))
def wp_X3_singles (post : Int32 → Prop) (o : Off) (p0 : Int32) (p1 : Int32) (p2 : Int32) : Prop := (∃ m : Nat, wl_X3_singles_6 post o m p0 p1 p2 (0 : Int32) (0 : Int32))
set_option maxRecDepth 100000 in
set_option maxHeartbeats 4000000 in
theorem lp_X3_singles_6 {x : gX} {l : Launch} {g : gE} {a : Nat → Nat} {o : Off} {post : Int32 → Prop} (hC : gC x l cX3_singles 6 RX3 g 2 45 0 0) (hZ : gZ x g (some .int) (offW g a o) (pR (offW g a o) post) 0 0) : ∀ (n : Nat) (x1 : Int32) (x2 : Int32) (x3 : Int32) (x4 : Int32) (x5 : Int32) , wl_X3_singles_6 post o n x1 x2 x3 x4 x5 → G x g 6 0 0 (offW g a o) 6 [(0, .ref (a 0)), (1, .int x1), (2, .int x2), (3, .int x3), (4, .int x4), (5, .int x5)] [] := by
  intro n
  induction n with
  | zero =>
    intro x1 x2 x3 x4 x5 h
    exact h.elim
  | succ n ih =>
    intro x1 x2 x3 x4 x5 h
    rw [wl_X3_singles_6] at h
    refine g_iload hC dX3_singles_6 8 rfl 5 rfl ?_
    refine g_aload_n hC dX3_singles_8 9 rfl rfl 0 rfl ?_
    refine g_get hC fl_X3_45 dX3_singles_9 12 rfl 0 rfl rfl ?_
    refine g_icmp_ge hC dX3_singles_12 56 (by decide) 15 rfl (fun c => ?_) (fun c => ?_)
    · have h := h.1 c
      refine g_iload hC dX3_singles_56 58 rfl 4 rfl ?_
      exact g_iret hC hZ dX3_singles_58 ⟨_, rfl, rfl, h⟩
    · have h := h.2 c
      refine g_aload_n hC dX3_singles_15 16 rfl rfl 0 rfl ?_
      refine g_iload hC dX3_singles_16 18 rfl 5 rfl ?_
      refine g_iload_n hC dX3_singles_18 19 rfl rfl 1 rfl ?_
      refine g_readV hC (ct_X3_isSingle l g a o x5 x1 _ h) gY_X3_isSingle dX3_singles_19 22 rfl ml_X3_133 [] [] (by simp only [List.nil_append, List.append_nil]) [] rfl rfl rfl 0 7 rfl rfl ⟨Nat.le_of_ble_eq_true rfl, Nat.le_of_ble_eq_true rfl⟩ (Nat.le_of_ble_eq_true rfl) ⟨Nat.le_refl _, Nat.le_refl _⟩ (fun v1 h => ?_)
      refine g_if_eq hC dX3_singles_22 50 (by decide) 25 rfl (fun c => ?_) (fun c => ?_)
      · have h := h.1 c
        obtain ⟨v2, ev2⟩ : ∃ y : Int32, y = x5 + (1 : Int32) := ⟨_, rfl⟩
        have h := h v2 ev2
        refine g_iinc (v2 := v2) (lv2 := [(5, .int v2), (0, .ref (a 0)), (1, .int x1), (2, .int x2), (3, .int x3), (4, .int x4)]) hC dX3_singles_50 53 rfl 5 rfl (by rw [iconst_1, ev2]) (by decide) rfl ?_
        refine g_goto hC dX3_singles_53 6 (by decide) ?_
        refine g_lv (lv2 := [(0, .ref (a 0)), (1, .int x1), (2, .int x2), (3, .int x3), (4, .int x4), (5, .int v2)]) [1, 2, 3, 4, 5, 0] rfl ?_
        exact ih x1 x2 x3 x4 v2 h
      · have h := h.2 c
        refine g_aload_n hC dX3_singles_25 26 rfl rfl 0 rfl ?_
        refine g_get hC fl_X3_15 dX3_singles_26 29 rfl 0 rfl rfl ?_
        refine g_iload hC dX3_singles_29 31 rfl 5 rfl ?_
        obtain ⟨hi, h⟩ := h
        refine g_iald hC dX3_singles_31 32 rfl 2 rfl hi ?_
        refine g_iload_n hC dX3_singles_32 33 rfl rfl 2 rfl ?_
        refine g_icmp_ne hC dX3_singles_33 50 (by decide) 36 rfl (fun c => ?_) (fun c => ?_)
        · have h := h.1 c
          obtain ⟨v3, ev3⟩ : ∃ y : Int32, y = x5 + (1 : Int32) := ⟨_, rfl⟩
          have h := h v3 ev3
          refine g_iinc (v2 := v3) (lv2 := [(5, .int v3), (0, .ref (a 0)), (1, .int x1), (2, .int x2), (3, .int x3), (4, .int x4)]) hC dX3_singles_50 53 rfl 5 rfl (by rw [iconst_1, ev3]) (by decide) rfl ?_
          refine g_goto hC dX3_singles_53 6 (by decide) ?_
          refine g_lv (lv2 := [(0, .ref (a 0)), (1, .int x1), (2, .int x2), (3, .int x3), (4, .int x4), (5, .int v3)]) [1, 2, 3, 4, 5, 0] rfl ?_
          exact ih x1 x2 x3 x4 v3 h
        · have h := h.2 c
          refine g_aload_n hC dX3_singles_36 37 rfl rfl 0 rfl ?_
          refine g_get hC fl_X3_9 dX3_singles_37 40 rfl 0 rfl rfl ?_
          refine g_iload hC dX3_singles_40 42 rfl 5 rfl ?_
          obtain ⟨hi, h⟩ := h
          refine g_iald hC dX3_singles_42 43 rfl 1 rfl hi ?_
          refine g_iload_n hC dX3_singles_43 44 rfl rfl 3 rfl ?_
          refine g_icmp_ne hC dX3_singles_44 50 (by decide) 47 rfl (fun c => ?_) (fun c => ?_)
          · have h := h.1 c
            obtain ⟨v4, ev4⟩ : ∃ y : Int32, y = x5 + (1 : Int32) := ⟨_, rfl⟩
            have h := h v4 ev4
            refine g_iinc (v2 := v4) (lv2 := [(5, .int v4), (0, .ref (a 0)), (1, .int x1), (2, .int x2), (3, .int x3), (4, .int x4)]) hC dX3_singles_50 53 rfl 5 rfl (by rw [iconst_1, ev4]) (by decide) rfl ?_
            refine g_goto hC dX3_singles_53 6 (by decide) ?_
            refine g_lv (lv2 := [(0, .ref (a 0)), (1, .int x1), (2, .int x2), (3, .int x3), (4, .int x4), (5, .int v4)]) [1, 2, 3, 4, 5, 0] rfl ?_
            exact ih x1 x2 x3 x4 v4 h
          · have h := h.2 c
            obtain ⟨v5, ev5⟩ : ∃ y : Int32, y = x4 + (1 : Int32) := ⟨_, rfl⟩
            have h := h v5 ev5
            refine g_iinc (v2 := v5) (lv2 := [(4, .int v5), (0, .ref (a 0)), (1, .int x1), (2, .int x2), (3, .int x3), (5, .int x5)]) hC dX3_singles_47 50 rfl 4 rfl (by rw [iconst_1, ev5]) (by decide) rfl ?_
            obtain ⟨v6, ev6⟩ : ∃ y : Int32, y = x5 + (1 : Int32) := ⟨_, rfl⟩
            have h := h v6 ev6
            refine g_iinc (v2 := v6) (lv2 := [(5, .int v6), (4, .int v5), (0, .ref (a 0)), (1, .int x1), (2, .int x2), (3, .int x3)]) hC dX3_singles_50 53 rfl 5 rfl (by rw [iconst_1, ev6]) (by decide) rfl ?_
            refine g_goto hC dX3_singles_53 6 (by decide) ?_
            refine g_lv (lv2 := [(0, .ref (a 0)), (1, .int x1), (2, .int x2), (3, .int x3), (4, .int v5), (5, .int v6)]) [2, 3, 4, 5, 1, 0] rfl ?_
            exact ih x1 x2 x3 v5 v6 h
set_option maxRecDepth 100000 in
set_option maxHeartbeats 4000000 in
theorem ct_X3_singles (l : Launch) (g : gE) (a : Nat → Nat) (o : Off) (p0 : Int32) (p1 : Int32) (p2 : Int32) (post : Int32 → Prop) (h : wp_X3_singles post o p0 p1 p2) : Fn l g yX3_singles cX3_singles 6 (some .int) 2 45 0 0 (offW g a o) [.ref (a 0), .int p0, .int p1, .int p2] (pR (offW g a o) post) := by
  refine Fn.of (by decide) (Nat.le_of_ble_eq_true rfl) (fun x hC hZ => ?_)
  rw [wp_X3_singles] at h
  show G x g 6 0 0 (offW g a o) 0 [(0, .ref (a 0)), (1, .int p0), (2, .int p1), (3, .int p2)] []
  refine g_iconst hC (0 : Int32) dX3_singles_0 1 rfl iconst_0 ?_
  refine g_istore (lv2 := [(4, .int (0 : Int32)), (0, .ref (a 0)), (1, .int p0), (2, .int p1), (3, .int p2)]) hC dX3_singles_1 3 rfl (by decide) rfl ?_
  refine g_iconst hC (0 : Int32) dX3_singles_3 4 rfl iconst_0 ?_
  refine g_istore (lv2 := [(5, .int (0 : Int32)), (4, .int (0 : Int32)), (0, .ref (a 0)), (1, .int p0), (2, .int p1), (3, .int p2)]) hC dX3_singles_4 6 rfl (by decide) rfl ?_
  refine g_lv (lv2 := [(0, .ref (a 0)), (1, .int p0), (2, .int p1), (3, .int p2), (4, .int (0 : Int32)), (5, .int (0 : Int32))]) [2, 3, 4, 5, 1, 0] rfl ?_
  obtain ⟨m, h⟩ := h
  exact lp_X3_singles_6 hC hZ m p0 p1 p2 (0 : Int32) (0 : Int32) h
def wl_X3_pairsOfSize_8 (post : Int32 → Prop) (o : Off) : Nat → Int32 → Int32 → Int32 → Int32 → Int32 → Prop
  | 0, _, _, _, _, _ => False
  | n + 1, x1, x2, x3, x4, x5 => wp_J0_length_8abf5 (fun v1 => ((v1 ≤ x5 → wp_X3_singles (fun v2 => (∀ v3 : Int32, v3 = (if v2 < x4 then v2 else x4) → post ((x3 + v3) + ((v2 - v3) / (2 : Int32))))) o x1 x2 (119 : Int32)) ∧ (¬ v1 ≤ x5 → wp_J0_charAt_5068e (fun v4 => ((v4 = (119 : Int32) → (∀ v5 : Int32, v5 = x5 + (1 : Int32) → wl_X3_pairsOfSize_8 post o n x1 x2 x3 x4 v5)) ∧ (¬ v4 = (119 : Int32) → wp_J0_charAt_5068e (fun v6 => wp_X3_singles (fun v7 => (∀ v8 : Int32, v8 = (x3 + (v7 / (2 : Int32))) → (∀ v9 : Int32, v9 = (x4 + (v7 - v7 / (2 : Int32) * (2 : Int32))) → (∀ v10 : Int32, v10 = x5 + (1 : Int32) → wl_X3_pairsOfSize_8 post o n x1 x2 v8 v9 v10)))) o x1 x2 v6) [114, 103, 98, 119] x5))) [114, 103, 98, 119] x5))) [114, 103, 98, 119] 
def wp_X3_pairsOfSize (post : Int32 → Prop) (o : Off) (p0 : Int32) (p1 : Int32) : Prop := (∃ m : Nat, wl_X3_pairsOfSize_8 post o m p0 p1 (0 : Int32) (0 : Int32) (0 : Int32))
set_option maxRecDepth 100000 in
set_option maxHeartbeats 4000000 in
theorem lp_X3_pairsOfSize_8 {x : gX} {l : Launch} {g : gE} {a : Nat → Nat} {o : Off} {post : Int32 → Prop} (hC : gC x l cX3_pairsOfSize 7 RX3 g 4 85 0 0) (hZ : gZ x g (some .int) (offW g a o) (pR (offW g a o) post) 0 0) : ∀ (n : Nat) (x1 : Int32) (x2 : Int32) (x3 : Int32) (x4 : Int32) (x5 : Int32) , wl_X3_pairsOfSize_8 post o n x1 x2 x3 x4 x5 → G x g 7 0 0 (offW g a o) 8 [(0, .ref (a 0)), (1, .int x1), (2, .int x2), (3, .int x3), (4, .int x4), (5, .int x5)] [] := by
  intro n
  induction n with
  | zero =>
    intro x1 x2 x3 x4 x5 h
    exact h.elim
  | succ n ih =>
    intro x1 x2 x3 x4 x5 h
    rw [wl_X3_pairsOfSize_8] at h
    refine g_iload hC dX3_pairsOfSize_8 10 rfl 5 rfl ?_
    refine g_litS (i := 0) hC rfl dX3_pairsOfSize_10 12 rfl ?_
    refine g_callL hC rfl (by decide) (ct_J0_length_8abf5 l g 0 [114, 103, 98, 119] rfl (by decide)  _ h) gY_J0_length_8abf5 dX3_pairsOfSize_12 15 rfl ml_X3_151 [.int x5] rfl rfl rfl rfl ⟨Nat.le_of_ble_eq_true rfl, Nat.le_of_ble_eq_true rfl⟩ (Nat.le_of_ble_eq_true rfl) ⟨Nat.le_refl _, Nat.le_refl _⟩ (fun v1 h => ?_)
    refine g_icmp_ge hC dX3_pairsOfSize_15 67 (by decide) 18 rfl (fun c => ?_) (fun c => ?_)
    · have h := h.1 c
      refine g_aload_n hC dX3_pairsOfSize_67 68 rfl rfl 0 rfl ?_
      refine g_iload_n hC dX3_pairsOfSize_68 69 rfl rfl 1 rfl ?_
      refine g_iload_n hC dX3_pairsOfSize_69 70 rfl rfl 2 rfl ?_
      refine g_bipush hC (119 : Int32) dX3_pairsOfSize_70 72 rfl bipush_119 ?_
      refine g_readV hC (ct_X3_singles l g a o x1 x2 (119 : Int32) _ h) gY_X3_singles dX3_pairsOfSize_72 75 rfl ml_X3_158 [] [] (by simp only [List.nil_append, List.append_nil]) [] rfl rfl rfl 0 7 rfl rfl ⟨Nat.le_of_ble_eq_true rfl, Nat.le_of_ble_eq_true rfl⟩ (Nat.le_of_ble_eq_true rfl) ⟨Nat.le_refl _, Nat.le_refl _⟩ (fun v2 h => ?_)
      refine g_istore (lv2 := [(5, .int v2), (0, .ref (a 0)), (1, .int x1), (2, .int x2), (3, .int x3), (4, .int x4)]) hC dX3_pairsOfSize_75 77 rfl (by decide) rfl ?_
      refine g_iload hC dX3_pairsOfSize_77 79 rfl 5 rfl ?_
      refine g_iload hC dX3_pairsOfSize_79 81 rfl 0 rfl ?_
      refine g_mmin hC dX3_pairsOfSize_81 84 rfl mth_X3_65 mth_min.1 mth_min.2.1 mth_min.2.2 ⟨Nat.le_of_ble_eq_true rfl, Nat.le_of_ble_eq_true rfl, Nat.le_refl _, Nat.le_refl _⟩ (Nat.le_of_ble_eq_true rfl) ?_
      refine g_topi (fun v3 ev3 => ?_)
      have h := h v3 ev3
      refine g_istore (lv2 := [(6, .int v3), (5, .int v2), (0, .ref (a 0)), (1, .int x1), (2, .int x2), (3, .int x3), (4, .int x4)]) hC dX3_pairsOfSize_84 86 rfl (by decide) rfl ?_
      refine g_iload_n hC dX3_pairsOfSize_86 87 rfl rfl 5 rfl ?_
      refine g_iload hC dX3_pairsOfSize_87 89 rfl 0 rfl ?_
      refine g_iadd hC dX3_pairsOfSize_89 90 rfl ?_
      refine g_iload hC dX3_pairsOfSize_90 92 rfl 1 rfl ?_
      refine g_iload hC dX3_pairsOfSize_92 94 rfl 0 rfl ?_
      refine g_isub hC dX3_pairsOfSize_94 95 rfl ?_
      refine g_iconst hC (2 : Int32) dX3_pairsOfSize_95 96 rfl iconst_2 ?_
      refine g_idiv hC dX3_pairsOfSize_96 97 rfl (by decide) ?_
      refine g_iadd hC dX3_pairsOfSize_97 98 rfl ?_
      exact g_iret hC hZ dX3_pairsOfSize_98 ⟨_, rfl, rfl, h⟩
    · have h := h.2 c
      refine g_litS (i := 0) hC rfl dX3_pairsOfSize_18 20 rfl ?_
      refine g_iload hC dX3_pairsOfSize_20 22 rfl 5 rfl ?_
      refine g_callL hC rfl (by decide) (ct_J0_charAt_5068e l g 0 [114, 103, 98, 119] rfl (by decide) x5 _ h) gY_J0_charAt_5068e dX3_pairsOfSize_22 25 rfl ml_X3_155 [] rfl rfl rfl rfl ⟨Nat.le_of_ble_eq_true rfl, Nat.le_of_ble_eq_true rfl⟩ (Nat.le_of_ble_eq_true rfl) ⟨Nat.le_refl _, Nat.le_refl _⟩ (fun v4 h => ?_)
      refine g_bipush hC (119 : Int32) dX3_pairsOfSize_25 27 rfl bipush_119 ?_
      refine g_icmp_eq hC dX3_pairsOfSize_27 61 (by decide) 30 rfl (fun c => ?_) (fun c => ?_)
      · have h := h.1 c
        obtain ⟨v5, ev5⟩ : ∃ y : Int32, y = x5 + (1 : Int32) := ⟨_, rfl⟩
        have h := h v5 ev5
        refine g_iinc (v2 := v5) (lv2 := [(5, .int v5), (0, .ref (a 0)), (1, .int x1), (2, .int x2), (3, .int x3), (4, .int x4)]) hC dX3_pairsOfSize_61 64 rfl 5 rfl (by rw [iconst_1, ev5]) (by decide) rfl ?_
        refine g_goto hC dX3_pairsOfSize_64 8 (by decide) ?_
        refine g_lv (lv2 := [(0, .ref (a 0)), (1, .int x1), (2, .int x2), (3, .int x3), (4, .int x4), (5, .int v5)]) [1, 2, 3, 4, 5, 0] rfl ?_
        exact ih x1 x2 x3 x4 v5 h
      · have h := h.2 c
        refine g_aload_n hC dX3_pairsOfSize_30 31 rfl rfl 0 rfl ?_
        refine g_iload_n hC dX3_pairsOfSize_31 32 rfl rfl 1 rfl ?_
        refine g_iload_n hC dX3_pairsOfSize_32 33 rfl rfl 2 rfl ?_
        refine g_litS (i := 0) hC rfl dX3_pairsOfSize_33 35 rfl ?_
        refine g_iload hC dX3_pairsOfSize_35 37 rfl 5 rfl ?_
        refine g_callL hC rfl (by decide) (ct_J0_charAt_5068e l g 0 [114, 103, 98, 119] rfl (by decide) x5 _ h) gY_J0_charAt_5068e dX3_pairsOfSize_37 40 rfl ml_X3_155 [.int x2, .int x1, .ref (a 0)] rfl rfl rfl rfl ⟨Nat.le_of_ble_eq_true rfl, Nat.le_of_ble_eq_true rfl⟩ (Nat.le_of_ble_eq_true rfl) ⟨Nat.le_refl _, Nat.le_refl _⟩ (fun v6 h => ?_)
        refine g_readV hC (ct_X3_singles l g a o x1 x2 v6 _ h) gY_X3_singles dX3_pairsOfSize_40 43 rfl ml_X3_158 [] [] (by simp only [List.nil_append, List.append_nil]) [] rfl rfl rfl 0 7 rfl rfl ⟨Nat.le_of_ble_eq_true rfl, Nat.le_of_ble_eq_true rfl⟩ (Nat.le_of_ble_eq_true rfl) ⟨Nat.le_refl _, Nat.le_refl _⟩ (fun v7 h => ?_)
        refine g_istore (lv2 := [(6, .int v7), (0, .ref (a 0)), (1, .int x1), (2, .int x2), (3, .int x3), (4, .int x4), (5, .int x5)]) hC dX3_pairsOfSize_43 45 rfl (by decide) rfl ?_
        refine g_iload_n hC dX3_pairsOfSize_45 46 rfl rfl 4 rfl ?_
        refine g_iload hC dX3_pairsOfSize_46 48 rfl 0 rfl ?_
        refine g_iconst hC (2 : Int32) dX3_pairsOfSize_48 49 rfl iconst_2 ?_
        refine g_idiv hC dX3_pairsOfSize_49 50 rfl (by decide) ?_
        refine g_iadd hC dX3_pairsOfSize_50 51 rfl ?_
        refine g_topi (fun v8 ev8 => ?_)
        have h := h v8 ev8
        refine g_istore_n (lv2 := [(3, .int v8), (6, .int v7), (0, .ref (a 0)), (1, .int x1), (2, .int x2), (4, .int x4), (5, .int x5)]) hC dX3_pairsOfSize_51 52 rfl rfl (by decide) rfl ?_
        refine g_iload hC dX3_pairsOfSize_52 54 rfl 5 rfl ?_
        refine g_iload hC dX3_pairsOfSize_54 56 rfl 1 rfl ?_
        refine g_iconst hC (2 : Int32) dX3_pairsOfSize_56 57 rfl iconst_2 ?_
        refine g_irem hC dX3_pairsOfSize_57 58 rfl (by decide) ?_
        refine g_iadd hC dX3_pairsOfSize_58 59 rfl ?_
        refine g_topi (fun v9 ev9 => ?_)
        have h := h v9 ev9
        refine g_istore (lv2 := [(4, .int v9), (3, .int v8), (6, .int v7), (0, .ref (a 0)), (1, .int x1), (2, .int x2), (5, .int x5)]) hC dX3_pairsOfSize_59 61 rfl (by decide) rfl ?_
        obtain ⟨v10, ev10⟩ : ∃ y : Int32, y = x5 + (1 : Int32) := ⟨_, rfl⟩
        have h := h v10 ev10
        refine g_iinc (v2 := v10) (lv2 := [(5, .int v10), (4, .int v9), (3, .int v8), (6, .int v7), (0, .ref (a 0)), (1, .int x1), (2, .int x2)]) hC dX3_pairsOfSize_61 64 rfl 6 rfl (by rw [iconst_1, ev10]) (by decide) rfl ?_
        refine g_goto hC dX3_pairsOfSize_64 8 (by decide) ?_
        refine g_lv (lv2 := [(0, .ref (a 0)), (1, .int x1), (2, .int x2), (3, .int v8), (4, .int v9), (5, .int v10)]) [4, 5, 6, 2, 1, 0] rfl ?_
        exact ih x1 x2 v8 v9 v10 h
set_option maxRecDepth 100000 in
set_option maxHeartbeats 4000000 in
theorem ct_X3_pairsOfSize (l : Launch) (g : gE) (a : Nat → Nat) (o : Off) (p0 : Int32) (p1 : Int32) (post : Int32 → Prop) (h : wp_X3_pairsOfSize post o p0 p1) : Fn l g yX3_pairsOfSize cX3_pairsOfSize 7 (some .int) 4 85 0 0 (offW g a o) [.ref (a 0), .int p0, .int p1] (pR (offW g a o) post) := by
  refine Fn.of (by decide) (Nat.le_of_ble_eq_true rfl) (fun x hC hZ => ?_)
  rw [wp_X3_pairsOfSize] at h
  show G x g 7 0 0 (offW g a o) 0 [(0, .ref (a 0)), (1, .int p0), (2, .int p1)] []
  refine g_iconst hC (0 : Int32) dX3_pairsOfSize_0 1 rfl iconst_0 ?_
  refine g_istore_n (lv2 := [(3, .int (0 : Int32)), (0, .ref (a 0)), (1, .int p0), (2, .int p1)]) hC dX3_pairsOfSize_1 2 rfl rfl (by decide) rfl ?_
  refine g_iconst hC (0 : Int32) dX3_pairsOfSize_2 3 rfl iconst_0 ?_
  refine g_istore (lv2 := [(4, .int (0 : Int32)), (3, .int (0 : Int32)), (0, .ref (a 0)), (1, .int p0), (2, .int p1)]) hC dX3_pairsOfSize_3 5 rfl (by decide) rfl ?_
  refine g_iconst hC (0 : Int32) dX3_pairsOfSize_5 6 rfl iconst_0 ?_
  refine g_istore (lv2 := [(5, .int (0 : Int32)), (4, .int (0 : Int32)), (3, .int (0 : Int32)), (0, .ref (a 0)), (1, .int p0), (2, .int p1)]) hC dX3_pairsOfSize_6 8 rfl (by decide) rfl ?_
  refine g_lv (lv2 := [(0, .ref (a 0)), (1, .int p0), (2, .int p1), (3, .int (0 : Int32)), (4, .int (0 : Int32)), (5, .int (0 : Int32))]) [3, 4, 5, 2, 1, 0] rfl ?_
  obtain ⟨m, h⟩ := h
  exact lp_X3_pairsOfSize_8 hC hZ m p0 p1 (0 : Int32) (0 : Int32) (0 : Int32) h
def wl_X3_pairsByCounting_4 (post : Int32 → Prop) (o : Off) : Nat → Int32 → Int32 → Int32 → Prop
  | 0, _, _, _ => False
  | n + 1, x1, x2, x3 => (((9 : Int32) < x3 → post x2) ∧ (¬ (9 : Int32) < x3 → wp_X3_pairsOfSize (fun v1 => (∀ v2 : Int32, v2 = (x2 + v1) → (∀ v3 : Int32, v3 = x3 + (1 : Int32) → wl_X3_pairsByCounting_4 post o n x1 v2 v3))) o x1 x3))
def wp_X3_pairsByCounting (post : Int32 → Prop) (o : Off) (p0 : Int32) : Prop := (∃ m : Nat, wl_X3_pairsByCounting_4 post o m p0 (0 : Int32) (1 : Int32))
set_option maxRecDepth 100000 in
set_option maxHeartbeats 4000000 in
theorem lp_X3_pairsByCounting_4 {x : gX} {l : Launch} {g : gE} {a : Nat → Nat} {o : Off} {post : Int32 → Prop} (hC : gC x l cX3_pairsByCounting 4 RX3 g 5 111 0 0) (hZ : gZ x g (some .int) (offW g a o) (pR (offW g a o) post) 0 0) : ∀ (n : Nat) (x1 : Int32) (x2 : Int32) (x3 : Int32) , wl_X3_pairsByCounting_4 post o n x1 x2 x3 → G x g 4 0 0 (offW g a o) 4 [(0, .ref (a 0)), (1, .int x1), (2, .int x2), (3, .int x3)] [] := by
  intro n
  induction n with
  | zero =>
    intro x1 x2 x3 h
    exact h.elim
  | succ n ih =>
    intro x1 x2 x3 h
    rw [wl_X3_pairsByCounting_4] at h
    refine g_iload_n hC dX3_pairsByCounting_4 5 rfl rfl 3 rfl ?_
    refine g_bipush hC (9 : Int32) dX3_pairsByCounting_5 7 rfl bipush_9 ?_
    refine g_icmp_gt hC dX3_pairsByCounting_7 25 (by decide) 10 rfl (fun c => ?_) (fun c => ?_)
    · have h := h.1 c
      refine g_iload_n hC dX3_pairsByCounting_25 26 rfl rfl 2 rfl ?_
      exact g_iret hC hZ dX3_pairsByCounting_26 ⟨_, rfl, rfl, h⟩
    · have h := h.2 c
      refine g_iload_n hC dX3_pairsByCounting_10 11 rfl rfl 2 rfl ?_
      refine g_aload_n hC dX3_pairsByCounting_11 12 rfl rfl 0 rfl ?_
      refine g_iload_n hC dX3_pairsByCounting_12 13 rfl rfl 1 rfl ?_
      refine g_iload_n hC dX3_pairsByCounting_13 14 rfl rfl 3 rfl ?_
      refine g_readV hC (ct_X3_pairsOfSize l g a o x1 x3 _ h) gY_X3_pairsOfSize dX3_pairsByCounting_14 17 rfl ml_X3_148 [] [] (by simp only [List.nil_append, List.append_nil]) [.int x2] rfl rfl rfl 0 7 rfl rfl ⟨Nat.le_of_ble_eq_true rfl, Nat.le_of_ble_eq_true rfl⟩ (Nat.le_of_ble_eq_true rfl) ⟨Nat.le_refl _, Nat.le_refl _⟩ (fun v1 h => ?_)
      refine g_iadd hC dX3_pairsByCounting_17 18 rfl ?_
      refine g_topi (fun v2 ev2 => ?_)
      have h := h v2 ev2
      refine g_istore_n (lv2 := [(2, .int v2), (0, .ref (a 0)), (1, .int x1), (3, .int x3)]) hC dX3_pairsByCounting_18 19 rfl rfl (by decide) rfl ?_
      obtain ⟨v3, ev3⟩ : ∃ y : Int32, y = x3 + (1 : Int32) := ⟨_, rfl⟩
      have h := h v3 ev3
      refine g_iinc (v2 := v3) (lv2 := [(3, .int v3), (2, .int v2), (0, .ref (a 0)), (1, .int x1)]) hC dX3_pairsByCounting_19 22 rfl 3 rfl (by rw [iconst_1, ev3]) (by decide) rfl ?_
      refine g_goto hC dX3_pairsByCounting_22 4 (by decide) ?_
      refine g_lv (lv2 := [(0, .ref (a 0)), (1, .int x1), (2, .int v2), (3, .int v3)]) [2, 3, 1, 0] rfl ?_
      exact ih x1 v2 v3 h
set_option maxRecDepth 100000 in
set_option maxHeartbeats 4000000 in
theorem ct_X3_pairsByCounting (l : Launch) (g : gE) (a : Nat → Nat) (o : Off) (p0 : Int32) (post : Int32 → Prop) (h : wp_X3_pairsByCounting post o p0) : Fn l g yX3_pairsByCounting cX3_pairsByCounting 4 (some .int) 5 111 0 0 (offW g a o) [.ref (a 0), .int p0] (pR (offW g a o) post) := by
  refine Fn.of (by decide) (Nat.le_of_ble_eq_true rfl) (fun x hC hZ => ?_)
  rw [wp_X3_pairsByCounting] at h
  show G x g 4 0 0 (offW g a o) 0 [(0, .ref (a 0)), (1, .int p0)] []
  refine g_iconst hC (0 : Int32) dX3_pairsByCounting_0 1 rfl iconst_0 ?_
  refine g_istore_n (lv2 := [(2, .int (0 : Int32)), (0, .ref (a 0)), (1, .int p0)]) hC dX3_pairsByCounting_1 2 rfl rfl (by decide) rfl ?_
  refine g_iconst hC (1 : Int32) dX3_pairsByCounting_2 3 rfl iconst_1 ?_
  refine g_istore_n (lv2 := [(3, .int (1 : Int32)), (2, .int (0 : Int32)), (0, .ref (a 0)), (1, .int p0)]) hC dX3_pairsByCounting_3 4 rfl rfl (by decide) rfl ?_
  refine g_lv (lv2 := [(0, .ref (a 0)), (1, .int p0), (2, .int (0 : Int32)), (3, .int (1 : Int32))]) [2, 3, 1, 0] rfl ?_
  obtain ⟨m, h⟩ := h
  exact lp_X3_pairsByCounting_4 hC hZ m p0 (0 : Int32) (1 : Int32) h
def wl_X3_countsAgree_2 (post : Int32 → Prop) (o : Off) : Nat → Int32 → Prop
  | 0, _ => False
  | n + 1, x1 => (((5 : Int32) ≤ x1 → post (1 : Int32)) ∧ (¬ (5 : Int32) ≤ x1 → wp_X3_pairsByTrying (fun v1 => wp_X3_pairsByCounting (fun v2 => ((v1 = v2 → (∀ v3 : Int32, v3 = x1 + (1 : Int32) → wl_X3_countsAgree_2 post o n v3)) ∧ (¬ v1 = v2 → post (0 : Int32)))) o x1) o x1))
def wp_X3_countsAgree (post : Int32 → Prop) (o : Off) : Prop := (∃ m : Nat, wl_X3_countsAgree_2 post o m (0 : Int32))
set_option maxRecDepth 100000 in
set_option maxHeartbeats 4000000 in
theorem lp_X3_countsAgree_2 {x : gX} {l : Launch} {g : gE} {a : Nat → Nat} {o : Off} {post : Int32 → Prop} (hC : gC x l cX3_countsAgree 2 RX3 g 18 689 0 0) (hZ : gZ x g (some .boolean) (offW g a o) (pR (offW g a o) post) 0 0) : ∀ (n : Nat) (x1 : Int32) , wl_X3_countsAgree_2 post o n x1 → G x g 2 0 0 (offW g a o) 2 [(0, .ref (a 0)), (1, .int x1)] [] := by
  intro n
  induction n with
  | zero =>
    intro x1 h
    exact h.elim
  | succ n ih =>
    intro x1 h
    rw [wl_X3_countsAgree_2] at h
    refine g_iload_n hC dX3_countsAgree_2 3 rfl rfl 1 rfl ?_
    refine g_iconst hC (5 : Int32) dX3_countsAgree_3 4 rfl iconst_5 ?_
    refine g_icmp_ge hC dX3_countsAgree_4 28 (by decide) 7 rfl (fun c => ?_) (fun c => ?_)
    · have h := h.1 c
      refine g_iconst hC (1 : Int32) dX3_countsAgree_28 29 rfl iconst_1 ?_
      exact g_zret hC hZ rfl dX3_countsAgree_29 ⟨_, rfl, rfl, h⟩
    · have h := h.2 c
      refine g_aload_n hC dX3_countsAgree_7 8 rfl rfl 0 rfl ?_
      refine g_iload_n hC dX3_countsAgree_8 9 rfl rfl 1 rfl ?_
      refine g_readV hC (ct_X3_pairsByTrying l g a o x1 _ h) gY_X3_pairsByTrying dX3_countsAgree_9 12 rfl ml_X3_162 [] [] (by simp only [List.nil_append, List.append_nil]) [] rfl rfl rfl 0 7 rfl rfl ⟨Nat.le_of_ble_eq_true rfl, Nat.le_of_ble_eq_true rfl⟩ (Nat.le_of_ble_eq_true rfl) ⟨Nat.le_refl _, Nat.le_refl _⟩ (fun v1 h => ?_)
      refine g_aload_n hC dX3_countsAgree_12 13 rfl rfl 0 rfl ?_
      refine g_iload_n hC dX3_countsAgree_13 14 rfl rfl 1 rfl ?_
      refine g_readV hC (ct_X3_pairsByCounting l g a o x1 _ h) gY_X3_pairsByCounting dX3_countsAgree_14 17 rfl ml_X3_165 [] [] (by simp only [List.nil_append, List.append_nil]) [.int v1] rfl rfl rfl 0 7 rfl rfl ⟨Nat.le_of_ble_eq_true rfl, Nat.le_of_ble_eq_true rfl⟩ (Nat.le_of_ble_eq_true rfl) ⟨Nat.le_refl _, Nat.le_refl _⟩ (fun v2 h => ?_)
      refine g_icmp_eq hC dX3_countsAgree_17 22 (by decide) 20 rfl (fun c => ?_) (fun c => ?_)
      · have h := h.1 c
        obtain ⟨v3, ev3⟩ : ∃ y : Int32, y = x1 + (1 : Int32) := ⟨_, rfl⟩
        have h := h v3 ev3
        refine g_iinc (v2 := v3) (lv2 := [(1, .int v3), (0, .ref (a 0))]) hC dX3_countsAgree_22 25 rfl 1 rfl (by rw [iconst_1, ev3]) (by decide) rfl ?_
        refine g_goto hC dX3_countsAgree_25 2 (by decide) ?_
        refine g_lv (lv2 := [(0, .ref (a 0)), (1, .int v3)]) [1, 0] rfl ?_
        exact ih v3 h
      · have h := h.2 c
        refine g_iconst hC (0 : Int32) dX3_countsAgree_20 21 rfl iconst_0 ?_
        exact g_zret hC hZ rfl dX3_countsAgree_21 ⟨_, rfl, rfl, h⟩
set_option maxRecDepth 100000 in
set_option maxHeartbeats 4000000 in
theorem ct_X3_countsAgree (l : Launch) (g : gE) (a : Nat → Nat) (o : Off) (post : Int32 → Prop) (h : wp_X3_countsAgree post o ) : Fn l g yX3_countsAgree cX3_countsAgree 2 (some .boolean) 18 689 0 0 (offW g a o) [.ref (a 0)] (pR (offW g a o) post) := by
  refine Fn.of (by decide) (Nat.le_of_ble_eq_true rfl) (fun x hC hZ => ?_)
  rw [wp_X3_countsAgree] at h
  show G x g 2 0 0 (offW g a o) 0 [(0, .ref (a 0))] []
  refine g_iconst hC (0 : Int32) dX3_countsAgree_0 1 rfl iconst_0 ?_
  refine g_istore_n (lv2 := [(1, .int (0 : Int32)), (0, .ref (a 0))]) hC dX3_countsAgree_1 2 rfl rfl (by decide) rfl ?_
  refine g_lv (lv2 := [(0, .ref (a 0)), (1, .int (0 : Int32))]) [1, 0] rfl ?_
  obtain ⟨m, h⟩ := h
  exact lp_X3_countsAgree_2 hC hZ m (0 : Int32) h
def wp_X3_isSoundPair (post : Int32 → Prop) (o : Off) (p0 : Int32) (p1 : Int32) : Prop := wp_X3_isSock (fun v1 => ((v1 = 0 → post (0 : Int32)) ∧ (¬ v1 = 0 → (vp_in p1 14 ∧ ((¬ (o 8 p1.toNatClampNeg) = p0 → post (0 : Int32)) ∧ ((o 8 p1.toNatClampNeg) = p0 → wp_X3_match (fun v2 => ((v2 = 0 → post (0 : Int32)) ∧ (¬ v2 = 0 → (vp_in p0 14 ∧ ((¬ (o 3 p0.toNatClampNeg) = (3 : Int32) → post (0 : Int32)) ∧ ((o 3 p0.toNatClampNeg) = (3 : Int32) → (vp_in p0 14 ∧ wp_X3_is (fun v3 => ((v3 = 0 → post (0 : Int32)) ∧ (¬ v3 = 0 → post (1 : Int32)))) o p1 (3 : Int32) (o 4 p0.toNatClampNeg)))))))) o p0 p1)))))) o p1
set_option maxRecDepth 100000 in
set_option maxHeartbeats 4000000 in
theorem ct_X3_isSoundPair (l : Launch) (g : gE) (a : Nat → Nat) (o : Off) (p0 : Int32) (p1 : Int32) (post : Int32 → Prop) (h : wp_X3_isSoundPair post o p0 p1) : Fn l g yX3_isSoundPair cX3_isSoundPair 3 (some .boolean) 1 23 0 0 (offW g a o) [.ref (a 0), .int p0, .int p1] (pR (offW g a o) post) := by
  refine Fn.of (by decide) (Nat.le_of_ble_eq_true rfl) (fun x hC hZ => ?_)
  rw [wp_X3_isSoundPair] at h
  show G x g 3 0 0 (offW g a o) 0 [(0, .ref (a 0)), (1, .int p0), (2, .int p1)] []
  refine g_aload_n hC dX3_isSoundPair_0 1 rfl rfl 0 rfl ?_
  refine g_iload_n hC dX3_isSoundPair_1 2 rfl rfl 2 rfl ?_
  refine g_readV hC (ct_X3_isSock l g a o p1 _ h) gY_X3_isSock dX3_isSoundPair_2 5 rfl ml_X3_130 [] [] (by simp only [List.nil_append, List.append_nil]) [] rfl rfl rfl 0 7 rfl rfl ⟨Nat.le_of_ble_eq_true rfl, Nat.le_of_ble_eq_true rfl⟩ (Nat.le_of_ble_eq_true rfl) ⟨Nat.le_refl _, Nat.le_refl _⟩ (fun v1 h => ?_)
  refine g_if_eq hC dX3_isSoundPair_5 56 (by decide) 8 rfl (fun c => ?_) (fun c => ?_)
  · have h := h.1 c
    refine g_iconst hC (0 : Int32) dX3_isSoundPair_56 57 rfl iconst_0 ?_
    exact g_zret hC hZ rfl dX3_isSoundPair_57 ⟨_, rfl, rfl, h⟩
  · have h := h.2 c
    refine g_aload_n hC dX3_isSoundPair_8 9 rfl rfl 0 rfl ?_
    refine g_get hC fl_X3_33 dX3_isSoundPair_9 12 rfl 0 rfl rfl ?_
    refine g_iload_n hC dX3_isSoundPair_12 13 rfl rfl 2 rfl ?_
    obtain ⟨hi, h⟩ := h
    refine g_iald hC dX3_isSoundPair_13 14 rfl 8 rfl hi ?_
    refine g_iload_n hC dX3_isSoundPair_14 15 rfl rfl 1 rfl ?_
    refine g_icmp_ne hC dX3_isSoundPair_15 56 (by decide) 18 rfl (fun c => ?_) (fun c => ?_)
    · have h := h.1 c
      refine g_iconst hC (0 : Int32) dX3_isSoundPair_56 57 rfl iconst_0 ?_
      exact g_zret hC hZ rfl dX3_isSoundPair_57 ⟨_, rfl, rfl, h⟩
    · have h := h.2 c
      refine g_aload_n hC dX3_isSoundPair_18 19 rfl rfl 0 rfl ?_
      refine g_iload_n hC dX3_isSoundPair_19 20 rfl rfl 1 rfl ?_
      refine g_iload_n hC dX3_isSoundPair_20 21 rfl rfl 2 rfl ?_
      refine g_readV hC (ct_X3_match l g a o p0 p1 _ h) gY_X3_match dX3_isSoundPair_21 24 rfl ml_X3_145 [] [] (by simp only [List.nil_append, List.append_nil]) [] rfl rfl rfl 0 7 rfl rfl ⟨Nat.le_of_ble_eq_true rfl, Nat.le_of_ble_eq_true rfl⟩ (Nat.le_of_ble_eq_true rfl) ⟨Nat.le_refl _, Nat.le_refl _⟩ (fun v2 h => ?_)
      refine g_if_eq hC dX3_isSoundPair_24 56 (by decide) 27 rfl (fun c => ?_) (fun c => ?_)
      · have h := h.1 c
        refine g_iconst hC (0 : Int32) dX3_isSoundPair_56 57 rfl iconst_0 ?_
        exact g_zret hC hZ rfl dX3_isSoundPair_57 ⟨_, rfl, rfl, h⟩
      · have h := h.2 c
        refine g_aload_n hC dX3_isSoundPair_27 28 rfl rfl 0 rfl ?_
        refine g_get hC fl_X3_18 dX3_isSoundPair_28 31 rfl 0 rfl rfl ?_
        refine g_iload_n hC dX3_isSoundPair_31 32 rfl rfl 1 rfl ?_
        obtain ⟨hi, h⟩ := h
        refine g_iald hC dX3_isSoundPair_32 33 rfl 3 rfl hi ?_
        refine g_iconst hC (3 : Int32) dX3_isSoundPair_33 34 rfl iconst_3 ?_
        refine g_icmp_ne hC dX3_isSoundPair_34 56 (by decide) 37 rfl (fun c => ?_) (fun c => ?_)
        · have h := h.1 c
          refine g_iconst hC (0 : Int32) dX3_isSoundPair_56 57 rfl iconst_0 ?_
          exact g_zret hC hZ rfl dX3_isSoundPair_57 ⟨_, rfl, rfl, h⟩
        · have h := h.2 c
          refine g_aload_n hC dX3_isSoundPair_37 38 rfl rfl 0 rfl ?_
          refine g_iload_n hC dX3_isSoundPair_38 39 rfl rfl 2 rfl ?_
          refine g_iconst hC (3 : Int32) dX3_isSoundPair_39 40 rfl iconst_3 ?_
          refine g_aload_n hC dX3_isSoundPair_40 41 rfl rfl 0 rfl ?_
          refine g_get hC fl_X3_21 dX3_isSoundPair_41 44 rfl 0 rfl rfl ?_
          refine g_iload_n hC dX3_isSoundPair_44 45 rfl rfl 1 rfl ?_
          obtain ⟨hi, h⟩ := h
          refine g_iald hC dX3_isSoundPair_45 46 rfl 4 rfl hi ?_
          refine g_readV hC (ct_X3_is l g a o p1 (3 : Int32) (o 4 p0.toNatClampNeg) _ h) gY_X3_is dX3_isSoundPair_46 49 rfl ml_X3_77 [] [] (by simp only [List.nil_append, List.append_nil]) [] rfl rfl rfl 0 7 rfl rfl ⟨Nat.le_of_ble_eq_true rfl, Nat.le_of_ble_eq_true rfl⟩ (Nat.le_of_ble_eq_true rfl) ⟨Nat.le_refl _, Nat.le_refl _⟩ (fun v3 h => ?_)
          refine g_if_eq hC dX3_isSoundPair_49 56 (by decide) 52 rfl (fun c => ?_) (fun c => ?_)
          · have h := h.1 c
            refine g_iconst hC (0 : Int32) dX3_isSoundPair_56 57 rfl iconst_0 ?_
            exact g_zret hC hZ rfl dX3_isSoundPair_57 ⟨_, rfl, rfl, h⟩
          · have h := h.2 c
            refine g_iconst hC (1 : Int32) dX3_isSoundPair_52 53 rfl iconst_1 ?_
            refine g_goto hC dX3_isSoundPair_53 57 (by decide) ?_
            exact g_zret hC hZ rfl dX3_isSoundPair_57 ⟨_, rfl, rfl, h⟩
def wl_X3_pairsAreSound_2 (post : Int32 → Prop) (o : Off) : Nat → Int32 → Prop
  | 0, _ => False
  | n + 1, x1 => (((o 0 0) ≤ x1 → post (1 : Int32)) ∧ (¬ (o 0 0) ≤ x1 → (vp_in x1 14 ∧ (((o 8 x1.toNatClampNeg) = (-1 : Int32) → (∀ v1 : Int32, v1 = x1 + (1 : Int32) → wl_X3_pairsAreSound_2 post o n v1)) ∧ (¬ (o 8 x1.toNatClampNeg) = (-1 : Int32) → (vp_in x1 14 ∧ wp_X3_isSoundPair (fun v2 => ((¬ v2 = 0 → (∀ v3 : Int32, v3 = x1 + (1 : Int32) → wl_X3_pairsAreSound_2 post o n v3)) ∧ (v2 = 0 → post (0 : Int32)))) o x1 (o 8 x1.toNatClampNeg)))))))
def wp_X3_pairsAreSound (post : Int32 → Prop) (o : Off) : Prop := (∃ m : Nat, wl_X3_pairsAreSound_2 post o m (0 : Int32))
set_option maxRecDepth 100000 in
set_option maxHeartbeats 4000000 in
theorem lp_X3_pairsAreSound_2 {x : gX} {l : Launch} {g : gE} {a : Nat → Nat} {o : Off} {post : Int32 → Prop} (hC : gC x l cX3_pairsAreSound 2 RX3 g 2 45 0 0) (hZ : gZ x g (some .boolean) (offW g a o) (pR (offW g a o) post) 0 0) : ∀ (n : Nat) (x1 : Int32) , wl_X3_pairsAreSound_2 post o n x1 → G x g 2 0 0 (offW g a o) 2 [(0, .ref (a 0)), (1, .int x1)] [] := by
  intro n
  induction n with
  | zero =>
    intro x1 h
    exact h.elim
  | succ n ih =>
    intro x1 h
    rw [wl_X3_pairsAreSound_2] at h
    refine g_iload_n hC dX3_pairsAreSound_2 3 rfl rfl 1 rfl ?_
    refine g_aload_n hC dX3_pairsAreSound_3 4 rfl rfl 0 rfl ?_
    refine g_get hC fl_X3_45 dX3_pairsAreSound_4 7 rfl 0 rfl rfl ?_
    refine g_icmp_ge hC dX3_pairsAreSound_7 42 (by decide) 10 rfl (fun c => ?_) (fun c => ?_)
    · have h := h.1 c
      refine g_iconst hC (1 : Int32) dX3_pairsAreSound_42 43 rfl iconst_1 ?_
      exact g_zret hC hZ rfl dX3_pairsAreSound_43 ⟨_, rfl, rfl, h⟩
    · have h := h.2 c
      refine g_aload_n hC dX3_pairsAreSound_10 11 rfl rfl 0 rfl ?_
      refine g_get hC fl_X3_33 dX3_pairsAreSound_11 14 rfl 0 rfl rfl ?_
      refine g_iload_n hC dX3_pairsAreSound_14 15 rfl rfl 1 rfl ?_
      obtain ⟨hi, h⟩ := h
      refine g_iald hC dX3_pairsAreSound_15 16 rfl 8 rfl hi ?_
      refine g_iconst hC (-1 : Int32) dX3_pairsAreSound_16 17 rfl iconst_m1 ?_
      refine g_icmp_eq hC dX3_pairsAreSound_17 36 (by decide) 20 rfl (fun c => ?_) (fun c => ?_)
      · have h := h.1 c
        obtain ⟨v1, ev1⟩ : ∃ y : Int32, y = x1 + (1 : Int32) := ⟨_, rfl⟩
        have h := h v1 ev1
        refine g_iinc (v2 := v1) (lv2 := [(1, .int v1), (0, .ref (a 0))]) hC dX3_pairsAreSound_36 39 rfl 1 rfl (by rw [iconst_1, ev1]) (by decide) rfl ?_
        refine g_goto hC dX3_pairsAreSound_39 2 (by decide) ?_
        refine g_lv (lv2 := [(0, .ref (a 0)), (1, .int v1)]) [1, 0] rfl ?_
        exact ih v1 h
      · have h := h.2 c
        refine g_aload_n hC dX3_pairsAreSound_20 21 rfl rfl 0 rfl ?_
        refine g_iload_n hC dX3_pairsAreSound_21 22 rfl rfl 1 rfl ?_
        refine g_aload_n hC dX3_pairsAreSound_22 23 rfl rfl 0 rfl ?_
        refine g_get hC fl_X3_33 dX3_pairsAreSound_23 26 rfl 0 rfl rfl ?_
        refine g_iload_n hC dX3_pairsAreSound_26 27 rfl rfl 1 rfl ?_
        obtain ⟨hi, h⟩ := h
        refine g_iald hC dX3_pairsAreSound_27 28 rfl 8 rfl hi ?_
        refine g_readV hC (ct_X3_isSoundPair l g a o x1 (o 8 x1.toNatClampNeg) _ h) gY_X3_isSoundPair dX3_pairsAreSound_28 31 rfl ml_X3_168 [] [] (by simp only [List.nil_append, List.append_nil]) [] rfl rfl rfl 0 7 rfl rfl ⟨Nat.le_of_ble_eq_true rfl, Nat.le_of_ble_eq_true rfl⟩ (Nat.le_of_ble_eq_true rfl) ⟨Nat.le_refl _, Nat.le_refl _⟩ (fun v2 h => ?_)
        refine g_if_ne hC dX3_pairsAreSound_31 36 (by decide) 34 rfl (fun c => ?_) (fun c => ?_)
        · have h := h.1 c
          obtain ⟨v3, ev3⟩ : ∃ y : Int32, y = x1 + (1 : Int32) := ⟨_, rfl⟩
          have h := h v3 ev3
          refine g_iinc (v2 := v3) (lv2 := [(1, .int v3), (0, .ref (a 0))]) hC dX3_pairsAreSound_36 39 rfl 1 rfl (by rw [iconst_1, ev3]) (by decide) rfl ?_
          refine g_goto hC dX3_pairsAreSound_39 2 (by decide) ?_
          refine g_lv (lv2 := [(0, .ref (a 0)), (1, .int v3)]) [1, 0] rfl ?_
          exact ih v3 h
        · have h := h.2 c
          refine g_iconst hC (0 : Int32) dX3_pairsAreSound_34 35 rfl iconst_0 ?_
          exact g_zret hC hZ rfl dX3_pairsAreSound_35 ⟨_, rfl, rfl, h⟩
set_option maxRecDepth 100000 in
set_option maxHeartbeats 4000000 in
theorem ct_X3_pairsAreSound (l : Launch) (g : gE) (a : Nat → Nat) (o : Off) (post : Int32 → Prop) (h : wp_X3_pairsAreSound post o ) : Fn l g yX3_pairsAreSound cX3_pairsAreSound 2 (some .boolean) 2 45 0 0 (offW g a o) [.ref (a 0)] (pR (offW g a o) post) := by
  refine Fn.of (by decide) (Nat.le_of_ble_eq_true rfl) (fun x hC hZ => ?_)
  rw [wp_X3_pairsAreSound] at h
  show G x g 2 0 0 (offW g a o) 0 [(0, .ref (a 0))] []
  refine g_iconst hC (0 : Int32) dX3_pairsAreSound_0 1 rfl iconst_0 ?_
  refine g_istore_n (lv2 := [(1, .int (0 : Int32)), (0, .ref (a 0))]) hC dX3_pairsAreSound_1 2 rfl rfl (by decide) rfl ?_
  refine g_lv (lv2 := [(0, .ref (a 0)), (1, .int (0 : Int32))]) [1, 0] rfl ?_
  obtain ⟨m, h⟩ := h
  exact lp_X3_pairsAreSound_2 hC hZ m (0 : Int32) h
def wp_X3_changeQuota (post : Int32 → Off → Prop) (o : Off) (p0 : Int32) (p1 : Int32) : Prop := (vp_in p0 5 ∧ (∀ v1 : Int32, v1 = (o 9 p0.toNatClampNeg) → (vp_in p0 5 ∧ (∀ o2 : Off, o2 = st o 9 p0.toNatClampNeg p1 → post v1 o2))))
set_option maxRecDepth 100000 in
set_option maxHeartbeats 4000000 in
theorem ct_X3_changeQuota (l : Launch) (g : gE) (a : Nat → Nat) (o : Off) (p0 : Int32) (p1 : Int32) (post : Int32 → Off → Prop) (h : wp_X3_changeQuota post o p0 p1) : Fn l g yX3_changeQuota cX3_changeQuota 4 (some .int) 0 0 0 0 (offW g a o) [.ref (a 0), .int p0, .int p1] (pI (offW g a) post) := by
  refine Fn.of (by decide) (Nat.le_of_ble_eq_true rfl) (fun x hC hZ => ?_)
  rw [wp_X3_changeQuota] at h
  show G x g 4 0 0 (offW g a o) 0 [(0, .ref (a 0)), (1, .int p0), (2, .int p1)] []
  refine g_aload_n hC dX3_changeQuota_0 1 rfl rfl 0 rfl ?_
  refine g_get hC fl_X3_36 dX3_changeQuota_1 4 rfl 0 rfl rfl ?_
  refine g_iload_n hC dX3_changeQuota_4 5 rfl rfl 1 rfl ?_
  obtain ⟨hi, h⟩ := h
  refine g_iald hC dX3_changeQuota_5 6 rfl 9 rfl hi ?_
  refine g_topi (fun v1 ev1 => ?_)
  have h := h v1 ev1
  refine g_istore_n (lv2 := [(3, .int v1), (0, .ref (a 0)), (1, .int p0), (2, .int p1)]) hC dX3_changeQuota_6 7 rfl rfl (by decide) rfl ?_
  refine g_aload_n hC dX3_changeQuota_7 8 rfl rfl 1 rfl ?_
  refine g_get hC fl_X3_36 dX3_changeQuota_8 11 rfl 0 rfl rfl ?_
  refine g_iload_n hC dX3_changeQuota_11 12 rfl rfl 2 rfl ?_
  refine g_iload_n hC dX3_changeQuota_12 13 rfl rfl 3 rfl ?_
  obtain ⟨hi, h⟩ := h
  obtain ⟨o2, eo2⟩ : ∃ y : Off, y = st o 9 p0.toNatClampNeg p1 := ⟨_, rfl⟩
  have h := h o2 eo2
  refine g_iast hC dX3_changeQuota_13 14 rfl 9 rfl hi (offW_s9 eo2) ?_
  refine g_iload_n hC dX3_changeQuota_14 15 rfl rfl 0 rfl ?_
  exact g_iret hC hZ dX3_changeQuota_15 ⟨_, _, rfl, rfl, h⟩
def wj_X3_forbid_14 (post : Int32 → Off → Prop) (o : Off) (x1 : Int32) (x2 : Int32) (s0 : Int32) : Prop := (vp_in x1 5 ∧ wp_J0_indexOf_0f7a4 (fun v2 => (vp_in x1 5 ∧ (∀ o3 : Off, o3 = st o 10 x1.toNatClampNeg ((o 10 x1.toNatClampNeg) ||| ((1 : Int32) <<< (v2 &&& 31))) → (isB s0 ∧ post s0 o3)))) [114, 103, 98, 119] x2)
def wp_X3_forbid (post : Int32 → Off → Prop) (o : Off) (p0 : Int32) (p1 : Int32) : Prop := wp_X3_bans (fun v1 => ((¬ v1 = 0 → wj_X3_forbid_14 post o p0 p1 (0 : Int32)) ∧ (v1 = 0 → wj_X3_forbid_14 post o p0 p1 (1 : Int32)))) o p0 p1
set_option maxRecDepth 100000 in
set_option maxHeartbeats 4000000 in
theorem jn_X3_forbid_14 {x : gX} {l : Launch} {g : gE} {a : Nat → Nat} {o0 : Off} {post : Int32 → Off → Prop} (hC : gC x l cX3_forbid 4 RX3 g 5 113 0 0) (hZ : gZ x g (some .boolean) (offW g a o0) (pI (offW g a) post) 0 0) : ∀ (o : Off) (x1 : Int32) (x2 : Int32) (s0 : Int32) , wj_X3_forbid_14 post o x1 x2 s0 → G x g 4 0 0 (offW g a o) 14 [(0, .ref (a 0)), (1, .int x1), (2, .int x2)] [.int s0] := by
  intro o x1 x2 s0 h
  rw [wj_X3_forbid_14] at h
  refine g_istore_n (lv2 := [(3, .int s0), (0, .ref (a 0)), (1, .int x1), (2, .int x2)]) hC dX3_forbid_14 15 rfl rfl (by decide) rfl ?_
  refine g_aload_n hC dX3_forbid_15 16 rfl rfl 1 rfl ?_
  refine g_get hC fl_X3_39 dX3_forbid_16 19 rfl 0 rfl rfl ?_
  refine g_iload_n hC dX3_forbid_19 20 rfl rfl 2 rfl ?_
  refine g_dup2 hC dX3_forbid_20 21 rfl rfl rfl ?_
  obtain ⟨hi, h⟩ := h
  refine g_iald hC dX3_forbid_21 22 rfl 10 rfl hi ?_
  refine g_iconst hC (1 : Int32) dX3_forbid_22 23 rfl iconst_1 ?_
  refine g_litS (i := 0) hC rfl dX3_forbid_23 25 rfl ?_
  refine g_iload_n hC dX3_forbid_25 26 rfl rfl 3 rfl ?_
  refine g_callL hC rfl (by decide) (ct_J0_indexOf_0f7a4 l g 0 [114, 103, 98, 119] rfl (by decide) x2 _ h) gY_J0_indexOf_0f7a4 dX3_forbid_26 29 rfl ml_X3_86 [.int (1 : Int32), .int (o 10 x1.toNatClampNeg), .int x1, .ref (a 10)] rfl rfl rfl rfl ⟨Nat.le_of_ble_eq_true rfl, Nat.le_of_ble_eq_true rfl⟩ (Nat.le_of_ble_eq_true rfl) ⟨Nat.le_refl _, Nat.le_refl _⟩ (fun v2 h => ?_)
  refine g_ishl hC dX3_forbid_29 30 rfl ?_
  refine g_ior hC dX3_forbid_30 31 rfl ?_
  obtain ⟨hi, h⟩ := h
  obtain ⟨o3, eo3⟩ : ∃ y : Off, y = st o 10 x1.toNatClampNeg ((o 10 x1.toNatClampNeg) ||| ((1 : Int32) <<< (v2 &&& 31))) := ⟨_, rfl⟩
  have h := h o3 eo3
  refine g_iast hC dX3_forbid_31 32 rfl 10 rfl hi (offW_s10 eo3) ?_
  refine g_iload_n hC dX3_forbid_32 33 rfl rfl 0 rfl ?_
  obtain ⟨hb, h⟩ := h
  exact g_zret hC hZ (isB_n hb) dX3_forbid_33 ⟨_, _, rfl, rfl, h⟩
set_option maxRecDepth 100000 in
set_option maxHeartbeats 4000000 in
theorem ct_X3_forbid (l : Launch) (g : gE) (a : Nat → Nat) (o : Off) (p0 : Int32) (p1 : Int32) (post : Int32 → Off → Prop) (h : wp_X3_forbid post o p0 p1) : Fn l g yX3_forbid cX3_forbid 4 (some .boolean) 5 113 0 0 (offW g a o) [.ref (a 0), .int p0, .int p1] (pI (offW g a) post) := by
  refine Fn.of (by decide) (Nat.le_of_ble_eq_true rfl) (fun x hC hZ => ?_)
  rw [wp_X3_forbid] at h
  show G x g 4 0 0 (offW g a o) 0 [(0, .ref (a 0)), (1, .int p0), (2, .int p1)] []
  refine g_aload_n hC dX3_forbid_0 1 rfl rfl 0 rfl ?_
  refine g_iload_n hC dX3_forbid_1 2 rfl rfl 1 rfl ?_
  refine g_iload_n hC dX3_forbid_2 3 rfl rfl 2 rfl ?_
  refine g_readV hC (ct_X3_bans l g a o p0 p1 _ h) gY_X3_bans dX3_forbid_3 6 rfl ml_X3_111 [] [] (by simp only [List.nil_append, List.append_nil]) [] rfl rfl rfl 0 7 rfl rfl ⟨Nat.le_of_ble_eq_true rfl, Nat.le_of_ble_eq_true rfl⟩ (Nat.le_of_ble_eq_true rfl) ⟨Nat.le_refl _, Nat.le_refl _⟩ (fun v1 h => ?_)
  refine g_if_ne hC dX3_forbid_6 13 (by decide) 9 rfl (fun c => ?_) (fun c => ?_)
  · have h := h.1 c
    refine g_iconst hC (0 : Int32) dX3_forbid_13 14 rfl iconst_0 ?_
    exact jn_X3_forbid_14 hC hZ o p0 p1 (0 : Int32) h
  · have h := h.2 c
    refine g_iconst hC (1 : Int32) dX3_forbid_9 10 rfl iconst_1 ?_
    refine g_goto hC dX3_forbid_10 14 (by decide) ?_
    exact jn_X3_forbid_14 hC hZ o p0 p1 (1 : Int32) h
def wp_X3_permit (post : Int32 → Off → Prop) (o : Off) (p0 : Int32) (p1 : Int32) : Prop := wp_X3_bans (fun v1 => (vp_in p0 5 ∧ wp_J0_indexOf_0f7a4 (fun v2 => (vp_in p0 5 ∧ (∀ o3 : Off, o3 = st o 10 p0.toNatClampNeg ((o 10 p0.toNatClampNeg) &&& (((1 : Int32) <<< (v2 &&& 31)) ^^^ (-1 : Int32))) → (isB v1 ∧ post v1 o3)))) [114, 103, 98, 119] p1)) o p0 p1
set_option maxRecDepth 100000 in
set_option maxHeartbeats 4000000 in
theorem ct_X3_permit (l : Launch) (g : gE) (a : Nat → Nat) (o : Off) (p0 : Int32) (p1 : Int32) (post : Int32 → Off → Prop) (h : wp_X3_permit post o p0 p1) : Fn l g yX3_permit cX3_permit 4 (some .boolean) 5 113 0 0 (offW g a o) [.ref (a 0), .int p0, .int p1] (pI (offW g a) post) := by
  refine Fn.of (by decide) (Nat.le_of_ble_eq_true rfl) (fun x hC hZ => ?_)
  rw [wp_X3_permit] at h
  show G x g 4 0 0 (offW g a o) 0 [(0, .ref (a 0)), (1, .int p0), (2, .int p1)] []
  refine g_aload_n hC dX3_permit_0 1 rfl rfl 0 rfl ?_
  refine g_iload_n hC dX3_permit_1 2 rfl rfl 1 rfl ?_
  refine g_iload_n hC dX3_permit_2 3 rfl rfl 2 rfl ?_
  refine g_readV hC (ct_X3_bans l g a o p0 p1 _ h) gY_X3_bans dX3_permit_3 6 rfl ml_X3_111 [] [] (by simp only [List.nil_append, List.append_nil]) [] rfl rfl rfl 0 7 rfl rfl ⟨Nat.le_of_ble_eq_true rfl, Nat.le_of_ble_eq_true rfl⟩ (Nat.le_of_ble_eq_true rfl) ⟨Nat.le_refl _, Nat.le_refl _⟩ (fun v1 h => ?_)
  refine g_istore_n (lv2 := [(3, .int v1), (0, .ref (a 0)), (1, .int p0), (2, .int p1)]) hC dX3_permit_6 7 rfl rfl (by decide) rfl ?_
  refine g_aload_n hC dX3_permit_7 8 rfl rfl 1 rfl ?_
  refine g_get hC fl_X3_39 dX3_permit_8 11 rfl 0 rfl rfl ?_
  refine g_iload_n hC dX3_permit_11 12 rfl rfl 2 rfl ?_
  refine g_dup2 hC dX3_permit_12 13 rfl rfl rfl ?_
  obtain ⟨hi, h⟩ := h
  refine g_iald hC dX3_permit_13 14 rfl 10 rfl hi ?_
  refine g_iconst hC (1 : Int32) dX3_permit_14 15 rfl iconst_1 ?_
  refine g_litS (i := 0) hC rfl dX3_permit_15 17 rfl ?_
  refine g_iload_n hC dX3_permit_17 18 rfl rfl 3 rfl ?_
  refine g_callL hC rfl (by decide) (ct_J0_indexOf_0f7a4 l g 0 [114, 103, 98, 119] rfl (by decide) p1 _ h) gY_J0_indexOf_0f7a4 dX3_permit_18 21 rfl ml_X3_86 [.int (1 : Int32), .int (o 10 p0.toNatClampNeg), .int p0, .ref (a 10)] rfl rfl rfl rfl ⟨Nat.le_of_ble_eq_true rfl, Nat.le_of_ble_eq_true rfl⟩ (Nat.le_of_ble_eq_true rfl) ⟨Nat.le_refl _, Nat.le_refl _⟩ (fun v2 h => ?_)
  refine g_ishl hC dX3_permit_21 22 rfl ?_
  refine g_iconst hC (-1 : Int32) dX3_permit_22 23 rfl iconst_m1 ?_
  refine g_ixor hC dX3_permit_23 24 rfl ?_
  refine g_iand hC dX3_permit_24 25 rfl ?_
  obtain ⟨hi, h⟩ := h
  obtain ⟨o3, eo3⟩ : ∃ y : Off, y = st o 10 p0.toNatClampNeg ((o 10 p0.toNatClampNeg) &&& (((1 : Int32) <<< (v2 &&& 31)) ^^^ (-1 : Int32))) := ⟨_, rfl⟩
  have h := h o3 eo3
  refine g_iast hC dX3_permit_25 26 rfl 10 rfl hi (offW_s10 eo3) ?_
  refine g_iload_n hC dX3_permit_26 27 rfl rfl 0 rfl ?_
  obtain ⟨hb, h⟩ := h
  exact g_zret hC hZ (isB_n hb) dX3_permit_27 ⟨_, _, rfl, rfl, h⟩
def wp_X3_hasTreaty (post : Int32 → Prop) (o : Off) (p0 : Int32) (p1 : Int32) : Prop := wp_X3_clauseBetween (fun v1 => ((v1 = 0 → post (0 : Int32)) ∧ (¬ v1 = 0 → post (1 : Int32)))) o p0 p1
set_option maxRecDepth 100000 in
set_option maxHeartbeats 4000000 in
theorem ct_X3_hasTreaty (l : Launch) (g : gE) (a : Nat → Nat) (o : Off) (p0 : Int32) (p1 : Int32) (post : Int32 → Prop) (h : wp_X3_hasTreaty post o p0 p1) : Fn l g yX3_hasTreaty cX3_hasTreaty 3 (some .boolean) 1 22 0 0 (offW g a o) [.ref (a 0), .int p0, .int p1] (pR (offW g a o) post) := by
  refine Fn.of (by decide) (Nat.le_of_ble_eq_true rfl) (fun x hC hZ => ?_)
  rw [wp_X3_hasTreaty] at h
  show G x g 3 0 0 (offW g a o) 0 [(0, .ref (a 0)), (1, .int p0), (2, .int p1)] []
  refine g_aload_n hC dX3_hasTreaty_0 1 rfl rfl 0 rfl ?_
  refine g_iload_n hC dX3_hasTreaty_1 2 rfl rfl 1 rfl ?_
  refine g_iload_n hC dX3_hasTreaty_2 3 rfl rfl 2 rfl ?_
  refine g_readV hC (ct_X3_clauseBetween l g a o p0 p1 _ h) gY_X3_clauseBetween dX3_hasTreaty_3 6 rfl ml_X3_124 [] [] (by simp only [List.nil_append, List.append_nil]) [] rfl rfl rfl 0 7 rfl rfl ⟨Nat.le_of_ble_eq_true rfl, Nat.le_of_ble_eq_true rfl⟩ (Nat.le_of_ble_eq_true rfl) ⟨Nat.le_refl _, Nat.le_refl _⟩ (fun v1 h => ?_)
  refine g_if_eq hC dX3_hasTreaty_6 13 (by decide) 9 rfl (fun c => ?_) (fun c => ?_)
  · have h := h.1 c
    refine g_iconst hC (0 : Int32) dX3_hasTreaty_13 14 rfl iconst_0 ?_
    exact g_zret hC hZ rfl dX3_hasTreaty_14 ⟨_, rfl, rfl, h⟩
  · have h := h.2 c
    refine g_iconst hC (1 : Int32) dX3_hasTreaty_9 10 rfl iconst_1 ?_
    refine g_goto hC dX3_hasTreaty_10 14 (by decide) ?_
    exact g_zret hC hZ rfl dX3_hasTreaty_14 ⟨_, rfl, rfl, h⟩
def wl_X3_treaties_4 (post : Int32 → Prop) (o : Off) : Nat → Int32 → Int32 → Prop
  | 0, _, _ => False
  | n + 1, x1, x2 => (((25 : Int32) ≤ x2 → post (x1 / (2 : Int32))) ∧ (¬ (25 : Int32) ≤ x2 → (vp_in x2 25 ∧ (((o 11 x2.toNatClampNeg) = 0 → (∀ v1 : Int32, v1 = x2 + (1 : Int32) → wl_X3_treaties_4 post o n x1 v1)) ∧ (¬ (o 11 x2.toNatClampNeg) = 0 → (∀ v2 : Int32, v2 = x1 + (1 : Int32) → (∀ v3 : Int32, v3 = x2 + (1 : Int32) → wl_X3_treaties_4 post o n v2 v3)))))))
def wp_X3_treaties (post : Int32 → Prop) (o : Off) : Prop := (∃ m : Nat, wl_X3_treaties_4 post o m (0 : Int32) (0 : Int32))
set_option maxRecDepth 100000 in
set_option maxHeartbeats 4000000 in
theorem lp_X3_treaties_4 {x : gX} {l : Launch} {g : gE} {a : Nat → Nat} {o : Off} {post : Int32 → Prop} (hC : gC x l cX3_treaties 3 RX3 g 0 0 0 0) (hZ : gZ x g (some .int) (offW g a o) (pR (offW g a o) post) 0 0) : ∀ (n : Nat) (x1 : Int32) (x2 : Int32) , wl_X3_treaties_4 post o n x1 x2 → G x g 3 0 0 (offW g a o) 4 [(0, .ref (a 0)), (1, .int x1), (2, .int x2)] [] := by
  intro n
  induction n with
  | zero =>
    intro x1 x2 h
    exact h.elim
  | succ n ih =>
    intro x1 x2 h
    rw [wl_X3_treaties_4] at h
    refine g_iload_n hC dX3_treaties_4 5 rfl rfl 2 rfl ?_
    refine g_aload_n hC dX3_treaties_5 6 rfl rfl 0 rfl ?_
    refine g_get hC fl_X3_42 dX3_treaties_6 9 rfl 0 rfl rfl ?_
    refine g_alen (v := (25 : Int32)) hC dX3_treaties_9 10 rfl 11 0 rfl rfl rfl ?_
    refine g_icmp_ge hC dX3_treaties_10 31 (by decide) 13 rfl (fun c => ?_) (fun c => ?_)
    · have h := h.1 c
      refine g_iload_n hC dX3_treaties_31 32 rfl rfl 1 rfl ?_
      refine g_iconst hC (2 : Int32) dX3_treaties_32 33 rfl iconst_2 ?_
      refine g_idiv hC dX3_treaties_33 34 rfl (by decide) ?_
      exact g_iret hC hZ dX3_treaties_34 ⟨_, rfl, rfl, h⟩
    · have h := h.2 c
      refine g_aload_n hC dX3_treaties_13 14 rfl rfl 0 rfl ?_
      refine g_get hC fl_X3_42 dX3_treaties_14 17 rfl 0 rfl rfl ?_
      refine g_iload_n hC dX3_treaties_17 18 rfl rfl 2 rfl ?_
      obtain ⟨hi, h⟩ := h
      refine g_iald hC dX3_treaties_18 19 rfl 11 rfl hi ?_
      refine g_if_eq hC dX3_treaties_19 25 (by decide) 22 rfl (fun c => ?_) (fun c => ?_)
      · have h := h.1 c
        obtain ⟨v1, ev1⟩ : ∃ y : Int32, y = x2 + (1 : Int32) := ⟨_, rfl⟩
        have h := h v1 ev1
        refine g_iinc (v2 := v1) (lv2 := [(2, .int v1), (0, .ref (a 0)), (1, .int x1)]) hC dX3_treaties_25 28 rfl 2 rfl (by rw [iconst_1, ev1]) (by decide) rfl ?_
        refine g_goto hC dX3_treaties_28 4 (by decide) ?_
        refine g_lv (lv2 := [(0, .ref (a 0)), (1, .int x1), (2, .int v1)]) [1, 2, 0] rfl ?_
        exact ih x1 v1 h
      · have h := h.2 c
        obtain ⟨v2, ev2⟩ : ∃ y : Int32, y = x1 + (1 : Int32) := ⟨_, rfl⟩
        have h := h v2 ev2
        refine g_iinc (v2 := v2) (lv2 := [(1, .int v2), (0, .ref (a 0)), (2, .int x2)]) hC dX3_treaties_22 25 rfl 1 rfl (by rw [iconst_1, ev2]) (by decide) rfl ?_
        obtain ⟨v3, ev3⟩ : ∃ y : Int32, y = x2 + (1 : Int32) := ⟨_, rfl⟩
        have h := h v3 ev3
        refine g_iinc (v2 := v3) (lv2 := [(2, .int v3), (1, .int v2), (0, .ref (a 0))]) hC dX3_treaties_25 28 rfl 2 rfl (by rw [iconst_1, ev3]) (by decide) rfl ?_
        refine g_goto hC dX3_treaties_28 4 (by decide) ?_
        refine g_lv (lv2 := [(0, .ref (a 0)), (1, .int v2), (2, .int v3)]) [2, 1, 0] rfl ?_
        exact ih v2 v3 h
set_option maxRecDepth 100000 in
set_option maxHeartbeats 4000000 in
theorem ct_X3_treaties (l : Launch) (g : gE) (a : Nat → Nat) (o : Off) (post : Int32 → Prop) (h : wp_X3_treaties post o ) : Fn l g yX3_treaties cX3_treaties 3 (some .int) 0 0 0 0 (offW g a o) [.ref (a 0)] (pR (offW g a o) post) := by
  refine Fn.of (by decide) (Nat.le_of_ble_eq_true rfl) (fun x hC hZ => ?_)
  rw [wp_X3_treaties] at h
  show G x g 3 0 0 (offW g a o) 0 [(0, .ref (a 0))] []
  refine g_iconst hC (0 : Int32) dX3_treaties_0 1 rfl iconst_0 ?_
  refine g_istore_n (lv2 := [(1, .int (0 : Int32)), (0, .ref (a 0))]) hC dX3_treaties_1 2 rfl rfl (by decide) rfl ?_
  refine g_iconst hC (0 : Int32) dX3_treaties_2 3 rfl iconst_0 ?_
  refine g_istore_n (lv2 := [(2, .int (0 : Int32)), (1, .int (0 : Int32)), (0, .ref (a 0))]) hC dX3_treaties_3 4 rfl rfl (by decide) rfl ?_
  refine g_lv (lv2 := [(0, .ref (a 0)), (1, .int (0 : Int32)), (2, .int (0 : Int32))]) [2, 1, 0] rfl ?_
  obtain ⟨m, h⟩ := h
  exact lp_X3_treaties_4 hC hZ m (0 : Int32) (0 : Int32) h
def wp_X3_sign (post : Int32 → Off → Prop) (o : Off) (p0 : Int32) (p1 : Int32) (p2 : Int32) : Prop := (vp_in ((p0 * (5 : Int32)) + p1) 25 ∧ (∀ o1 : Off, o1 = st o 11 ((p0 * (5 : Int32)) + p1).toNatClampNeg p2 → (vp_in ((p1 * (5 : Int32)) + p0) 25 ∧ (∀ o2 : Off, o2 = st o1 11 ((p1 * (5 : Int32)) + p0).toNatClampNeg p2 → wp_X3_treaties (fun v3 => post v3 o2) o2 ))))
set_option maxRecDepth 100000 in
set_option maxHeartbeats 4000000 in
theorem ct_X3_sign (l : Launch) (g : gE) (a : Nat → Nat) (o : Off) (p0 : Int32) (p1 : Int32) (p2 : Int32) (post : Int32 → Off → Prop) (h : wp_X3_sign post o p0 p1 p2) : Fn l g yX3_sign cX3_sign 4 (some .int) 1 22 0 0 (offW g a o) [.ref (a 0), .int p0, .int p1, .int p2] (pI (offW g a) post) := by
  refine Fn.of (by decide) (Nat.le_of_ble_eq_true rfl) (fun x hC hZ => ?_)
  rw [wp_X3_sign] at h
  show G x g 4 0 0 (offW g a o) 0 [(0, .ref (a 0)), (1, .int p0), (2, .int p1), (3, .int p2)] []
  refine g_aload_n hC dX3_sign_0 1 rfl rfl 0 rfl ?_
  refine g_get hC fl_X3_42 dX3_sign_1 4 rfl 0 rfl rfl ?_
  refine g_iload_n hC dX3_sign_4 5 rfl rfl 1 rfl ?_
  refine g_iconst hC (5 : Int32) dX3_sign_5 6 rfl iconst_5 ?_
  refine g_imul hC dX3_sign_6 7 rfl ?_
  refine g_iload_n hC dX3_sign_7 8 rfl rfl 2 rfl ?_
  refine g_iadd hC dX3_sign_8 9 rfl ?_
  refine g_iload_n hC dX3_sign_9 10 rfl rfl 3 rfl ?_
  obtain ⟨hi, h⟩ := h
  obtain ⟨o1, eo1⟩ : ∃ y : Off, y = st o 11 ((p0 * (5 : Int32)) + p1).toNatClampNeg p2 := ⟨_, rfl⟩
  have h := h o1 eo1
  refine g_iast hC dX3_sign_10 11 rfl 11 rfl hi (offW_s11 eo1) ?_
  refine g_aload_n hC dX3_sign_11 12 rfl rfl 0 rfl ?_
  refine g_get hC fl_X3_42 dX3_sign_12 15 rfl 0 rfl rfl ?_
  refine g_iload_n hC dX3_sign_15 16 rfl rfl 2 rfl ?_
  refine g_iconst hC (5 : Int32) dX3_sign_16 17 rfl iconst_5 ?_
  refine g_imul hC dX3_sign_17 18 rfl ?_
  refine g_iload_n hC dX3_sign_18 19 rfl rfl 1 rfl ?_
  refine g_iadd hC dX3_sign_19 20 rfl ?_
  refine g_iload_n hC dX3_sign_20 21 rfl rfl 3 rfl ?_
  obtain ⟨hi, h⟩ := h
  obtain ⟨o2, eo2⟩ : ∃ y : Off, y = st o1 11 ((p1 * (5 : Int32)) + p0).toNatClampNeg p2 := ⟨_, rfl⟩
  have h := h o2 eo2
  refine g_iast hC dX3_sign_21 22 rfl 11 rfl hi (offW_s11 eo2) ?_
  refine g_aload_n hC dX3_sign_22 23 rfl rfl 0 rfl ?_
  refine g_readV hC (ct_X3_treaties l g a o2  _ h) gY_X3_treaties dX3_sign_23 26 rfl ml_X3_171 [] [] (by simp only [List.nil_append, List.append_nil]) [] rfl rfl rfl 0 7 rfl rfl ⟨Nat.le_of_ble_eq_true rfl, Nat.le_of_ble_eq_true rfl⟩ (Nat.le_of_ble_eq_true rfl) ⟨Nat.le_refl _, Nat.le_refl _⟩ (fun v3 h => ?_)
  exact g_iret hC hZ dX3_sign_26 ⟨_, _, rfl, rfl, h⟩
def wp_X3_cancel (post : Int32 → Off → Prop) (o : Off) (p0 : Int32) (p1 : Int32) : Prop := (vp_in ((p0 * (5 : Int32)) + p1) 25 ∧ (∀ o1 : Off, o1 = st o 11 ((p0 * (5 : Int32)) + p1).toNatClampNeg (0 : Int32) → (vp_in ((p1 * (5 : Int32)) + p0) 25 ∧ (∀ o2 : Off, o2 = st o1 11 ((p1 * (5 : Int32)) + p0).toNatClampNeg (0 : Int32) → wp_X3_treaties (fun v3 => post v3 o2) o2 ))))
set_option maxRecDepth 100000 in
set_option maxHeartbeats 4000000 in
theorem ct_X3_cancel (l : Launch) (g : gE) (a : Nat → Nat) (o : Off) (p0 : Int32) (p1 : Int32) (post : Int32 → Off → Prop) (h : wp_X3_cancel post o p0 p1) : Fn l g yX3_cancel cX3_cancel 3 (some .int) 1 22 0 0 (offW g a o) [.ref (a 0), .int p0, .int p1] (pI (offW g a) post) := by
  refine Fn.of (by decide) (Nat.le_of_ble_eq_true rfl) (fun x hC hZ => ?_)
  rw [wp_X3_cancel] at h
  show G x g 3 0 0 (offW g a o) 0 [(0, .ref (a 0)), (1, .int p0), (2, .int p1)] []
  refine g_aload_n hC dX3_cancel_0 1 rfl rfl 0 rfl ?_
  refine g_get hC fl_X3_42 dX3_cancel_1 4 rfl 0 rfl rfl ?_
  refine g_iload_n hC dX3_cancel_4 5 rfl rfl 1 rfl ?_
  refine g_iconst hC (5 : Int32) dX3_cancel_5 6 rfl iconst_5 ?_
  refine g_imul hC dX3_cancel_6 7 rfl ?_
  refine g_iload_n hC dX3_cancel_7 8 rfl rfl 2 rfl ?_
  refine g_iadd hC dX3_cancel_8 9 rfl ?_
  refine g_iconst hC (0 : Int32) dX3_cancel_9 10 rfl iconst_0 ?_
  obtain ⟨hi, h⟩ := h
  obtain ⟨o1, eo1⟩ : ∃ y : Off, y = st o 11 ((p0 * (5 : Int32)) + p1).toNatClampNeg (0 : Int32) := ⟨_, rfl⟩
  have h := h o1 eo1
  refine g_iast hC dX3_cancel_10 11 rfl 11 rfl hi (offW_s11 eo1) ?_
  refine g_aload_n hC dX3_cancel_11 12 rfl rfl 0 rfl ?_
  refine g_get hC fl_X3_42 dX3_cancel_12 15 rfl 0 rfl rfl ?_
  refine g_iload_n hC dX3_cancel_15 16 rfl rfl 2 rfl ?_
  refine g_iconst hC (5 : Int32) dX3_cancel_16 17 rfl iconst_5 ?_
  refine g_imul hC dX3_cancel_17 18 rfl ?_
  refine g_iload_n hC dX3_cancel_18 19 rfl rfl 1 rfl ?_
  refine g_iadd hC dX3_cancel_19 20 rfl ?_
  refine g_iconst hC (0 : Int32) dX3_cancel_20 21 rfl iconst_0 ?_
  obtain ⟨hi, h⟩ := h
  obtain ⟨o2, eo2⟩ : ∃ y : Off, y = st o1 11 ((p1 * (5 : Int32)) + p0).toNatClampNeg (0 : Int32) := ⟨_, rfl⟩
  have h := h o2 eo2
  refine g_iast hC dX3_cancel_21 22 rfl 11 rfl hi (offW_s11 eo2) ?_
  refine g_aload_n hC dX3_cancel_22 23 rfl rfl 0 rfl ?_
  refine g_readV hC (ct_X3_treaties l g a o2  _ h) gY_X3_treaties dX3_cancel_23 26 rfl ml_X3_171 [] [] (by simp only [List.nil_append, List.append_nil]) [] rfl rfl rfl 0 7 rfl rfl ⟨Nat.le_of_ble_eq_true rfl, Nat.le_of_ble_eq_true rfl⟩ (Nat.le_of_ble_eq_true rfl) ⟨Nat.le_refl _, Nat.le_refl _⟩ (fun v3 h => ?_)
  exact g_iret hC hZ dX3_cancel_26 ⟨_, _, rfl, rfl, h⟩
def wp_X3_expires (post : Int32 → Prop) (o : Off) (p0 : Int32) (p1 : Int32) : Prop := (vp_in p0 14 ∧ ((¬ (o 3 p0.toNatClampNeg) = (3 : Int32) → post (0 : Int32)) ∧ ((o 3 p0.toNatClampNeg) = (3 : Int32) → (vp_in p0 14 ∧ ((¬ (o 8 p0.toNatClampNeg) = (-1 : Int32) → post (0 : Int32)) ∧ ((o 8 p0.toNatClampNeg) = (-1 : Int32) → (vp_in p0 14 ∧ ((p1 ≤ (o 7 p0.toNatClampNeg) → post (0 : Int32)) ∧ (¬ p1 ≤ (o 7 p0.toNatClampNeg) → post (1 : Int32))))))))))
set_option maxRecDepth 100000 in
set_option maxHeartbeats 4000000 in
theorem ct_X3_expires (l : Launch) (g : gE) (a : Nat → Nat) (o : Off) (p0 : Int32) (p1 : Int32) (post : Int32 → Prop) (h : wp_X3_expires post o p0 p1) : Fn l g yX3_expires cX3_expires 3 (some .boolean) 0 0 0 0 (offW g a o) [.ref (a 0), .int p0, .int p1] (pR (offW g a o) post) := by
  refine Fn.of (by decide) (Nat.le_of_ble_eq_true rfl) (fun x hC hZ => ?_)
  rw [wp_X3_expires] at h
  show G x g 3 0 0 (offW g a o) 0 [(0, .ref (a 0)), (1, .int p0), (2, .int p1)] []
  refine g_aload_n hC dX3_expires_0 1 rfl rfl 0 rfl ?_
  refine g_get hC fl_X3_18 dX3_expires_1 4 rfl 0 rfl rfl ?_
  refine g_iload_n hC dX3_expires_4 5 rfl rfl 1 rfl ?_
  obtain ⟨hi, h⟩ := h
  refine g_iald hC dX3_expires_5 6 rfl 3 rfl hi ?_
  refine g_iconst hC (3 : Int32) dX3_expires_6 7 rfl iconst_3 ?_
  refine g_icmp_ne hC dX3_expires_7 34 (by decide) 10 rfl (fun c => ?_) (fun c => ?_)
  · have h := h.1 c
    refine g_iconst hC (0 : Int32) dX3_expires_34 35 rfl iconst_0 ?_
    exact g_zret hC hZ rfl dX3_expires_35 ⟨_, rfl, rfl, h⟩
  · have h := h.2 c
    refine g_aload_n hC dX3_expires_10 11 rfl rfl 0 rfl ?_
    refine g_get hC fl_X3_33 dX3_expires_11 14 rfl 0 rfl rfl ?_
    refine g_iload_n hC dX3_expires_14 15 rfl rfl 1 rfl ?_
    obtain ⟨hi, h⟩ := h
    refine g_iald hC dX3_expires_15 16 rfl 8 rfl hi ?_
    refine g_iconst hC (-1 : Int32) dX3_expires_16 17 rfl iconst_m1 ?_
    refine g_icmp_ne hC dX3_expires_17 34 (by decide) 20 rfl (fun c => ?_) (fun c => ?_)
    · have h := h.1 c
      refine g_iconst hC (0 : Int32) dX3_expires_34 35 rfl iconst_0 ?_
      exact g_zret hC hZ rfl dX3_expires_35 ⟨_, rfl, rfl, h⟩
    · have h := h.2 c
      refine g_aload_n hC dX3_expires_20 21 rfl rfl 0 rfl ?_
      refine g_get hC fl_X3_30 dX3_expires_21 24 rfl 0 rfl rfl ?_
      refine g_iload_n hC dX3_expires_24 25 rfl rfl 1 rfl ?_
      obtain ⟨hi, h⟩ := h
      refine g_iald hC dX3_expires_25 26 rfl 7 rfl hi ?_
      refine g_iload_n hC dX3_expires_26 27 rfl rfl 2 rfl ?_
      refine g_icmp_ge hC dX3_expires_27 34 (by decide) 30 rfl (fun c => ?_) (fun c => ?_)
      · have h := h.1 c
        refine g_iconst hC (0 : Int32) dX3_expires_34 35 rfl iconst_0 ?_
        exact g_zret hC hZ rfl dX3_expires_35 ⟨_, rfl, rfl, h⟩
      · have h := h.2 c
        refine g_iconst hC (1 : Int32) dX3_expires_30 31 rfl iconst_1 ?_
        refine g_goto hC dX3_expires_31 35 (by decide) ?_
        exact g_zret hC hZ rfl dX3_expires_35 ⟨_, rfl, rfl, h⟩
def wl_X3_expelAll_2 (post : Off → Prop) : Nat → Off → Int32 → Prop
  | 0, _, _ => False
  | n + 1, o, x1 => (((o 0 0) ≤ x1 → post o) ∧ (¬ (o 0 0) ≤ x1 → wp_X3_expires (fun v1 => ((v1 = 0 → (∀ v2 : Int32, v2 = x1 + (1 : Int32) → wl_X3_expelAll_2 post n o v2)) ∧ (¬ v1 = 0 → (vp_in x1 14 ∧ (∀ o3 : Off, o3 = st o 3 x1.toNatClampNeg (0 : Int32) → (∀ o4 : Off, o4 = st o3 0 4 ((o3 0 4) + (1 : Int32)) → (∀ v5 : Int32, v5 = x1 + (1 : Int32) → wl_X3_expelAll_2 post n o4 v5))))))) o x1 (o 0 1)))
def wp_X3_expelAll (post : Off → Prop) (o : Off) : Prop := (∃ m : Nat, wl_X3_expelAll_2 post m o (0 : Int32))
set_option maxRecDepth 100000 in
set_option maxHeartbeats 4000000 in
theorem lp_X3_expelAll_2 {x : gX} {l : Launch} {g : gE} {a : Nat → Nat} {o0 : Off} {post : Off → Prop} (hC : gC x l cX3_expelAll 2 RX3 g 1 22 0 0) (hZ : gZ x g none (offW g a o0) (pV (offW g a) post) 0 0) : ∀ (n : Nat) (o : Off) (x1 : Int32) , wl_X3_expelAll_2 post n o x1 → G x g 2 0 0 (offW g a o) 2 [(0, .ref (a 0)), (1, .int x1)] [] := by
  intro n
  induction n with
  | zero =>
    intro o x1 h
    exact h.elim
  | succ n ih =>
    intro o x1 h
    rw [wl_X3_expelAll_2] at h
    refine g_iload_n hC dX3_expelAll_2 3 rfl rfl 1 rfl ?_
    refine g_aload_n hC dX3_expelAll_3 4 rfl rfl 0 rfl ?_
    refine g_get hC fl_X3_45 dX3_expelAll_4 7 rfl 0 rfl rfl ?_
    refine g_icmp_ge hC dX3_expelAll_7 45 (by decide) 10 rfl (fun c => ?_) (fun c => ?_)
    · have h := h.1 c
      exact g_vret hC hZ dX3_expelAll_45 ⟨_, rfl, rfl, h⟩
    · have h := h.2 c
      refine g_aload_n hC dX3_expelAll_10 11 rfl rfl 0 rfl ?_
      refine g_iload_n hC dX3_expelAll_11 12 rfl rfl 1 rfl ?_
      refine g_aload_n hC dX3_expelAll_12 13 rfl rfl 0 rfl ?_
      refine g_get hC fl_X3_49 dX3_expelAll_13 16 rfl 0 rfl rfl ?_
      refine g_readV hC (ct_X3_expires l g a o x1 (o 0 1) _ h) gY_X3_expires dX3_expelAll_16 19 rfl ml_X3_177 [] [] (by simp only [List.nil_append, List.append_nil]) [] rfl rfl rfl 0 7 rfl rfl ⟨Nat.le_of_ble_eq_true rfl, Nat.le_of_ble_eq_true rfl⟩ (Nat.le_of_ble_eq_true rfl) ⟨Nat.le_refl _, Nat.le_refl _⟩ (fun v1 h => ?_)
      refine g_if_eq hC dX3_expelAll_19 39 (by decide) 22 rfl (fun c => ?_) (fun c => ?_)
      · have h := h.1 c
        obtain ⟨v2, ev2⟩ : ∃ y : Int32, y = x1 + (1 : Int32) := ⟨_, rfl⟩
        have h := h v2 ev2
        refine g_iinc (v2 := v2) (lv2 := [(1, .int v2), (0, .ref (a 0))]) hC dX3_expelAll_39 42 rfl 1 rfl (by rw [iconst_1, ev2]) (by decide) rfl ?_
        refine g_goto hC dX3_expelAll_42 2 (by decide) ?_
        refine g_lv (lv2 := [(0, .ref (a 0)), (1, .int v2)]) [1, 0] rfl ?_
        exact ih o v2 h
      · have h := h.2 c
        refine g_aload_n hC dX3_expelAll_22 23 rfl rfl 0 rfl ?_
        refine g_get hC fl_X3_18 dX3_expelAll_23 26 rfl 0 rfl rfl ?_
        refine g_iload_n hC dX3_expelAll_26 27 rfl rfl 1 rfl ?_
        refine g_iconst hC (0 : Int32) dX3_expelAll_27 28 rfl iconst_0 ?_
        obtain ⟨hi, h⟩ := h
        obtain ⟨o3, eo3⟩ : ∃ y : Off, y = st o 3 x1.toNatClampNeg (0 : Int32) := ⟨_, rfl⟩
        have h := h o3 eo3
        refine g_iast hC dX3_expelAll_28 29 rfl 3 rfl hi (offW_s3 eo3) ?_
        refine g_aload_n hC dX3_expelAll_29 30 rfl rfl 0 rfl ?_
        refine g_dup hC dX3_expelAll_30 31 rfl rfl ?_
        refine g_get hC fl_X3_58 dX3_expelAll_31 34 rfl 0 rfl rfl ?_
        refine g_iconst hC (1 : Int32) dX3_expelAll_34 35 rfl iconst_1 ?_
        refine g_iadd hC dX3_expelAll_35 36 rfl ?_
        obtain ⟨o4, eo4⟩ : ∃ y : Off, y = st o3 0 4 ((o3 0 4) + (1 : Int32)) := ⟨_, rfl⟩
        have h := h o4 eo4
        refine g_put hC fp_X3_58 dX3_expelAll_36 39 rfl 0 rfl rfl rfl (Nat.le_of_ble_eq_true rfl) (offW_p4 eo4) ?_
        obtain ⟨v5, ev5⟩ : ∃ y : Int32, y = x1 + (1 : Int32) := ⟨_, rfl⟩
        have h := h v5 ev5
        refine g_iinc (v2 := v5) (lv2 := [(1, .int v5), (0, .ref (a 0))]) hC dX3_expelAll_39 42 rfl 1 rfl (by rw [iconst_1, ev5]) (by decide) rfl ?_
        refine g_goto hC dX3_expelAll_42 2 (by decide) ?_
        refine g_lv (lv2 := [(0, .ref (a 0)), (1, .int v5)]) [1, 0] rfl ?_
        exact ih o4 v5 h
set_option maxRecDepth 100000 in
set_option maxHeartbeats 4000000 in
theorem ct_X3_expelAll (l : Launch) (g : gE) (a : Nat → Nat) (o : Off) (post : Off → Prop) (h : wp_X3_expelAll post o ) : Fn l g yX3_expelAll cX3_expelAll 2 none 1 22 0 0 (offW g a o) [.ref (a 0)] (pV (offW g a) post) := by
  refine Fn.of (by decide) (Nat.le_of_ble_eq_true rfl) (fun x hC hZ => ?_)
  rw [wp_X3_expelAll] at h
  show G x g 2 0 0 (offW g a o) 0 [(0, .ref (a 0))] []
  refine g_iconst hC (0 : Int32) dX3_expelAll_0 1 rfl iconst_0 ?_
  refine g_istore_n (lv2 := [(1, .int (0 : Int32)), (0, .ref (a 0))]) hC dX3_expelAll_1 2 rfl rfl (by decide) rfl ?_
  refine g_lv (lv2 := [(0, .ref (a 0)), (1, .int (0 : Int32))]) [1, 0] rfl ?_
  obtain ⟨m, h⟩ := h
  exact lp_X3_expelAll_2 hC hZ m o (0 : Int32) h
def wl_X3_advance_7 (post : Int32 → Off → Prop) : Nat → Off → Int32 → Int32 → Int32 → Prop
  | 0, _, _, _, _ => False
  | n + 1, o, x1, x2, x3 => ((x1 ≤ x3 → post ((o 0 4) - x2) o) ∧ (¬ x1 ≤ x3 → (∀ o2 : Off, o2 = st o 0 1 ((o 0 1) + (1 : Int32)) → wp_X3_expelAll (fun o3 => (∀ v4 : Int32, v4 = x3 + (1 : Int32) → wl_X3_advance_7 post n o3 x1 x2 v4)) o2 )))
def wp_X3_advance (post : Int32 → Off → Prop) (o : Off) (p0 : Int32) : Prop := (∀ v1 : Int32, v1 = (o 0 4) → (∃ m : Nat, wl_X3_advance_7 post m o p0 v1 (0 : Int32)))
set_option maxRecDepth 100000 in
set_option maxHeartbeats 4000000 in
theorem lp_X3_advance_7 {x : gX} {l : Launch} {g : gE} {a : Nat → Nat} {o0 : Off} {post : Int32 → Off → Prop} (hC : gC x l cX3_advance 4 RX3 g 2 43 0 0) (hZ : gZ x g (some .int) (offW g a o0) (pI (offW g a) post) 0 0) : ∀ (n : Nat) (o : Off) (x1 : Int32) (x2 : Int32) (x3 : Int32) , wl_X3_advance_7 post n o x1 x2 x3 → G x g 4 0 0 (offW g a o) 7 [(0, .ref (a 0)), (1, .int x1), (2, .int x2), (3, .int x3)] [] := by
  intro n
  induction n with
  | zero =>
    intro o x1 x2 x3 h
    exact h.elim
  | succ n ih =>
    intro o x1 x2 x3 h
    rw [wl_X3_advance_7] at h
    refine g_iload_n hC dX3_advance_7 8 rfl rfl 3 rfl ?_
    refine g_iload_n hC dX3_advance_8 9 rfl rfl 1 rfl ?_
    refine g_icmp_ge hC dX3_advance_9 32 (by decide) 12 rfl (fun c => ?_) (fun c => ?_)
    · have h := h.1 c
      refine g_aload_n hC dX3_advance_32 33 rfl rfl 0 rfl ?_
      refine g_get hC fl_X3_58 dX3_advance_33 36 rfl 0 rfl rfl ?_
      refine g_iload_n hC dX3_advance_36 37 rfl rfl 2 rfl ?_
      refine g_isub hC dX3_advance_37 38 rfl ?_
      exact g_iret hC hZ dX3_advance_38 ⟨_, _, rfl, rfl, h⟩
    · have h := h.2 c
      refine g_aload_n hC dX3_advance_12 13 rfl rfl 0 rfl ?_
      refine g_dup hC dX3_advance_13 14 rfl rfl ?_
      refine g_get hC fl_X3_49 dX3_advance_14 17 rfl 0 rfl rfl ?_
      refine g_iconst hC (1 : Int32) dX3_advance_17 18 rfl iconst_1 ?_
      refine g_iadd hC dX3_advance_18 19 rfl ?_
      obtain ⟨o2, eo2⟩ : ∃ y : Off, y = st o 0 1 ((o 0 1) + (1 : Int32)) := ⟨_, rfl⟩
      have h := h o2 eo2
      refine g_put hC fp_X3_49 dX3_advance_19 22 rfl 0 rfl rfl rfl (Nat.le_of_ble_eq_true rfl) (offW_p1 eo2) ?_
      refine g_aload_n hC dX3_advance_22 23 rfl rfl 0 rfl ?_
      refine g_ownV hC (ct_X3_expelAll l g a o2  _ h) gY_X3_expelAll dX3_advance_23 26 rfl ml_X3_174 [] rfl rfl rfl 0 7 rfl rfl ⟨Nat.le_of_ble_eq_true rfl, Nat.le_of_ble_eq_true rfl⟩ (Nat.le_of_ble_eq_true rfl) ⟨Nat.le_refl _, Nat.le_refl _⟩ (fun o3 h => ?_)
      obtain ⟨v4, ev4⟩ : ∃ y : Int32, y = x3 + (1 : Int32) := ⟨_, rfl⟩
      have h := h v4 ev4
      refine g_iinc (v2 := v4) (lv2 := [(3, .int v4), (0, .ref (a 0)), (1, .int x1), (2, .int x2)]) hC dX3_advance_26 29 rfl 3 rfl (by rw [iconst_1, ev4]) (by decide) rfl ?_
      refine g_goto hC dX3_advance_29 7 (by decide) ?_
      refine g_lv (lv2 := [(0, .ref (a 0)), (1, .int x1), (2, .int x2), (3, .int v4)]) [1, 2, 3, 0] rfl ?_
      exact ih o3 x1 x2 v4 h
set_option maxRecDepth 100000 in
set_option maxHeartbeats 4000000 in
theorem ct_X3_advance (l : Launch) (g : gE) (a : Nat → Nat) (o : Off) (p0 : Int32) (post : Int32 → Off → Prop) (h : wp_X3_advance post o p0) : Fn l g yX3_advance cX3_advance 4 (some .int) 2 43 0 0 (offW g a o) [.ref (a 0), .int p0] (pI (offW g a) post) := by
  refine Fn.of (by decide) (Nat.le_of_ble_eq_true rfl) (fun x hC hZ => ?_)
  rw [wp_X3_advance] at h
  show G x g 4 0 0 (offW g a o) 0 [(0, .ref (a 0)), (1, .int p0)] []
  refine g_aload_n hC dX3_advance_0 1 rfl rfl 0 rfl ?_
  refine g_get hC fl_X3_58 dX3_advance_1 4 rfl 0 rfl rfl ?_
  refine g_topi (fun v1 ev1 => ?_)
  have h := h v1 ev1
  refine g_istore_n (lv2 := [(2, .int v1), (0, .ref (a 0)), (1, .int p0)]) hC dX3_advance_4 5 rfl rfl (by decide) rfl ?_
  refine g_iconst hC (0 : Int32) dX3_advance_5 6 rfl iconst_0 ?_
  refine g_istore_n (lv2 := [(3, .int (0 : Int32)), (2, .int v1), (0, .ref (a 0)), (1, .int p0)]) hC dX3_advance_6 7 rfl rfl (by decide) rfl ?_
  refine g_lv (lv2 := [(0, .ref (a 0)), (1, .int p0), (2, .int v1), (3, .int (0 : Int32))]) [2, 3, 1, 0] rfl ?_
  obtain ⟨m, h⟩ := h
  exact lp_X3_advance_7 hC hZ m o p0 v1 (0 : Int32) h
def wl_X3_expiring_4 (post : Int32 → Prop) (o : Off) : Nat → Int32 → Int32 → Int32 → Prop
  | 0, _, _, _ => False
  | n + 1, x1, x2, x3 => (((o 0 0) ≤ x3 → post x2) ∧ (¬ (o 0 0) ≤ x3 → wp_X3_expires (fun v1 => ((v1 = 0 → (∀ v2 : Int32, v2 = x3 + (1 : Int32) → wl_X3_expiring_4 post o n x1 x2 v2)) ∧ (¬ v1 = 0 → (∀ v3 : Int32, v3 = x2 + (1 : Int32) → (∀ v4 : Int32, v4 = x3 + (1 : Int32) → wl_X3_expiring_4 post o n x1 v3 v4))))) o x3 x1))
def wp_X3_expiring (post : Int32 → Prop) (o : Off) (p0 : Int32) : Prop := (∃ m : Nat, wl_X3_expiring_4 post o m p0 (0 : Int32) (0 : Int32))
set_option maxRecDepth 100000 in
set_option maxHeartbeats 4000000 in
theorem lp_X3_expiring_4 {x : gX} {l : Launch} {g : gE} {a : Nat → Nat} {o : Off} {post : Int32 → Prop} (hC : gC x l cX3_expiring 4 RX3 g 1 22 0 0) (hZ : gZ x g (some .int) (offW g a o) (pR (offW g a o) post) 0 0) : ∀ (n : Nat) (x1 : Int32) (x2 : Int32) (x3 : Int32) , wl_X3_expiring_4 post o n x1 x2 x3 → G x g 4 0 0 (offW g a o) 4 [(0, .ref (a 0)), (1, .int x1), (2, .int x2), (3, .int x3)] [] := by
  intro n
  induction n with
  | zero =>
    intro x1 x2 x3 h
    exact h.elim
  | succ n ih =>
    intro x1 x2 x3 h
    rw [wl_X3_expiring_4] at h
    refine g_iload_n hC dX3_expiring_4 5 rfl rfl 3 rfl ?_
    refine g_aload_n hC dX3_expiring_5 6 rfl rfl 0 rfl ?_
    refine g_get hC fl_X3_45 dX3_expiring_6 9 rfl 0 rfl rfl ?_
    refine g_icmp_ge hC dX3_expiring_9 30 (by decide) 12 rfl (fun c => ?_) (fun c => ?_)
    · have h := h.1 c
      refine g_iload_n hC dX3_expiring_30 31 rfl rfl 2 rfl ?_
      exact g_iret hC hZ dX3_expiring_31 ⟨_, rfl, rfl, h⟩
    · have h := h.2 c
      refine g_aload_n hC dX3_expiring_12 13 rfl rfl 0 rfl ?_
      refine g_iload_n hC dX3_expiring_13 14 rfl rfl 3 rfl ?_
      refine g_iload_n hC dX3_expiring_14 15 rfl rfl 1 rfl ?_
      refine g_readV hC (ct_X3_expires l g a o x3 x1 _ h) gY_X3_expires dX3_expiring_15 18 rfl ml_X3_177 [] [] (by simp only [List.nil_append, List.append_nil]) [] rfl rfl rfl 0 7 rfl rfl ⟨Nat.le_of_ble_eq_true rfl, Nat.le_of_ble_eq_true rfl⟩ (Nat.le_of_ble_eq_true rfl) ⟨Nat.le_refl _, Nat.le_refl _⟩ (fun v1 h => ?_)
      refine g_if_eq hC dX3_expiring_18 24 (by decide) 21 rfl (fun c => ?_) (fun c => ?_)
      · have h := h.1 c
        obtain ⟨v2, ev2⟩ : ∃ y : Int32, y = x3 + (1 : Int32) := ⟨_, rfl⟩
        have h := h v2 ev2
        refine g_iinc (v2 := v2) (lv2 := [(3, .int v2), (0, .ref (a 0)), (1, .int x1), (2, .int x2)]) hC dX3_expiring_24 27 rfl 3 rfl (by rw [iconst_1, ev2]) (by decide) rfl ?_
        refine g_goto hC dX3_expiring_27 4 (by decide) ?_
        refine g_lv (lv2 := [(0, .ref (a 0)), (1, .int x1), (2, .int x2), (3, .int v2)]) [1, 2, 3, 0] rfl ?_
        exact ih x1 x2 v2 h
      · have h := h.2 c
        obtain ⟨v3, ev3⟩ : ∃ y : Int32, y = x2 + (1 : Int32) := ⟨_, rfl⟩
        have h := h v3 ev3
        refine g_iinc (v2 := v3) (lv2 := [(2, .int v3), (0, .ref (a 0)), (1, .int x1), (3, .int x3)]) hC dX3_expiring_21 24 rfl 2 rfl (by rw [iconst_1, ev3]) (by decide) rfl ?_
        obtain ⟨v4, ev4⟩ : ∃ y : Int32, y = x3 + (1 : Int32) := ⟨_, rfl⟩
        have h := h v4 ev4
        refine g_iinc (v2 := v4) (lv2 := [(3, .int v4), (2, .int v3), (0, .ref (a 0)), (1, .int x1)]) hC dX3_expiring_24 27 rfl 3 rfl (by rw [iconst_1, ev4]) (by decide) rfl ?_
        refine g_goto hC dX3_expiring_27 4 (by decide) ?_
        refine g_lv (lv2 := [(0, .ref (a 0)), (1, .int x1), (2, .int v3), (3, .int v4)]) [2, 3, 1, 0] rfl ?_
        exact ih x1 v3 v4 h
set_option maxRecDepth 100000 in
set_option maxHeartbeats 4000000 in
theorem ct_X3_expiring (l : Launch) (g : gE) (a : Nat → Nat) (o : Off) (p0 : Int32) (post : Int32 → Prop) (h : wp_X3_expiring post o p0) : Fn l g yX3_expiring cX3_expiring 4 (some .int) 1 22 0 0 (offW g a o) [.ref (a 0), .int p0] (pR (offW g a o) post) := by
  refine Fn.of (by decide) (Nat.le_of_ble_eq_true rfl) (fun x hC hZ => ?_)
  rw [wp_X3_expiring] at h
  show G x g 4 0 0 (offW g a o) 0 [(0, .ref (a 0)), (1, .int p0)] []
  refine g_iconst hC (0 : Int32) dX3_expiring_0 1 rfl iconst_0 ?_
  refine g_istore_n (lv2 := [(2, .int (0 : Int32)), (0, .ref (a 0)), (1, .int p0)]) hC dX3_expiring_1 2 rfl rfl (by decide) rfl ?_
  refine g_iconst hC (0 : Int32) dX3_expiring_2 3 rfl iconst_0 ?_
  refine g_istore_n (lv2 := [(3, .int (0 : Int32)), (2, .int (0 : Int32)), (0, .ref (a 0)), (1, .int p0)]) hC dX3_expiring_3 4 rfl rfl (by decide) rfl ?_
  refine g_lv (lv2 := [(0, .ref (a 0)), (1, .int p0), (2, .int (0 : Int32)), (3, .int (0 : Int32))]) [2, 3, 1, 0] rfl ?_
  obtain ⟨m, h⟩ := h
  exact lp_X3_expiring_4 hC hZ m p0 (0 : Int32) (0 : Int32) h
def wp_X3_ranksAhead (post : Int32 → Prop) (o : Off) (p0 : Int32) (p1 : Int32) : Prop := wp_X3_countOf (fun v1 => wp_X3_countOf (fun v2 => (∀ v3 : Int32, v3 = (v1 - v2) → ((v3 = 0 → wp_X3_pairsIn (fun v4 => wp_X3_pairsIn (fun v5 => (∀ v6 : Int32, v6 = (v4 - v5) → ((v6 = 0 → ((p1 ≤ p0 → post (0 : Int32)) ∧ (¬ p1 ≤ p0 → post (1 : Int32)))) ∧ (¬ v6 = 0 → ((v6 ≤ 0 → post (0 : Int32)) ∧ (¬ v6 ≤ 0 → post (1 : Int32))))))) o p1) o p0) ∧ (¬ v3 = 0 → ((v3 ≤ 0 → post (0 : Int32)) ∧ (¬ v3 ≤ 0 → post (1 : Int32))))))) o (3 : Int32) p1) o (3 : Int32) p0
set_option maxRecDepth 100000 in
set_option maxHeartbeats 4000000 in
theorem ct_X3_ranksAhead (l : Launch) (g : gE) (a : Nat → Nat) (o : Off) (p0 : Int32) (p1 : Int32) (post : Int32 → Prop) (h : wp_X3_ranksAhead post o p0 p1) : Fn l g yX3_ranksAhead cX3_ranksAhead 5 (some .boolean) 2 46 0 0 (offW g a o) [.ref (a 0), .int p0, .int p1] (pR (offW g a o) post) := by
  refine Fn.of (by decide) (Nat.le_of_ble_eq_true rfl) (fun x hC hZ => ?_)
  rw [wp_X3_ranksAhead] at h
  show G x g 5 0 0 (offW g a o) 0 [(0, .ref (a 0)), (1, .int p0), (2, .int p1)] []
  refine g_aload_n hC dX3_ranksAhead_0 1 rfl rfl 0 rfl ?_
  refine g_iconst hC (3 : Int32) dX3_ranksAhead_1 2 rfl iconst_3 ?_
  refine g_iload_n hC dX3_ranksAhead_2 3 rfl rfl 1 rfl ?_
  refine g_readV hC (ct_X3_countOf l g a o (3 : Int32) p0 _ h) gY_X3_countOf dX3_ranksAhead_3 6 rfl ml_X3_81 [] [] (by simp only [List.nil_append, List.append_nil]) [] rfl rfl rfl 0 7 rfl rfl ⟨Nat.le_of_ble_eq_true rfl, Nat.le_of_ble_eq_true rfl⟩ (Nat.le_of_ble_eq_true rfl) ⟨Nat.le_refl _, Nat.le_refl _⟩ (fun v1 h => ?_)
  refine g_aload_n hC dX3_ranksAhead_6 7 rfl rfl 0 rfl ?_
  refine g_iconst hC (3 : Int32) dX3_ranksAhead_7 8 rfl iconst_3 ?_
  refine g_iload_n hC dX3_ranksAhead_8 9 rfl rfl 2 rfl ?_
  refine g_readV hC (ct_X3_countOf l g a o (3 : Int32) p1 _ h) gY_X3_countOf dX3_ranksAhead_9 12 rfl ml_X3_81 [] [] (by simp only [List.nil_append, List.append_nil]) [.int v1] rfl rfl rfl 0 7 rfl rfl ⟨Nat.le_of_ble_eq_true rfl, Nat.le_of_ble_eq_true rfl⟩ (Nat.le_of_ble_eq_true rfl) ⟨Nat.le_refl _, Nat.le_refl _⟩ (fun v2 h => ?_)
  refine g_isub hC dX3_ranksAhead_12 13 rfl ?_
  refine g_topi (fun v3 ev3 => ?_)
  have h := h v3 ev3
  refine g_istore_n (lv2 := [(3, .int v3), (0, .ref (a 0)), (1, .int p0), (2, .int p1)]) hC dX3_ranksAhead_13 14 rfl rfl (by decide) rfl ?_
  refine g_iload_n hC dX3_ranksAhead_14 15 rfl rfl 0 rfl ?_
  refine g_if_eq hC dX3_ranksAhead_15 28 (by decide) 18 rfl (fun c => ?_) (fun c => ?_)
  · have h := h.1 c
    refine g_aload_n hC dX3_ranksAhead_28 29 rfl rfl 1 rfl ?_
    refine g_iload_n hC dX3_ranksAhead_29 30 rfl rfl 2 rfl ?_
    refine g_readV hC (ct_X3_pairsIn l g a o p0 _ h) gY_X3_pairsIn dX3_ranksAhead_30 33 rfl ml_X3_127 [] [] (by simp only [List.nil_append, List.append_nil]) [] rfl rfl rfl 0 7 rfl rfl ⟨Nat.le_of_ble_eq_true rfl, Nat.le_of_ble_eq_true rfl⟩ (Nat.le_of_ble_eq_true rfl) ⟨Nat.le_refl _, Nat.le_refl _⟩ (fun v4 h => ?_)
    refine g_aload_n hC dX3_ranksAhead_33 34 rfl rfl 1 rfl ?_
    refine g_iload_n hC dX3_ranksAhead_34 35 rfl rfl 3 rfl ?_
    refine g_readV hC (ct_X3_pairsIn l g a o p1 _ h) gY_X3_pairsIn dX3_ranksAhead_35 38 rfl ml_X3_127 [] [] (by simp only [List.nil_append, List.append_nil]) [.int v4] rfl rfl rfl 0 7 rfl rfl ⟨Nat.le_of_ble_eq_true rfl, Nat.le_of_ble_eq_true rfl⟩ (Nat.le_of_ble_eq_true rfl) ⟨Nat.le_refl _, Nat.le_refl _⟩ (fun v5 h => ?_)
    refine g_isub hC dX3_ranksAhead_38 39 rfl ?_
    refine g_topi (fun v6 ev6 => ?_)
    have h := h v6 ev6
    refine g_istore (lv2 := [(4, .int v6), (3, .int v3), (0, .ref (a 0)), (1, .int p0), (2, .int p1)]) hC dX3_ranksAhead_39 41 rfl (by decide) rfl ?_
    refine g_iload hC dX3_ranksAhead_41 43 rfl 0 rfl ?_
    refine g_if_eq hC dX3_ranksAhead_43 59 (by decide) 46 rfl (fun c => ?_) (fun c => ?_)
    · have h := h.1 c
      refine g_iload_n hC dX3_ranksAhead_59 60 rfl rfl 3 rfl ?_
      refine g_iload_n hC dX3_ranksAhead_60 61 rfl rfl 4 rfl ?_
      refine g_icmp_ge hC dX3_ranksAhead_61 68 (by decide) 64 rfl (fun c => ?_) (fun c => ?_)
      · have h := h.1 c
        refine g_iconst hC (0 : Int32) dX3_ranksAhead_68 69 rfl iconst_0 ?_
        exact g_zret hC hZ rfl dX3_ranksAhead_69 ⟨_, rfl, rfl, h⟩
      · have h := h.2 c
        refine g_iconst hC (1 : Int32) dX3_ranksAhead_64 65 rfl iconst_1 ?_
        refine g_goto hC dX3_ranksAhead_65 69 (by decide) ?_
        exact g_zret hC hZ rfl dX3_ranksAhead_69 ⟨_, rfl, rfl, h⟩
    · have h := h.2 c
      refine g_iload hC dX3_ranksAhead_46 48 rfl 0 rfl ?_
      refine g_if_le hC dX3_ranksAhead_48 55 (by decide) 51 rfl (fun c => ?_) (fun c => ?_)
      · have h := h.1 c
        refine g_iconst hC (0 : Int32) dX3_ranksAhead_55 56 rfl iconst_0 ?_
        refine g_goto hC dX3_ranksAhead_56 69 (by decide) ?_
        exact g_zret hC hZ rfl dX3_ranksAhead_69 ⟨_, rfl, rfl, h⟩
      · have h := h.2 c
        refine g_iconst hC (1 : Int32) dX3_ranksAhead_51 52 rfl iconst_1 ?_
        refine g_goto hC dX3_ranksAhead_52 69 (by decide) ?_
        exact g_zret hC hZ rfl dX3_ranksAhead_69 ⟨_, rfl, rfl, h⟩
  · have h := h.2 c
    refine g_iload_n hC dX3_ranksAhead_18 19 rfl rfl 0 rfl ?_
    refine g_if_le hC dX3_ranksAhead_19 26 (by decide) 22 rfl (fun c => ?_) (fun c => ?_)
    · have h := h.1 c
      refine g_iconst hC (0 : Int32) dX3_ranksAhead_26 27 rfl iconst_0 ?_
      exact g_zret hC hZ rfl dX3_ranksAhead_27 ⟨_, rfl, rfl, h⟩
    · have h := h.2 c
      refine g_iconst hC (1 : Int32) dX3_ranksAhead_22 23 rfl iconst_1 ?_
      refine g_goto hC dX3_ranksAhead_23 27 (by decide) ?_
      exact g_zret hC hZ rfl dX3_ranksAhead_27 ⟨_, rfl, rfl, h⟩
def wl_X3_rankedAhead_4 (post : Int32 → Prop) (o : Off) : Nat → Int32 → Int32 → Int32 → Prop
  | 0, _, _, _ => False
  | n + 1, x1, x2, x3 => (((5 : Int32) ≤ x3 → post x2) ∧ (¬ (5 : Int32) ≤ x3 → wp_X3_ranksAhead (fun v1 => ((v1 = 0 → (∀ v2 : Int32, v2 = x3 + (1 : Int32) → wl_X3_rankedAhead_4 post o n x1 x2 v2)) ∧ (¬ v1 = 0 → (∀ v3 : Int32, v3 = x2 + (1 : Int32) → (∀ v4 : Int32, v4 = x3 + (1 : Int32) → wl_X3_rankedAhead_4 post o n x1 v3 v4))))) o x3 x1))
def wp_X3_rankedAhead (post : Int32 → Prop) (o : Off) (p0 : Int32) : Prop := (∃ m : Nat, wl_X3_rankedAhead_4 post o m p0 (0 : Int32) (0 : Int32))
set_option maxRecDepth 100000 in
set_option maxHeartbeats 4000000 in
theorem lp_X3_rankedAhead_4 {x : gX} {l : Launch} {g : gE} {a : Nat → Nat} {o : Off} {post : Int32 → Prop} (hC : gC x l cX3_rankedAhead 4 RX3 g 3 70 0 0) (hZ : gZ x g (some .int) (offW g a o) (pR (offW g a o) post) 0 0) : ∀ (n : Nat) (x1 : Int32) (x2 : Int32) (x3 : Int32) , wl_X3_rankedAhead_4 post o n x1 x2 x3 → G x g 4 0 0 (offW g a o) 4 [(0, .ref (a 0)), (1, .int x1), (2, .int x2), (3, .int x3)] [] := by
  intro n
  induction n with
  | zero =>
    intro x1 x2 x3 h
    exact h.elim
  | succ n ih =>
    intro x1 x2 x3 h
    rw [wl_X3_rankedAhead_4] at h
    refine g_iload_n hC dX3_rankedAhead_4 5 rfl rfl 3 rfl ?_
    refine g_iconst hC (5 : Int32) dX3_rankedAhead_5 6 rfl iconst_5 ?_
    refine g_icmp_ge hC dX3_rankedAhead_6 27 (by decide) 9 rfl (fun c => ?_) (fun c => ?_)
    · have h := h.1 c
      refine g_iload_n hC dX3_rankedAhead_27 28 rfl rfl 2 rfl ?_
      exact g_iret hC hZ dX3_rankedAhead_28 ⟨_, rfl, rfl, h⟩
    · have h := h.2 c
      refine g_aload_n hC dX3_rankedAhead_9 10 rfl rfl 0 rfl ?_
      refine g_iload_n hC dX3_rankedAhead_10 11 rfl rfl 3 rfl ?_
      refine g_iload_n hC dX3_rankedAhead_11 12 rfl rfl 1 rfl ?_
      refine g_readV hC (ct_X3_ranksAhead l g a o x3 x1 _ h) gY_X3_ranksAhead dX3_rankedAhead_12 15 rfl ml_X3_183 [] [] (by simp only [List.nil_append, List.append_nil]) [] rfl rfl rfl 0 7 rfl rfl ⟨Nat.le_of_ble_eq_true rfl, Nat.le_of_ble_eq_true rfl⟩ (Nat.le_of_ble_eq_true rfl) ⟨Nat.le_refl _, Nat.le_refl _⟩ (fun v1 h => ?_)
      refine g_if_eq hC dX3_rankedAhead_15 21 (by decide) 18 rfl (fun c => ?_) (fun c => ?_)
      · have h := h.1 c
        obtain ⟨v2, ev2⟩ : ∃ y : Int32, y = x3 + (1 : Int32) := ⟨_, rfl⟩
        have h := h v2 ev2
        refine g_iinc (v2 := v2) (lv2 := [(3, .int v2), (0, .ref (a 0)), (1, .int x1), (2, .int x2)]) hC dX3_rankedAhead_21 24 rfl 3 rfl (by rw [iconst_1, ev2]) (by decide) rfl ?_
        refine g_goto hC dX3_rankedAhead_24 4 (by decide) ?_
        refine g_lv (lv2 := [(0, .ref (a 0)), (1, .int x1), (2, .int x2), (3, .int v2)]) [1, 2, 3, 0] rfl ?_
        exact ih x1 x2 v2 h
      · have h := h.2 c
        obtain ⟨v3, ev3⟩ : ∃ y : Int32, y = x2 + (1 : Int32) := ⟨_, rfl⟩
        have h := h v3 ev3
        refine g_iinc (v2 := v3) (lv2 := [(2, .int v3), (0, .ref (a 0)), (1, .int x1), (3, .int x3)]) hC dX3_rankedAhead_18 21 rfl 2 rfl (by rw [iconst_1, ev3]) (by decide) rfl ?_
        obtain ⟨v4, ev4⟩ : ∃ y : Int32, y = x3 + (1 : Int32) := ⟨_, rfl⟩
        have h := h v4 ev4
        refine g_iinc (v2 := v4) (lv2 := [(3, .int v4), (2, .int v3), (0, .ref (a 0)), (1, .int x1)]) hC dX3_rankedAhead_21 24 rfl 3 rfl (by rw [iconst_1, ev4]) (by decide) rfl ?_
        refine g_goto hC dX3_rankedAhead_24 4 (by decide) ?_
        refine g_lv (lv2 := [(0, .ref (a 0)), (1, .int x1), (2, .int v3), (3, .int v4)]) [2, 3, 1, 0] rfl ?_
        exact ih x1 v3 v4 h
set_option maxRecDepth 100000 in
set_option maxHeartbeats 4000000 in
theorem ct_X3_rankedAhead (l : Launch) (g : gE) (a : Nat → Nat) (o : Off) (p0 : Int32) (post : Int32 → Prop) (h : wp_X3_rankedAhead post o p0) : Fn l g yX3_rankedAhead cX3_rankedAhead 4 (some .int) 3 70 0 0 (offW g a o) [.ref (a 0), .int p0] (pR (offW g a o) post) := by
  refine Fn.of (by decide) (Nat.le_of_ble_eq_true rfl) (fun x hC hZ => ?_)
  rw [wp_X3_rankedAhead] at h
  show G x g 4 0 0 (offW g a o) 0 [(0, .ref (a 0)), (1, .int p0)] []
  refine g_iconst hC (0 : Int32) dX3_rankedAhead_0 1 rfl iconst_0 ?_
  refine g_istore_n (lv2 := [(2, .int (0 : Int32)), (0, .ref (a 0)), (1, .int p0)]) hC dX3_rankedAhead_1 2 rfl rfl (by decide) rfl ?_
  refine g_iconst hC (0 : Int32) dX3_rankedAhead_2 3 rfl iconst_0 ?_
  refine g_istore_n (lv2 := [(3, .int (0 : Int32)), (2, .int (0 : Int32)), (0, .ref (a 0)), (1, .int p0)]) hC dX3_rankedAhead_3 4 rfl rfl (by decide) rfl ?_
  refine g_lv (lv2 := [(0, .ref (a 0)), (1, .int p0), (2, .int (0 : Int32)), (3, .int (0 : Int32))]) [2, 3, 1, 0] rfl ?_
  obtain ⟨m, h⟩ := h
  exact lp_X3_rankedAhead_4 hC hZ m p0 (0 : Int32) (0 : Int32) h
def wl_X3_rankedDrawer_2 (post : Int32 → Prop) (o : Off) : Nat → Int32 → Int32 → Prop
  | 0, _, _ => False
  | n + 1, x1, x2 => (((5 : Int32) ≤ x2 → post (-1 : Int32)) ∧ (¬ (5 : Int32) ≤ x2 → wp_X3_rankedAhead (fun v1 => ((¬ v1 = x1 → (∀ v2 : Int32, v2 = x2 + (1 : Int32) → wl_X3_rankedDrawer_2 post o n x1 v2)) ∧ (v1 = x1 → post x2))) o x2))
def wp_X3_rankedDrawer (post : Int32 → Prop) (o : Off) (p0 : Int32) : Prop := (∃ m : Nat, wl_X3_rankedDrawer_2 post o m p0 (0 : Int32))
set_option maxRecDepth 100000 in
set_option maxHeartbeats 4000000 in
theorem lp_X3_rankedDrawer_2 {x : gX} {l : Launch} {g : gE} {a : Nat → Nat} {o : Off} {post : Int32 → Prop} (hC : gC x l cX3_rankedDrawer 3 RX3 g 4 93 0 0) (hZ : gZ x g (some .int) (offW g a o) (pR (offW g a o) post) 0 0) : ∀ (n : Nat) (x1 : Int32) (x2 : Int32) , wl_X3_rankedDrawer_2 post o n x1 x2 → G x g 3 0 0 (offW g a o) 2 [(0, .ref (a 0)), (1, .int x1), (2, .int x2)] [] := by
  intro n
  induction n with
  | zero =>
    intro x1 x2 h
    exact h.elim
  | succ n ih =>
    intro x1 x2 h
    rw [wl_X3_rankedDrawer_2] at h
    refine g_iload_n hC dX3_rankedDrawer_2 3 rfl rfl 2 rfl ?_
    refine g_iconst hC (5 : Int32) dX3_rankedDrawer_3 4 rfl iconst_5 ?_
    refine g_icmp_ge hC dX3_rankedDrawer_4 24 (by decide) 7 rfl (fun c => ?_) (fun c => ?_)
    · have h := h.1 c
      refine g_iconst hC (-1 : Int32) dX3_rankedDrawer_24 25 rfl iconst_m1 ?_
      exact g_iret hC hZ dX3_rankedDrawer_25 ⟨_, rfl, rfl, h⟩
    · have h := h.2 c
      refine g_aload_n hC dX3_rankedDrawer_7 8 rfl rfl 0 rfl ?_
      refine g_iload_n hC dX3_rankedDrawer_8 9 rfl rfl 2 rfl ?_
      refine g_readV hC (ct_X3_rankedAhead l g a o x2 _ h) gY_X3_rankedAhead dX3_rankedDrawer_9 12 rfl ml_X3_180 [] [] (by simp only [List.nil_append, List.append_nil]) [] rfl rfl rfl 0 7 rfl rfl ⟨Nat.le_of_ble_eq_true rfl, Nat.le_of_ble_eq_true rfl⟩ (Nat.le_of_ble_eq_true rfl) ⟨Nat.le_refl _, Nat.le_refl _⟩ (fun v1 h => ?_)
      refine g_iload_n hC dX3_rankedDrawer_12 13 rfl rfl 1 rfl ?_
      refine g_icmp_ne hC dX3_rankedDrawer_13 18 (by decide) 16 rfl (fun c => ?_) (fun c => ?_)
      · have h := h.1 c
        obtain ⟨v2, ev2⟩ : ∃ y : Int32, y = x2 + (1 : Int32) := ⟨_, rfl⟩
        have h := h v2 ev2
        refine g_iinc (v2 := v2) (lv2 := [(2, .int v2), (0, .ref (a 0)), (1, .int x1)]) hC dX3_rankedDrawer_18 21 rfl 2 rfl (by rw [iconst_1, ev2]) (by decide) rfl ?_
        refine g_goto hC dX3_rankedDrawer_21 2 (by decide) ?_
        refine g_lv (lv2 := [(0, .ref (a 0)), (1, .int x1), (2, .int v2)]) [1, 2, 0] rfl ?_
        exact ih x1 v2 h
      · have h := h.2 c
        refine g_iload_n hC dX3_rankedDrawer_16 17 rfl rfl 2 rfl ?_
        exact g_iret hC hZ dX3_rankedDrawer_17 ⟨_, rfl, rfl, h⟩
set_option maxRecDepth 100000 in
set_option maxHeartbeats 4000000 in
theorem ct_X3_rankedDrawer (l : Launch) (g : gE) (a : Nat → Nat) (o : Off) (p0 : Int32) (post : Int32 → Prop) (h : wp_X3_rankedDrawer post o p0) : Fn l g yX3_rankedDrawer cX3_rankedDrawer 3 (some .int) 4 93 0 0 (offW g a o) [.ref (a 0), .int p0] (pR (offW g a o) post) := by
  refine Fn.of (by decide) (Nat.le_of_ble_eq_true rfl) (fun x hC hZ => ?_)
  rw [wp_X3_rankedDrawer] at h
  show G x g 3 0 0 (offW g a o) 0 [(0, .ref (a 0)), (1, .int p0)] []
  refine g_iconst hC (0 : Int32) dX3_rankedDrawer_0 1 rfl iconst_0 ?_
  refine g_istore_n (lv2 := [(2, .int (0 : Int32)), (0, .ref (a 0)), (1, .int p0)]) hC dX3_rankedDrawer_1 2 rfl rfl (by decide) rfl ?_
  refine g_lv (lv2 := [(0, .ref (a 0)), (1, .int p0), (2, .int (0 : Int32))]) [1, 2, 0] rfl ?_
  obtain ⟨m, h⟩ := h
  exact lp_X3_rankedDrawer_2 hC hZ m p0 (0 : Int32) h
def wl_X3_sizeSum_4 (post : Int32 → Prop) (o : Off) : Nat → Int32 → Int32 → Prop
  | 0, _, _ => False
  | n + 1, x1, x2 => (((o 0 0) ≤ x2 → post x1) ∧ (¬ (o 0 0) ≤ x2 → (vp_in x2 14 ∧ (∀ v1 : Int32, v1 = (x1 + (o 2 x2.toNatClampNeg)) → (∀ v2 : Int32, v2 = x2 + (1 : Int32) → wl_X3_sizeSum_4 post o n v1 v2)))))
def wp_X3_sizeSum (post : Int32 → Prop) (o : Off) : Prop := (∃ m : Nat, wl_X3_sizeSum_4 post o m (0 : Int32) (0 : Int32))
set_option maxRecDepth 100000 in
set_option maxHeartbeats 4000000 in
theorem lp_X3_sizeSum_4 {x : gX} {l : Launch} {g : gE} {a : Nat → Nat} {o : Off} {post : Int32 → Prop} (hC : gC x l cX3_sizeSum 3 RX3 g 0 0 0 0) (hZ : gZ x g (some .int) (offW g a o) (pR (offW g a o) post) 0 0) : ∀ (n : Nat) (x1 : Int32) (x2 : Int32) , wl_X3_sizeSum_4 post o n x1 x2 → G x g 3 0 0 (offW g a o) 4 [(0, .ref (a 0)), (1, .int x1), (2, .int x2)] [] := by
  intro n
  induction n with
  | zero =>
    intro x1 x2 h
    exact h.elim
  | succ n ih =>
    intro x1 x2 h
    rw [wl_X3_sizeSum_4] at h
    refine g_iload_n hC dX3_sizeSum_4 5 rfl rfl 2 rfl ?_
    refine g_aload_n hC dX3_sizeSum_5 6 rfl rfl 0 rfl ?_
    refine g_get hC fl_X3_45 dX3_sizeSum_6 9 rfl 0 rfl rfl ?_
    refine g_icmp_ge hC dX3_sizeSum_9 27 (by decide) 12 rfl (fun c => ?_) (fun c => ?_)
    · have h := h.1 c
      refine g_iload_n hC dX3_sizeSum_27 28 rfl rfl 1 rfl ?_
      exact g_iret hC hZ dX3_sizeSum_28 ⟨_, rfl, rfl, h⟩
    · have h := h.2 c
      refine g_iload_n hC dX3_sizeSum_12 13 rfl rfl 1 rfl ?_
      refine g_aload_n hC dX3_sizeSum_13 14 rfl rfl 0 rfl ?_
      refine g_get hC fl_X3_15 dX3_sizeSum_14 17 rfl 0 rfl rfl ?_
      refine g_iload_n hC dX3_sizeSum_17 18 rfl rfl 2 rfl ?_
      obtain ⟨hi, h⟩ := h
      refine g_iald hC dX3_sizeSum_18 19 rfl 2 rfl hi ?_
      refine g_iadd hC dX3_sizeSum_19 20 rfl ?_
      refine g_topi (fun v1 ev1 => ?_)
      have h := h v1 ev1
      refine g_istore_n (lv2 := [(1, .int v1), (0, .ref (a 0)), (2, .int x2)]) hC dX3_sizeSum_20 21 rfl rfl (by decide) rfl ?_
      obtain ⟨v2, ev2⟩ : ∃ y : Int32, y = x2 + (1 : Int32) := ⟨_, rfl⟩
      have h := h v2 ev2
      refine g_iinc (v2 := v2) (lv2 := [(2, .int v2), (1, .int v1), (0, .ref (a 0))]) hC dX3_sizeSum_21 24 rfl 2 rfl (by rw [iconst_1, ev2]) (by decide) rfl ?_
      refine g_goto hC dX3_sizeSum_24 4 (by decide) ?_
      refine g_lv (lv2 := [(0, .ref (a 0)), (1, .int v1), (2, .int v2)]) [2, 1, 0] rfl ?_
      exact ih v1 v2 h
set_option maxRecDepth 100000 in
set_option maxHeartbeats 4000000 in
theorem ct_X3_sizeSum (l : Launch) (g : gE) (a : Nat → Nat) (o : Off) (post : Int32 → Prop) (h : wp_X3_sizeSum post o ) : Fn l g yX3_sizeSum cX3_sizeSum 3 (some .int) 0 0 0 0 (offW g a o) [.ref (a 0)] (pR (offW g a o) post) := by
  refine Fn.of (by decide) (Nat.le_of_ble_eq_true rfl) (fun x hC hZ => ?_)
  rw [wp_X3_sizeSum] at h
  show G x g 3 0 0 (offW g a o) 0 [(0, .ref (a 0))] []
  refine g_iconst hC (0 : Int32) dX3_sizeSum_0 1 rfl iconst_0 ?_
  refine g_istore_n (lv2 := [(1, .int (0 : Int32)), (0, .ref (a 0))]) hC dX3_sizeSum_1 2 rfl rfl (by decide) rfl ?_
  refine g_iconst hC (0 : Int32) dX3_sizeSum_2 3 rfl iconst_0 ?_
  refine g_istore_n (lv2 := [(2, .int (0 : Int32)), (1, .int (0 : Int32)), (0, .ref (a 0))]) hC dX3_sizeSum_3 4 rfl rfl (by decide) rfl ?_
  refine g_lv (lv2 := [(0, .ref (a 0)), (1, .int (0 : Int32)), (2, .int (0 : Int32))]) [2, 1, 0] rfl ?_
  obtain ⟨m, h⟩ := h
  exact lp_X3_sizeSum_4 hC hZ m (0 : Int32) (0 : Int32) h
def wl_X3_residentSum_4 (post : Int32 → Prop) (o : Off) : Nat → Int32 → Int32 → Prop
  | 0, _, _ => False
  | n + 1, x1, x2 => (((5 : Int32) ≤ x2 → post x1) ∧ (¬ (5 : Int32) ≤ x2 → wp_X3_countOf (fun v1 => (∀ v2 : Int32, v2 = (x1 + v1) → (∀ v3 : Int32, v3 = x2 + (1 : Int32) → wl_X3_residentSum_4 post o n v2 v3))) o (3 : Int32) x2))
def wp_X3_residentSum (post : Int32 → Prop) (o : Off) : Prop := (∃ m : Nat, wl_X3_residentSum_4 post o m (0 : Int32) (0 : Int32))
set_option maxRecDepth 100000 in
set_option maxHeartbeats 4000000 in
theorem lp_X3_residentSum_4 {x : gX} {l : Launch} {g : gE} {a : Nat → Nat} {o : Off} {post : Int32 → Prop} (hC : gC x l cX3_residentSum 3 RX3 g 1 24 0 0) (hZ : gZ x g (some .int) (offW g a o) (pR (offW g a o) post) 0 0) : ∀ (n : Nat) (x1 : Int32) (x2 : Int32) , wl_X3_residentSum_4 post o n x1 x2 → G x g 3 0 0 (offW g a o) 4 [(0, .ref (a 0)), (1, .int x1), (2, .int x2)] [] := by
  intro n
  induction n with
  | zero =>
    intro x1 x2 h
    exact h.elim
  | succ n ih =>
    intro x1 x2 h
    rw [wl_X3_residentSum_4] at h
    refine g_iload_n hC dX3_residentSum_4 5 rfl rfl 2 rfl ?_
    refine g_iconst hC (5 : Int32) dX3_residentSum_5 6 rfl iconst_5 ?_
    refine g_icmp_ge hC dX3_residentSum_6 24 (by decide) 9 rfl (fun c => ?_) (fun c => ?_)
    · have h := h.1 c
      refine g_iload_n hC dX3_residentSum_24 25 rfl rfl 1 rfl ?_
      exact g_iret hC hZ dX3_residentSum_25 ⟨_, rfl, rfl, h⟩
    · have h := h.2 c
      refine g_iload_n hC dX3_residentSum_9 10 rfl rfl 1 rfl ?_
      refine g_aload_n hC dX3_residentSum_10 11 rfl rfl 0 rfl ?_
      refine g_iconst hC (3 : Int32) dX3_residentSum_11 12 rfl iconst_3 ?_
      refine g_iload_n hC dX3_residentSum_12 13 rfl rfl 2 rfl ?_
      refine g_readV hC (ct_X3_countOf l g a o (3 : Int32) x2 _ h) gY_X3_countOf dX3_residentSum_13 16 rfl ml_X3_81 [] [] (by simp only [List.nil_append, List.append_nil]) [.int x1] rfl rfl rfl 0 7 rfl rfl ⟨Nat.le_of_ble_eq_true rfl, Nat.le_of_ble_eq_true rfl⟩ (Nat.le_of_ble_eq_true rfl) ⟨Nat.le_refl _, Nat.le_refl _⟩ (fun v1 h => ?_)
      refine g_iadd hC dX3_residentSum_16 17 rfl ?_
      refine g_topi (fun v2 ev2 => ?_)
      have h := h v2 ev2
      refine g_istore_n (lv2 := [(1, .int v2), (0, .ref (a 0)), (2, .int x2)]) hC dX3_residentSum_17 18 rfl rfl (by decide) rfl ?_
      obtain ⟨v3, ev3⟩ : ∃ y : Int32, y = x2 + (1 : Int32) := ⟨_, rfl⟩
      have h := h v3 ev3
      refine g_iinc (v2 := v3) (lv2 := [(2, .int v3), (1, .int v2), (0, .ref (a 0))]) hC dX3_residentSum_18 21 rfl 2 rfl (by rw [iconst_1, ev3]) (by decide) rfl ?_
      refine g_goto hC dX3_residentSum_21 4 (by decide) ?_
      refine g_lv (lv2 := [(0, .ref (a 0)), (1, .int v2), (2, .int v3)]) [2, 1, 0] rfl ?_
      exact ih v2 v3 h
set_option maxRecDepth 100000 in
set_option maxHeartbeats 4000000 in
theorem ct_X3_residentSum (l : Launch) (g : gE) (a : Nat → Nat) (o : Off) (post : Int32 → Prop) (h : wp_X3_residentSum post o ) : Fn l g yX3_residentSum cX3_residentSum 3 (some .int) 1 24 0 0 (offW g a o) [.ref (a 0)] (pR (offW g a o) post) := by
  refine Fn.of (by decide) (Nat.le_of_ble_eq_true rfl) (fun x hC hZ => ?_)
  rw [wp_X3_residentSum] at h
  show G x g 3 0 0 (offW g a o) 0 [(0, .ref (a 0))] []
  refine g_iconst hC (0 : Int32) dX3_residentSum_0 1 rfl iconst_0 ?_
  refine g_istore_n (lv2 := [(1, .int (0 : Int32)), (0, .ref (a 0))]) hC dX3_residentSum_1 2 rfl rfl (by decide) rfl ?_
  refine g_iconst hC (0 : Int32) dX3_residentSum_2 3 rfl iconst_0 ?_
  refine g_istore_n (lv2 := [(2, .int (0 : Int32)), (1, .int (0 : Int32)), (0, .ref (a 0))]) hC dX3_residentSum_3 4 rfl rfl (by decide) rfl ?_
  refine g_lv (lv2 := [(0, .ref (a 0)), (1, .int (0 : Int32)), (2, .int (0 : Int32))]) [2, 1, 0] rfl ?_
  obtain ⟨m, h⟩ := h
  exact lp_X3_residentSum_4 hC hZ m (0 : Int32) (0 : Int32) h
