def gBs (i : Nat) : List Int32 := (gTx.getD i ("", 0, "", [])).2.2.2
theorem gTx_at {i : Nat} (h : i < 16) : gTx[i]? = some ((gTx.getD i ("", 0, "", [])).1, (gTx.getD i ("", 0, "", [])).2.1, (gTx.getD i ("", 0, "", [])).2.2.1, gBs i) := by
  unfold gBs
  rw [List.getD_eq_getElem?_getD]
  have hl : i < gTx.length := Nat.lt_of_lt_of_le h (by decide)
  rw [List.getElem?_eq_getElem hl]
  rfl
def pL (g : gE) (post : Nat → Prop) : Option Value → va_W → Prop := fun r w => ∃ i : Nat, r = some (.ref (g.2.2.1 i)) ∧ w = [] ∧ post i
theorem g_readSL {x : gX} {l : Launch} {cc : ByteArray} {nL : Nat} {own : String} {g : gE} {fr lo mc ms k n pc : Nat} {ws : va_W} {lv : List (Nat × Value)} {st : List Value} (hC : gC x l cc nL own g fr lo mc ms) {y : MethodName} {b : ByteArray} {nM fr' lo' np : Nat} {ret : Option FieldType} {As : List Value} {post : Nat → Prop} (hF : Fn l g y b nM ret fr' lo' 0 0 [] As (pL g post)) (hY : gYs y b nM ret np) {idx : Nat} (hd : decode cc pc = .ok (.invokestatic idx, 3)) (pc2 : Nat) (e : pc + 3 = pc2) (hl : Cond.methodLink own idx y ∈ lw_all)
    (rest : List Value) (hst : st = As.reverse ++ rest) (hn : As.length = np) (hR : fr' + 1 ≤ fr ∧ 8 + (nM + 11) + lo' ≤ lo) (hcat : (rest.map fun v => v.category).sum ≤ 8) (hkn : k ≤ mc ∧ n ≤ ms) (kk : ∀ i : Nat, post i → G x g nL k n ws pc2 lv (.ref (g.2.2.1 i) :: rest)) : G x g nL k n ws pc lv st := by
  refine g_callS hC hF hY hd pc2 e hl [] ws rfl rest hst hn hR hcat hkn ?_
  rintro r w1 ⟨i, rfl, rfl, hp⟩
  exact kk i hp
def wp_X1_append (post : Int32 → Off → Prop) (o : Off) (p0 : Int32) : Prop := (((60 : Int32) ≤ (o 0 3) → post (o 0 3) o) ∧ (¬ (60 : Int32) ≤ (o 0 3) → (vp_in (o 0 3) 60 ∧ (∀ o1 : Off, o1 = st o 1 (o 0 3).toNatClampNeg (vp_nar .char p0) → (∀ o2 : Off, o2 = st o1 0 3 ((o1 0 3) + (1 : Int32)) → post (o2 0 3) o2)))))
set_option maxRecDepth 100000 in
set_option maxHeartbeats 4000000 in
theorem ct_X1_append (l : Launch) (g : gE) (a : Nat → Nat) (o : Off) (p0 : Int32) (post : Int32 → Off → Prop) (h : wp_X1_append post o p0) : Fn l g yX1_append cX1_append 2 (some .int) 0 0 0 0 (cmdW g a o) [.ref (a 0), .int p0] (pI (cmdW g a) post) := by
  refine Fn.of (by decide) (Nat.le_of_ble_eq_true rfl) (fun x hC hZ => ?_)
  rw [wp_X1_append] at h
  show G x g 2 0 0 (cmdW g a o) 0 [(0, .ref (a 0)), (1, .int p0)] []
  refine g_aload_n hC dX1_append_0 1 rfl rfl 0 rfl ?_
  refine g_get hC fl_X1_22 dX1_append_1 4 rfl 0 rfl rfl ?_
  refine g_bipush hC (60 : Int32) dX1_append_4 6 rfl bipush_60 ?_
  refine g_icmp_ge hC dX1_append_6 29 (by decide) 9 rfl (fun c => ?_) (fun c => ?_)
  · have h := h.1 c
    refine g_aload_n hC dX1_append_29 30 rfl rfl 0 rfl ?_
    refine g_get hC fl_X1_22 dX1_append_30 33 rfl 0 rfl rfl ?_
    exact g_iret hC hZ dX1_append_33 ⟨_, _, rfl, rfl, h⟩
  · have h := h.2 c
    refine g_aload_n hC dX1_append_9 10 rfl rfl 0 rfl ?_
    refine g_get hC fl_X1_9 dX1_append_10 13 rfl 0 rfl rfl ?_
    refine g_aload_n hC dX1_append_13 14 rfl rfl 0 rfl ?_
    refine g_get hC fl_X1_22 dX1_append_14 17 rfl 0 rfl rfl ?_
    refine g_iload_n hC dX1_append_17 18 rfl rfl 1 rfl ?_
    obtain ⟨hi, h⟩ := h
    obtain ⟨o1, eo1⟩ : ∃ y : Off, y = st o 1 (o 0 3).toNatClampNeg (vp_nar .char p0) := ⟨_, rfl⟩
    have h := h o1 eo1
    refine g_cast hC dX1_append_18 19 rfl 1 rfl hi (cmdW_s1 eo1) ?_
    refine g_aload_n hC dX1_append_19 20 rfl rfl 0 rfl ?_
    refine g_dup hC dX1_append_20 21 rfl rfl ?_
    refine g_get hC fl_X1_22 dX1_append_21 24 rfl 0 rfl rfl ?_
    refine g_iconst hC (1 : Int32) dX1_append_24 25 rfl iconst_1 ?_
    refine g_iadd hC dX1_append_25 26 rfl ?_
    obtain ⟨o2, eo2⟩ : ∃ y : Off, y = st o1 0 3 ((o1 0 3) + (1 : Int32)) := ⟨_, rfl⟩
    have h := h o2 eo2
    refine g_put hC fp_X1_22 dX1_append_26 29 rfl 0 rfl rfl rfl (Nat.le_of_ble_eq_true rfl) (cmdW_p3 eo2) ?_
    refine g_aload_n hC dX1_append_29 30 rfl rfl 0 rfl ?_
    refine g_get hC fl_X1_22 dX1_append_30 33 rfl 0 rfl rfl ?_
    exact g_iret hC hZ dX1_append_33 ⟨_, _, rfl, rfl, h⟩
def wp_X1_letter (post : Int32 → Prop) (o : Off) (p0 : Int32) : Prop := ((p0 < 0 → post (0 : Int32)) ∧ (¬ p0 < 0 → (((o 0 4) ≤ p0 → post (0 : Int32)) ∧ (¬ (o 0 4) ≤ p0 → (vp_in p0 20 ∧ post (o 2 p0.toNatClampNeg))))))
set_option maxRecDepth 100000 in
set_option maxHeartbeats 4000000 in
theorem ct_X1_letter (l : Launch) (g : gE) (a : Nat → Nat) (o : Off) (p0 : Int32) (post : Int32 → Prop) (h : wp_X1_letter post o p0) : Fn l g yX1_letter cX1_letter 2 (some .int) 0 0 0 0 (cmdW g a o) [.ref (a 0), .int p0] (pR (cmdW g a o) post) := by
  refine Fn.of (by decide) (Nat.le_of_ble_eq_true rfl) (fun x hC hZ => ?_)
  rw [wp_X1_letter] at h
  show G x g 2 0 0 (cmdW g a o) 0 [(0, .ref (a 0)), (1, .int p0)] []
  refine g_iload_n hC dX1_letter_0 1 rfl rfl 1 rfl ?_
  refine g_if_lt hC dX1_letter_1 21 (by decide) 4 rfl (fun c => ?_) (fun c => ?_)
  · have h := h.1 c
    refine g_iconst hC (0 : Int32) dX1_letter_21 22 rfl iconst_0 ?_
    exact g_iret hC hZ dX1_letter_22 ⟨_, rfl, rfl, h⟩
  · have h := h.2 c
    refine g_iload_n hC dX1_letter_4 5 rfl rfl 1 rfl ?_
    refine g_aload_n hC dX1_letter_5 6 rfl rfl 0 rfl ?_
    refine g_get hC fl_X1_26 dX1_letter_6 9 rfl 0 rfl rfl ?_
    refine g_icmp_ge hC dX1_letter_9 21 (by decide) 12 rfl (fun c => ?_) (fun c => ?_)
    · have h := h.1 c
      refine g_iconst hC (0 : Int32) dX1_letter_21 22 rfl iconst_0 ?_
      exact g_iret hC hZ dX1_letter_22 ⟨_, rfl, rfl, h⟩
    · have h := h.2 c
      refine g_aload_n hC dX1_letter_12 13 rfl rfl 0 rfl ?_
      refine g_get hC fl_X1_15 dX1_letter_13 16 rfl 0 rfl rfl ?_
      refine g_iload_n hC dX1_letter_16 17 rfl rfl 1 rfl ?_
      obtain ⟨hi, h⟩ := h
      refine g_iald hC dX1_letter_17 18 rfl 2 rfl hi ?_
      refine g_goto hC dX1_letter_18 22 (by decide) ?_
      exact g_iret hC hZ dX1_letter_22 ⟨_, rfl, rfl, h⟩
def wp_X1_value (post : Int32 → Prop) (o : Off) (p0 : Int32) (p1 : Int32) : Prop := ((p0 < 0 → post (0 : Int32)) ∧ (¬ p0 < 0 → (((o 0 4) ≤ p0 → post (0 : Int32)) ∧ (¬ (o 0 4) ≤ p0 → (vp_in ((p0 * (3 : Int32)) + p1) 60 ∧ post (o 3 ((p0 * (3 : Int32)) + p1).toNatClampNeg))))))
set_option maxRecDepth 100000 in
set_option maxHeartbeats 4000000 in
theorem ct_X1_value (l : Launch) (g : gE) (a : Nat → Nat) (o : Off) (p0 : Int32) (p1 : Int32) (post : Int32 → Prop) (h : wp_X1_value post o p0 p1) : Fn l g yX1_value cX1_value 3 (some .int) 0 0 0 0 (cmdW g a o) [.ref (a 0), .int p0, .int p1] (pR (cmdW g a o) post) := by
  refine Fn.of (by decide) (Nat.le_of_ble_eq_true rfl) (fun x hC hZ => ?_)
  rw [wp_X1_value] at h
  show G x g 3 0 0 (cmdW g a o) 0 [(0, .ref (a 0)), (1, .int p0), (2, .int p1)] []
  refine g_iload_n hC dX1_value_0 1 rfl rfl 1 rfl ?_
  refine g_if_lt hC dX1_value_1 25 (by decide) 4 rfl (fun c => ?_) (fun c => ?_)
  · have h := h.1 c
    refine g_iconst hC (0 : Int32) dX1_value_25 26 rfl iconst_0 ?_
    exact g_iret hC hZ dX1_value_26 ⟨_, rfl, rfl, h⟩
  · have h := h.2 c
    refine g_iload_n hC dX1_value_4 5 rfl rfl 1 rfl ?_
    refine g_aload_n hC dX1_value_5 6 rfl rfl 0 rfl ?_
    refine g_get hC fl_X1_26 dX1_value_6 9 rfl 0 rfl rfl ?_
    refine g_icmp_ge hC dX1_value_9 25 (by decide) 12 rfl (fun c => ?_) (fun c => ?_)
    · have h := h.1 c
      refine g_iconst hC (0 : Int32) dX1_value_25 26 rfl iconst_0 ?_
      exact g_iret hC hZ dX1_value_26 ⟨_, rfl, rfl, h⟩
    · have h := h.2 c
      refine g_aload_n hC dX1_value_12 13 rfl rfl 0 rfl ?_
      refine g_get hC fl_X1_19 dX1_value_13 16 rfl 0 rfl rfl ?_
      refine g_iload_n hC dX1_value_16 17 rfl rfl 1 rfl ?_
      refine g_iconst hC (3 : Int32) dX1_value_17 18 rfl iconst_3 ?_
      refine g_imul hC dX1_value_18 19 rfl ?_
      refine g_iload_n hC dX1_value_19 20 rfl rfl 2 rfl ?_
      refine g_iadd hC dX1_value_20 21 rfl ?_
      obtain ⟨hi, h⟩ := h
      refine g_iald hC dX1_value_21 22 rfl 3 rfl hi ?_
      refine g_goto hC dX1_value_22 26 (by decide) ?_
      exact g_iret hC hZ dX1_value_26 ⟨_, rfl, rfl, h⟩
def wp_X1_here (post : Int32 → Prop) (o : Off) : Prop := (((o 0 5) < 0 → post (0 : Int32)) ∧ (¬ (o 0 5) < 0 → (((o 0 3) ≤ (o 0 5) → post (0 : Int32)) ∧ (¬ (o 0 3) ≤ (o 0 5) → (vp_in (o 0 5) 60 ∧ (isC (o 1 (o 0 5).toNatClampNeg) ∧ post (o 1 (o 0 5).toNatClampNeg)))))))
set_option maxRecDepth 100000 in
set_option maxHeartbeats 4000000 in
theorem ct_X1_here (l : Launch) (g : gE) (a : Nat → Nat) (o : Off) (post : Int32 → Prop) (h : wp_X1_here post o ) : Fn l g yX1_here cX1_here 1 (some .char) 0 0 0 0 (cmdW g a o) [.ref (a 0)] (pR (cmdW g a o) post) := by
  refine Fn.of (by decide) (Nat.le_of_ble_eq_true rfl) (fun x hC hZ => ?_)
  rw [wp_X1_here] at h
  show G x g 1 0 0 (cmdW g a o) 0 [(0, .ref (a 0))] []
  refine g_aload_n hC dX1_here_0 1 rfl rfl 0 rfl ?_
  refine g_get hC fl_X1_33 dX1_here_1 4 rfl 0 rfl rfl ?_
  refine g_if_lt hC dX1_here_4 30 (by decide) 7 rfl (fun c => ?_) (fun c => ?_)
  · have h := h.1 c
    refine g_iconst hC (0 : Int32) dX1_here_30 31 rfl iconst_0 ?_
    exact g_zret hC hZ rfl dX1_here_31 ⟨_, rfl, rfl, h⟩
  · have h := h.2 c
    refine g_aload_n hC dX1_here_7 8 rfl rfl 0 rfl ?_
    refine g_get hC fl_X1_33 dX1_here_8 11 rfl 0 rfl rfl ?_
    refine g_aload_n hC dX1_here_11 12 rfl rfl 0 rfl ?_
    refine g_get hC fl_X1_22 dX1_here_12 15 rfl 0 rfl rfl ?_
    refine g_icmp_ge hC dX1_here_15 30 (by decide) 18 rfl (fun c => ?_) (fun c => ?_)
    · have h := h.1 c
      refine g_iconst hC (0 : Int32) dX1_here_30 31 rfl iconst_0 ?_
      exact g_zret hC hZ rfl dX1_here_31 ⟨_, rfl, rfl, h⟩
    · have h := h.2 c
      refine g_aload_n hC dX1_here_18 19 rfl rfl 0 rfl ?_
      refine g_get hC fl_X1_9 dX1_here_19 22 rfl 0 rfl rfl ?_
      refine g_aload_n hC dX1_here_22 23 rfl rfl 0 rfl ?_
      refine g_get hC fl_X1_33 dX1_here_23 26 rfl 0 rfl rfl ?_
      obtain ⟨hi, h⟩ := h
      refine g_cald hC dX1_here_26 27 rfl 1 rfl hi ?_
      refine g_goto hC dX1_here_27 31 (by decide) ?_
      obtain ⟨hb, h⟩ := h
      exact g_zret hC hZ (hb) dX1_here_31 ⟨_, rfl, rfl, h⟩
def wp_X1_formOf (post : Nat → Prop) (p0 : Int32) : Prop := ((p0 = (97 : Int32) → post 6) ∧ (¬ p0 = (97 : Int32) → ((p0 = (98 : Int32) → post 12) ∧ (¬ p0 = (98 : Int32) → ((p0 = (100 : Int32) → post 8) ∧ (¬ p0 = (100 : Int32) → ((p0 = (101 : Int32) → post 14) ∧ (¬ p0 = (101 : Int32) → ((p0 = (106 : Int32) → post 10) ∧ (¬ p0 = (106 : Int32) → ((p0 = (107 : Int32) → post 7) ∧ (¬ p0 = (107 : Int32) → ((p0 = (108 : Int32) → post 7) ∧ (¬ p0 = (108 : Int32) → ((p0 = (109 : Int32) → post 6) ∧ (¬ p0 = (109 : Int32) → ((p0 = (110 : Int32) → post 5) ∧ (¬ p0 = (110 : Int32) → ((p0 = (112 : Int32) → post 7) ∧ (¬ p0 = (112 : Int32) → ((p0 = (113 : Int32) → post 11) ∧ (¬ p0 = (113 : Int32) → ((p0 = (114 : Int32) → post 9) ∧ (¬ p0 = (114 : Int32) → ((p0 = (116 : Int32) → post 13) ∧ (¬ p0 = (116 : Int32) → ((p0 = (117 : Int32) → post 12) ∧ (¬ p0 = (117 : Int32) → ((p0 = (119 : Int32) → post 7) ∧ (¬ p0 = (119 : Int32) → ((p0 = (121 : Int32) → post 7) ∧ (¬ p0 = (121 : Int32) → post 15))))))))))))))))))))))))))))))))
set_option maxRecDepth 100000 in
set_option maxHeartbeats 4000000 in
theorem ct_X1_formOf (l : Launch) (g : gE) (p0 : Int32) (post : Nat → Prop) (h : wp_X1_formOf post p0) : Fn l g yX1_formOf cX1_formOf 1 (some (.object "java/lang/String")) 0 0 0 0 [] [.int p0] (pL g post) := by
  refine Fn.of (by decide) (Nat.le_of_ble_eq_true rfl) (fun x hC hZ => ?_)
  rw [wp_X1_formOf] at h
  show G x g 1 0 0 [] 0 [(0, .int p0)] []
  refine g_iload_n hC dX1_formOf_0 1 rfl rfl 0 rfl ?_
  by_cases c97 : p0 = (97 : Int32)
  · have h := h.1 c97
    refine g_tableIn hC dX1_formOf_1 (by rw [c97]; decide) (by rw [c97]; decide) (off := 118) (by rw [c97]; rfl) 119 (by decide) ?_
    refine g_litS (i := 6) hC rfl dX1_formOf_119 121 rfl ?_
    exact g_aret hC hZ (Or.inl ⟨_, rfl⟩) dX1_formOf_121 ⟨_, rfl, rfl, h⟩
  have h := h.2 c97
  by_cases c98 : p0 = (98 : Int32)
  · have h := h.1 c98
    refine g_tableIn hC dX1_formOf_1 (by rw [c98]; decide) (by rw [c98]; decide) (off := 136) (by rw [c98]; rfl) 137 (by decide) ?_
    refine g_litS (i := 12) hC rfl dX1_formOf_137 139 rfl ?_
    exact g_aret hC hZ (Or.inl ⟨_, rfl⟩) dX1_formOf_139 ⟨_, rfl, rfl, h⟩
  have h := h.2 c98
  by_cases c100 : p0 = (100 : Int32)
  · have h := h.1 c100
    refine g_tableIn hC dX1_formOf_1 (by rw [c100]; decide) (by rw [c100]; decide) (off := 124) (by rw [c100]; rfl) 125 (by decide) ?_
    refine g_litS (i := 8) hC rfl dX1_formOf_125 127 rfl ?_
    exact g_aret hC hZ (Or.inl ⟨_, rfl⟩) dX1_formOf_127 ⟨_, rfl, rfl, h⟩
  have h := h.2 c100
  by_cases c101 : p0 = (101 : Int32)
  · have h := h.1 c101
    refine g_tableIn hC dX1_formOf_1 (by rw [c101]; decide) (by rw [c101]; decide) (off := 142) (by rw [c101]; rfl) 143 (by decide) ?_
    refine g_litS (i := 14) hC rfl dX1_formOf_143 145 rfl ?_
    exact g_aret hC hZ (Or.inl ⟨_, rfl⟩) dX1_formOf_145 ⟨_, rfl, rfl, h⟩
  have h := h.2 c101
  by_cases c106 : p0 = (106 : Int32)
  · have h := h.1 c106
    refine g_tableIn hC dX1_formOf_1 (by rw [c106]; decide) (by rw [c106]; decide) (off := 130) (by rw [c106]; rfl) 131 (by decide) ?_
    refine g_litS (i := 10) hC rfl dX1_formOf_131 133 rfl ?_
    exact g_aret hC hZ (Or.inl ⟨_, rfl⟩) dX1_formOf_133 ⟨_, rfl, rfl, h⟩
  have h := h.2 c106
  by_cases c107 : p0 = (107 : Int32)
  · have h := h.1 c107
    refine g_tableIn hC dX1_formOf_1 (by rw [c107]; decide) (by rw [c107]; decide) (off := 121) (by rw [c107]; rfl) 122 (by decide) ?_
    refine g_litS (i := 7) hC rfl dX1_formOf_122 124 rfl ?_
    exact g_aret hC hZ (Or.inl ⟨_, rfl⟩) dX1_formOf_124 ⟨_, rfl, rfl, h⟩
  have h := h.2 c107
  by_cases c108 : p0 = (108 : Int32)
  · have h := h.1 c108
    refine g_tableIn hC dX1_formOf_1 (by rw [c108]; decide) (by rw [c108]; decide) (off := 121) (by rw [c108]; rfl) 122 (by decide) ?_
    refine g_litS (i := 7) hC rfl dX1_formOf_122 124 rfl ?_
    exact g_aret hC hZ (Or.inl ⟨_, rfl⟩) dX1_formOf_124 ⟨_, rfl, rfl, h⟩
  have h := h.2 c108
  by_cases c109 : p0 = (109 : Int32)
  · have h := h.1 c109
    refine g_tableIn hC dX1_formOf_1 (by rw [c109]; decide) (by rw [c109]; decide) (off := 118) (by rw [c109]; rfl) 119 (by decide) ?_
    refine g_litS (i := 6) hC rfl dX1_formOf_119 121 rfl ?_
    exact g_aret hC hZ (Or.inl ⟨_, rfl⟩) dX1_formOf_121 ⟨_, rfl, rfl, h⟩
  have h := h.2 c109
  by_cases c110 : p0 = (110 : Int32)
  · have h := h.1 c110
    refine g_tableIn hC dX1_formOf_1 (by rw [c110]; decide) (by rw [c110]; decide) (off := 115) (by rw [c110]; rfl) 116 (by decide) ?_
    refine g_litS (i := 5) hC rfl dX1_formOf_116 118 rfl ?_
    exact g_aret hC hZ (Or.inl ⟨_, rfl⟩) dX1_formOf_118 ⟨_, rfl, rfl, h⟩
  have h := h.2 c110
  by_cases c112 : p0 = (112 : Int32)
  · have h := h.1 c112
    refine g_tableIn hC dX1_formOf_1 (by rw [c112]; decide) (by rw [c112]; decide) (off := 121) (by rw [c112]; rfl) 122 (by decide) ?_
    refine g_litS (i := 7) hC rfl dX1_formOf_122 124 rfl ?_
    exact g_aret hC hZ (Or.inl ⟨_, rfl⟩) dX1_formOf_124 ⟨_, rfl, rfl, h⟩
  have h := h.2 c112
  by_cases c113 : p0 = (113 : Int32)
  · have h := h.1 c113
    refine g_tableIn hC dX1_formOf_1 (by rw [c113]; decide) (by rw [c113]; decide) (off := 133) (by rw [c113]; rfl) 134 (by decide) ?_
    refine g_litS (i := 11) hC rfl dX1_formOf_134 136 rfl ?_
    exact g_aret hC hZ (Or.inl ⟨_, rfl⟩) dX1_formOf_136 ⟨_, rfl, rfl, h⟩
  have h := h.2 c113
  by_cases c114 : p0 = (114 : Int32)
  · have h := h.1 c114
    refine g_tableIn hC dX1_formOf_1 (by rw [c114]; decide) (by rw [c114]; decide) (off := 127) (by rw [c114]; rfl) 128 (by decide) ?_
    refine g_litS (i := 9) hC rfl dX1_formOf_128 130 rfl ?_
    exact g_aret hC hZ (Or.inl ⟨_, rfl⟩) dX1_formOf_130 ⟨_, rfl, rfl, h⟩
  have h := h.2 c114
  by_cases c116 : p0 = (116 : Int32)
  · have h := h.1 c116
    refine g_tableIn hC dX1_formOf_1 (by rw [c116]; decide) (by rw [c116]; decide) (off := 139) (by rw [c116]; rfl) 140 (by decide) ?_
    refine g_litS (i := 13) hC rfl dX1_formOf_140 142 rfl ?_
    exact g_aret hC hZ (Or.inl ⟨_, rfl⟩) dX1_formOf_142 ⟨_, rfl, rfl, h⟩
  have h := h.2 c116
  by_cases c117 : p0 = (117 : Int32)
  · have h := h.1 c117
    refine g_tableIn hC dX1_formOf_1 (by rw [c117]; decide) (by rw [c117]; decide) (off := 136) (by rw [c117]; rfl) 137 (by decide) ?_
    refine g_litS (i := 12) hC rfl dX1_formOf_137 139 rfl ?_
    exact g_aret hC hZ (Or.inl ⟨_, rfl⟩) dX1_formOf_139 ⟨_, rfl, rfl, h⟩
  have h := h.2 c117
  by_cases c119 : p0 = (119 : Int32)
  · have h := h.1 c119
    refine g_tableIn hC dX1_formOf_1 (by rw [c119]; decide) (by rw [c119]; decide) (off := 121) (by rw [c119]; rfl) 122 (by decide) ?_
    refine g_litS (i := 7) hC rfl dX1_formOf_122 124 rfl ?_
    exact g_aret hC hZ (Or.inl ⟨_, rfl⟩) dX1_formOf_124 ⟨_, rfl, rfl, h⟩
  have h := h.2 c119
  by_cases c121 : p0 = (121 : Int32)
  · have h := h.1 c121
    refine g_tableIn hC dX1_formOf_1 (by rw [c121]; decide) (by rw [c121]; decide) (off := 121) (by rw [c121]; rfl) 122 (by decide) ?_
    refine g_litS (i := 7) hC rfl dX1_formOf_122 124 rfl ?_
    exact g_aret hC hZ (Or.inl ⟨_, rfl⟩) dX1_formOf_124 ⟨_, rfl, rfl, h⟩
  have h := h.2 c121
  have hdef : G x g 1 0 0 [] 146 [(0, .int p0)] [] := by
    refine g_litS (i := 15) hC rfl dX1_formOf_146 148 rfl ?_
    exact g_aret hC hZ (Or.inl ⟨_, rfl⟩) dX1_formOf_148 ⟨_, rfl, rfl, h⟩
  have n97 : ¬ (p0).toInt = 97 := fun q => c97 (Int32.toInt_inj.mp q)
  have n98 : ¬ (p0).toInt = 98 := fun q => c98 (Int32.toInt_inj.mp q)
  have n100 : ¬ (p0).toInt = 100 := fun q => c100 (Int32.toInt_inj.mp q)
  have n101 : ¬ (p0).toInt = 101 := fun q => c101 (Int32.toInt_inj.mp q)
  have n106 : ¬ (p0).toInt = 106 := fun q => c106 (Int32.toInt_inj.mp q)
  have n107 : ¬ (p0).toInt = 107 := fun q => c107 (Int32.toInt_inj.mp q)
  have n108 : ¬ (p0).toInt = 108 := fun q => c108 (Int32.toInt_inj.mp q)
  have n109 : ¬ (p0).toInt = 109 := fun q => c109 (Int32.toInt_inj.mp q)
  have n110 : ¬ (p0).toInt = 110 := fun q => c110 (Int32.toInt_inj.mp q)
  have n112 : ¬ (p0).toInt = 112 := fun q => c112 (Int32.toInt_inj.mp q)
  have n113 : ¬ (p0).toInt = 113 := fun q => c113 (Int32.toInt_inj.mp q)
  have n114 : ¬ (p0).toInt = 114 := fun q => c114 (Int32.toInt_inj.mp q)
  have n116 : ¬ (p0).toInt = 116 := fun q => c116 (Int32.toInt_inj.mp q)
  have n117 : ¬ (p0).toInt = 117 := fun q => c117 (Int32.toInt_inj.mp q)
  have n119 : ¬ (p0).toInt = 119 := fun q => c119 (Int32.toInt_inj.mp q)
  have n121 : ¬ (p0).toInt = 121 := fun q => c121 (Int32.toInt_inj.mp q)
  by_cases hb : (p0).toInt < 97 ∨ 121 < (p0).toInt
  · exact g_tableOut hC dX1_formOf_1 hb 146 (by decide) hdef
  · rcases (show (p0).toInt = 99 ∨ (p0).toInt = 102 ∨ (p0).toInt = 103 ∨ (p0).toInt = 104 ∨ (p0).toInt = 105 ∨ (p0).toInt = 111 ∨ (p0).toInt = 115 ∨ (p0).toInt = 118 ∨ (p0).toInt = 120 by omega) with q | q | q | q | q | q | q | q | q
    · exact g_tableIn hC dX1_formOf_1 (by omega) (by omega) (off := 145) (by rw [q]; rfl) 146 (by decide) hdef
    · exact g_tableIn hC dX1_formOf_1 (by omega) (by omega) (off := 145) (by rw [q]; rfl) 146 (by decide) hdef
    · exact g_tableIn hC dX1_formOf_1 (by omega) (by omega) (off := 145) (by rw [q]; rfl) 146 (by decide) hdef
    · exact g_tableIn hC dX1_formOf_1 (by omega) (by omega) (off := 145) (by rw [q]; rfl) 146 (by decide) hdef
    · exact g_tableIn hC dX1_formOf_1 (by omega) (by omega) (off := 145) (by rw [q]; rfl) 146 (by decide) hdef
    · exact g_tableIn hC dX1_formOf_1 (by omega) (by omega) (off := 145) (by rw [q]; rfl) 146 (by decide) hdef
    · exact g_tableIn hC dX1_formOf_1 (by omega) (by omega) (off := 145) (by rw [q]; rfl) 146 (by decide) hdef
    · exact g_tableIn hC dX1_formOf_1 (by omega) (by omega) (off := 145) (by rw [q]; rfl) 146 (by decide) hdef
    · exact g_tableIn hC dX1_formOf_1 (by omega) (by omega) (off := 145) (by rw [q]; rfl) 146 (by decide) hdef
def wp_X1_isDigit (post : Int32 → Prop) (p0 : Int32) : Prop := ((p0 < (48 : Int32) → post (0 : Int32)) ∧ (¬ p0 < (48 : Int32) → (((57 : Int32) < p0 → post (0 : Int32)) ∧ (¬ (57 : Int32) < p0 → post (1 : Int32)))))
set_option maxRecDepth 100000 in
set_option maxHeartbeats 4000000 in
theorem ct_X1_isDigit (l : Launch) (g : gE) (p0 : Int32) (post : Int32 → Prop) (h : wp_X1_isDigit post p0) : Fn l g yX1_isDigit cX1_isDigit 1 (some .boolean) 0 0 0 0 [] [.int p0] (pR [] post) := by
  refine Fn.of (by decide) (Nat.le_of_ble_eq_true rfl) (fun x hC hZ => ?_)
  rw [wp_X1_isDigit] at h
  show G x g 1 0 0 [] 0 [(0, .int p0)] []
  refine g_iload_n hC dX1_isDigit_0 1 rfl rfl 0 rfl ?_
  refine g_bipush hC (48 : Int32) dX1_isDigit_1 3 rfl bipush_48 ?_
  refine g_icmp_lt hC dX1_isDigit_3 16 (by decide) 6 rfl (fun c => ?_) (fun c => ?_)
  · have h := h.1 c
    refine g_iconst hC (0 : Int32) dX1_isDigit_16 17 rfl iconst_0 ?_
    exact g_zret hC hZ rfl dX1_isDigit_17 ⟨_, rfl, rfl, h⟩
  · have h := h.2 c
    refine g_iload_n hC dX1_isDigit_6 7 rfl rfl 0 rfl ?_
    refine g_bipush hC (57 : Int32) dX1_isDigit_7 9 rfl bipush_57 ?_
    refine g_icmp_gt hC dX1_isDigit_9 16 (by decide) 12 rfl (fun c => ?_) (fun c => ?_)
    · have h := h.1 c
      refine g_iconst hC (0 : Int32) dX1_isDigit_16 17 rfl iconst_0 ?_
      exact g_zret hC hZ rfl dX1_isDigit_17 ⟨_, rfl, rfl, h⟩
    · have h := h.2 c
      refine g_iconst hC (1 : Int32) dX1_isDigit_12 13 rfl iconst_1 ?_
      refine g_goto hC dX1_isDigit_13 17 (by decide) ?_
      exact g_zret hC hZ rfl dX1_isDigit_17 ⟨_, rfl, rfl, h⟩
def wp_X1_put (post : Off → Prop) (o : Off) (p0 : Int32) : Prop := (((3 : Int32) ≤ (o 0 6) → post o) ∧ (¬ (3 : Int32) ≤ (o 0 6) → (vp_in (((o 0 4) * (3 : Int32)) + (o 0 6)) 60 ∧ (∀ o1 : Off, o1 = st o 3 (((o 0 4) * (3 : Int32)) + (o 0 6)).toNatClampNeg p0 → (∀ o2 : Off, o2 = st o1 0 6 ((o1 0 6) + (1 : Int32)) → post o2)))))
set_option maxRecDepth 100000 in
set_option maxHeartbeats 4000000 in
theorem ct_X1_put (l : Launch) (g : gE) (a : Nat → Nat) (o : Off) (p0 : Int32) (post : Off → Prop) (h : wp_X1_put post o p0) : Fn l g yX1_put cX1_put 2 none 0 0 0 0 (cmdW g a o) [.ref (a 0), .int p0] (pV (cmdW g a) post) := by
  refine Fn.of (by decide) (Nat.le_of_ble_eq_true rfl) (fun x hC hZ => ?_)
  rw [wp_X1_put] at h
  show G x g 2 0 0 (cmdW g a o) 0 [(0, .ref (a 0)), (1, .int p0)] []
  refine g_aload_n hC dX1_put_0 1 rfl rfl 0 rfl ?_
  refine g_get hC fl_X1_53 dX1_put_1 4 rfl 0 rfl rfl ?_
  refine g_iconst hC (3 : Int32) dX1_put_4 5 rfl iconst_3 ?_
  refine g_icmp_ge hC dX1_put_5 35 (by decide) 8 rfl (fun c => ?_) (fun c => ?_)
  · have h := h.1 c
    exact g_vret hC hZ dX1_put_35 ⟨_, rfl, rfl, h⟩
  · have h := h.2 c
    refine g_aload_n hC dX1_put_8 9 rfl rfl 0 rfl ?_
    refine g_get hC fl_X1_19 dX1_put_9 12 rfl 0 rfl rfl ?_
    refine g_aload_n hC dX1_put_12 13 rfl rfl 0 rfl ?_
    refine g_get hC fl_X1_26 dX1_put_13 16 rfl 0 rfl rfl ?_
    refine g_iconst hC (3 : Int32) dX1_put_16 17 rfl iconst_3 ?_
    refine g_imul hC dX1_put_17 18 rfl ?_
    refine g_aload_n hC dX1_put_18 19 rfl rfl 0 rfl ?_
    refine g_get hC fl_X1_53 dX1_put_19 22 rfl 0 rfl rfl ?_
    refine g_iadd hC dX1_put_22 23 rfl ?_
    refine g_iload_n hC dX1_put_23 24 rfl rfl 1 rfl ?_
    obtain ⟨hi, h⟩ := h
    obtain ⟨o1, eo1⟩ : ∃ y : Off, y = st o 3 (((o 0 4) * (3 : Int32)) + (o 0 6)).toNatClampNeg p0 := ⟨_, rfl⟩
    have h := h o1 eo1
    refine g_iast hC dX1_put_24 25 rfl 3 rfl hi (cmdW_s3 eo1) ?_
    refine g_aload_n hC dX1_put_25 26 rfl rfl 0 rfl ?_
    refine g_dup hC dX1_put_26 27 rfl rfl ?_
    refine g_get hC fl_X1_53 dX1_put_27 30 rfl 0 rfl rfl ?_
    refine g_iconst hC (1 : Int32) dX1_put_30 31 rfl iconst_1 ?_
    refine g_iadd hC dX1_put_31 32 rfl ?_
    obtain ⟨o2, eo2⟩ : ∃ y : Off, y = st o1 0 6 ((o1 0 6) + (1 : Int32)) := ⟨_, rfl⟩
    have h := h o2 eo2
    refine g_put hC fp_X1_53 dX1_put_32 35 rfl 0 rfl rfl rfl (Nat.le_of_ble_eq_true rfl) (cmdW_p6 eo2) ?_
    exact g_vret hC hZ dX1_put_35 ⟨_, rfl, rfl, h⟩
def wj_X1_readNumber_63 (post : Int32 → Off → Prop) (o : Off) (x1 : Int32) : Prop := wp_X1_put (fun o8 => post (1 : Int32) o8) o x1
def wp_X1_readNumber (post : Int32 → Off → Prop) (o : Off) : Prop := wp_X1_here (fun v1 => wp_X1_isDigit (fun v2 => ((¬ v2 = 0 → wp_X1_here (fun v3 => (∀ v4 : Int32, v4 = (v3 - (48 : Int32)) → (∀ o5 : Off, o5 = st o 0 5 ((o 0 5) + (1 : Int32)) → wp_X1_here (fun v6 => wp_X1_isDigit (fun v7 => ((v7 = 0 → wj_X1_readNumber_63 post o5 v4) ∧ (¬ v7 = 0 → wp_X1_here (fun v9 => (∀ v10 : Int32, v10 = (((v4 * (10 : Int32)) + v9) - (48 : Int32)) → (∀ o11 : Off, o11 = st o5 0 5 ((o5 0 5) + (1 : Int32)) → wj_X1_readNumber_63 post o11 v10))) o5 ))) v6) o5 ))) o ) ∧ (v2 = 0 → post (0 : Int32) o))) v1) o 
set_option maxRecDepth 100000 in
set_option maxHeartbeats 4000000 in
theorem jn_X1_readNumber_63 {x : gX} {l : Launch} {g : gE} {a : Nat → Nat} {o0 : Off} {post : Int32 → Off → Prop} (hC : gC x l cX1_readNumber 2 RX1 g 1 21 0 0) (hZ : gZ x g (some .boolean) (cmdW g a o0) (pI (cmdW g a) post) 0 0) : ∀ (o : Off) (x1 : Int32) , wj_X1_readNumber_63 post o x1 → G x g 2 0 0 (cmdW g a o) 63 [(0, .ref (a 0)), (1, .int x1)] [] := by
  intro o x1 h
  rw [wj_X1_readNumber_63] at h
  refine g_aload_n hC dX1_readNumber_63 64 rfl rfl 0 rfl ?_
  refine g_iload_n hC dX1_readNumber_64 65 rfl rfl 1 rfl ?_
  refine g_ownV hC (ct_X1_put l g a o x1 _ h) gY_X1_put dX1_readNumber_65 68 rfl ml_X1_109 [] rfl rfl rfl 0 5 rfl rfl ⟨Nat.le_of_ble_eq_true rfl, Nat.le_of_ble_eq_true rfl⟩ (Nat.le_of_ble_eq_true rfl) ⟨Nat.le_refl _, Nat.le_refl _⟩ (fun o8 h => ?_)
  refine g_iconst hC (1 : Int32) dX1_readNumber_68 69 rfl iconst_1 ?_
  exact g_zret hC hZ rfl dX1_readNumber_69 ⟨_, _, rfl, rfl, h⟩
set_option maxRecDepth 100000 in
set_option maxHeartbeats 4000000 in
theorem ct_X1_readNumber (l : Launch) (g : gE) (a : Nat → Nat) (o : Off) (post : Int32 → Off → Prop) (h : wp_X1_readNumber post o ) : Fn l g yX1_readNumber cX1_readNumber 2 (some .boolean) 1 21 0 0 (cmdW g a o) [.ref (a 0)] (pI (cmdW g a) post) := by
  refine Fn.of (by decide) (Nat.le_of_ble_eq_true rfl) (fun x hC hZ => ?_)
  rw [wp_X1_readNumber] at h
  show G x g 2 0 0 (cmdW g a o) 0 [(0, .ref (a 0))] []
  refine g_aload_n hC dX1_readNumber_0 1 rfl rfl 0 rfl ?_
  refine g_readV hC (ct_X1_here l g a o  _ h) gY_X1_here dX1_readNumber_1 4 rfl ml_X1_40 [] [] (by simp only [List.nil_append, List.append_nil]) [] rfl rfl rfl 0 5 rfl rfl ⟨Nat.le_of_ble_eq_true rfl, Nat.le_of_ble_eq_true rfl⟩ (Nat.le_of_ble_eq_true rfl) ⟨Nat.le_refl _, Nat.le_refl _⟩ (fun v1 h => ?_)
  refine g_readS hC (ct_X1_isDigit l g v1 _ h) gY_X1_isDigit dX1_readNumber_4 7 rfl ml_X1_105 [] _ rfl [] rfl rfl ⟨Nat.le_of_ble_eq_true rfl, Nat.le_of_ble_eq_true rfl⟩ (Nat.le_of_ble_eq_true rfl) ⟨Nat.le_refl _, Nat.le_refl _⟩ (fun v2 h => ?_)
  refine g_if_ne hC dX1_readNumber_7 12 (by decide) 10 rfl (fun c => ?_) (fun c => ?_)
  · have h := h.1 c
    refine g_aload_n hC dX1_readNumber_12 13 rfl rfl 0 rfl ?_
    refine g_readV hC (ct_X1_here l g a o  _ h) gY_X1_here dX1_readNumber_13 16 rfl ml_X1_40 [] [] (by simp only [List.nil_append, List.append_nil]) [] rfl rfl rfl 0 5 rfl rfl ⟨Nat.le_of_ble_eq_true rfl, Nat.le_of_ble_eq_true rfl⟩ (Nat.le_of_ble_eq_true rfl) ⟨Nat.le_refl _, Nat.le_refl _⟩ (fun v3 h => ?_)
    refine g_bipush hC (48 : Int32) dX1_readNumber_16 18 rfl bipush_48 ?_
    refine g_isub hC dX1_readNumber_18 19 rfl ?_
    refine g_topi (fun v4 ev4 => ?_)
    have h := h v4 ev4
    refine g_istore_n (lv2 := [(1, .int v4), (0, .ref (a 0))]) hC dX1_readNumber_19 20 rfl rfl (by decide) rfl ?_
    refine g_aload_n hC dX1_readNumber_20 21 rfl rfl 1 rfl ?_
    refine g_dup hC dX1_readNumber_21 22 rfl rfl ?_
    refine g_get hC fl_X1_33 dX1_readNumber_22 25 rfl 0 rfl rfl ?_
    refine g_iconst hC (1 : Int32) dX1_readNumber_25 26 rfl iconst_1 ?_
    refine g_iadd hC dX1_readNumber_26 27 rfl ?_
    obtain ⟨o5, eo5⟩ : ∃ y : Off, y = st o 0 5 ((o 0 5) + (1 : Int32)) := ⟨_, rfl⟩
    have h := h o5 eo5
    refine g_put hC fp_X1_33 dX1_readNumber_27 30 rfl 0 rfl rfl rfl (Nat.le_of_ble_eq_true rfl) (cmdW_p5 eo5) ?_
    refine g_aload_n hC dX1_readNumber_30 31 rfl rfl 1 rfl ?_
    refine g_readV hC (ct_X1_here l g a o5  _ h) gY_X1_here dX1_readNumber_31 34 rfl ml_X1_40 [] [] (by simp only [List.nil_append, List.append_nil]) [] rfl rfl rfl 0 5 rfl rfl ⟨Nat.le_of_ble_eq_true rfl, Nat.le_of_ble_eq_true rfl⟩ (Nat.le_of_ble_eq_true rfl) ⟨Nat.le_refl _, Nat.le_refl _⟩ (fun v6 h => ?_)
    refine g_readS hC (ct_X1_isDigit l g v6 _ h) gY_X1_isDigit dX1_readNumber_34 37 rfl ml_X1_105 [] _ rfl [] rfl rfl ⟨Nat.le_of_ble_eq_true rfl, Nat.le_of_ble_eq_true rfl⟩ (Nat.le_of_ble_eq_true rfl) ⟨Nat.le_refl _, Nat.le_refl _⟩ (fun v7 h => ?_)
    refine g_if_eq hC dX1_readNumber_37 63 (by decide) 40 rfl (fun c => ?_) (fun c => ?_)
    · have h := h.1 c
      refine g_lv (lv2 := [(0, .ref (a 0)), (1, .int v4)]) [1, 0] rfl ?_
      exact jn_X1_readNumber_63 hC hZ o5 v4 h
    · have h := h.2 c
      refine g_iload_n hC dX1_readNumber_40 41 rfl rfl 0 rfl ?_
      refine g_bipush hC (10 : Int32) dX1_readNumber_41 43 rfl bipush_10 ?_
      refine g_imul hC dX1_readNumber_43 44 rfl ?_
      refine g_aload_n hC dX1_readNumber_44 45 rfl rfl 1 rfl ?_
      refine g_readV hC (ct_X1_here l g a o5  _ h) gY_X1_here dX1_readNumber_45 48 rfl ml_X1_40 [] [] (by simp only [List.nil_append, List.append_nil]) [.int (v4 * (10 : Int32))] rfl rfl rfl 0 5 rfl rfl ⟨Nat.le_of_ble_eq_true rfl, Nat.le_of_ble_eq_true rfl⟩ (Nat.le_of_ble_eq_true rfl) ⟨Nat.le_refl _, Nat.le_refl _⟩ (fun v9 h => ?_)
      refine g_iadd hC dX1_readNumber_48 49 rfl ?_
      refine g_bipush hC (48 : Int32) dX1_readNumber_49 51 rfl bipush_48 ?_
      refine g_isub hC dX1_readNumber_51 52 rfl ?_
      refine g_topi (fun v10 ev10 => ?_)
      have h := h v10 ev10
      refine g_istore_n (lv2 := [(1, .int v10), (0, .ref (a 0))]) hC dX1_readNumber_52 53 rfl rfl (by decide) rfl ?_
      refine g_aload_n hC dX1_readNumber_53 54 rfl rfl 1 rfl ?_
      refine g_dup hC dX1_readNumber_54 55 rfl rfl ?_
      refine g_get hC fl_X1_33 dX1_readNumber_55 58 rfl 0 rfl rfl ?_
      refine g_iconst hC (1 : Int32) dX1_readNumber_58 59 rfl iconst_1 ?_
      refine g_iadd hC dX1_readNumber_59 60 rfl ?_
      obtain ⟨o11, eo11⟩ : ∃ y : Off, y = st o5 0 5 ((o5 0 5) + (1 : Int32)) := ⟨_, rfl⟩
      have h := h o11 eo11
      refine g_put hC fp_X1_33 dX1_readNumber_60 63 rfl 0 rfl rfl rfl (Nat.le_of_ble_eq_true rfl) (cmdW_p5 eo11) ?_
      refine g_lv (lv2 := [(0, .ref (a 0)), (1, .int v10)]) [1, 0] rfl ?_
      exact jn_X1_readNumber_63 hC hZ o11 v10 h
  · have h := h.2 c
    refine g_iconst hC (0 : Int32) dX1_readNumber_10 11 rfl iconst_0 ?_
    exact g_zret hC hZ rfl dX1_readNumber_11 ⟨_, _, rfl, rfl, h⟩
def wp_X1_readDigit (post : Int32 → Off → Prop) (o : Off) : Prop := wp_X1_here (fun v1 => wp_X1_isDigit (fun v2 => ((¬ v2 = 0 → wp_X1_here (fun v3 => wp_X1_put (fun o4 => (∀ o5 : Off, o5 = st o4 0 5 ((o4 0 5) + (1 : Int32)) → post (1 : Int32) o5)) o (v3 - (48 : Int32))) o ) ∧ (v2 = 0 → post (0 : Int32) o))) v1) o 
set_option maxRecDepth 100000 in
set_option maxHeartbeats 4000000 in
theorem ct_X1_readDigit (l : Launch) (g : gE) (a : Nat → Nat) (o : Off) (post : Int32 → Off → Prop) (h : wp_X1_readDigit post o ) : Fn l g yX1_readDigit cX1_readDigit 1 (some .boolean) 1 21 0 0 (cmdW g a o) [.ref (a 0)] (pI (cmdW g a) post) := by
  refine Fn.of (by decide) (Nat.le_of_ble_eq_true rfl) (fun x hC hZ => ?_)
  rw [wp_X1_readDigit] at h
  show G x g 1 0 0 (cmdW g a o) 0 [(0, .ref (a 0))] []
  refine g_aload_n hC dX1_readDigit_0 1 rfl rfl 0 rfl ?_
  refine g_readV hC (ct_X1_here l g a o  _ h) gY_X1_here dX1_readDigit_1 4 rfl ml_X1_40 [] [] (by simp only [List.nil_append, List.append_nil]) [] rfl rfl rfl 0 5 rfl rfl ⟨Nat.le_of_ble_eq_true rfl, Nat.le_of_ble_eq_true rfl⟩ (Nat.le_of_ble_eq_true rfl) ⟨Nat.le_refl _, Nat.le_refl _⟩ (fun v1 h => ?_)
  refine g_readS hC (ct_X1_isDigit l g v1 _ h) gY_X1_isDigit dX1_readDigit_4 7 rfl ml_X1_105 [] _ rfl [] rfl rfl ⟨Nat.le_of_ble_eq_true rfl, Nat.le_of_ble_eq_true rfl⟩ (Nat.le_of_ble_eq_true rfl) ⟨Nat.le_refl _, Nat.le_refl _⟩ (fun v2 h => ?_)
  refine g_if_ne hC dX1_readDigit_7 12 (by decide) 10 rfl (fun c => ?_) (fun c => ?_)
  · have h := h.1 c
    refine g_aload_n hC dX1_readDigit_12 13 rfl rfl 0 rfl ?_
    refine g_aload_n hC dX1_readDigit_13 14 rfl rfl 0 rfl ?_
    refine g_readV hC (ct_X1_here l g a o  _ h) gY_X1_here dX1_readDigit_14 17 rfl ml_X1_40 [] [] (by simp only [List.nil_append, List.append_nil]) [.ref (a 0)] rfl rfl rfl 0 5 rfl rfl ⟨Nat.le_of_ble_eq_true rfl, Nat.le_of_ble_eq_true rfl⟩ (Nat.le_of_ble_eq_true rfl) ⟨Nat.le_refl _, Nat.le_refl _⟩ (fun v3 h => ?_)
    refine g_bipush hC (48 : Int32) dX1_readDigit_17 19 rfl bipush_48 ?_
    refine g_isub hC dX1_readDigit_19 20 rfl ?_
    refine g_ownV hC (ct_X1_put l g a o (v3 - (48 : Int32)) _ h) gY_X1_put dX1_readDigit_20 23 rfl ml_X1_109 [] rfl rfl rfl 0 5 rfl rfl ⟨Nat.le_of_ble_eq_true rfl, Nat.le_of_ble_eq_true rfl⟩ (Nat.le_of_ble_eq_true rfl) ⟨Nat.le_refl _, Nat.le_refl _⟩ (fun o4 h => ?_)
    refine g_aload_n hC dX1_readDigit_23 24 rfl rfl 0 rfl ?_
    refine g_dup hC dX1_readDigit_24 25 rfl rfl ?_
    refine g_get hC fl_X1_33 dX1_readDigit_25 28 rfl 0 rfl rfl ?_
    refine g_iconst hC (1 : Int32) dX1_readDigit_28 29 rfl iconst_1 ?_
    refine g_iadd hC dX1_readDigit_29 30 rfl ?_
    obtain ⟨o5, eo5⟩ : ∃ y : Off, y = st o4 0 5 ((o4 0 5) + (1 : Int32)) := ⟨_, rfl⟩
    have h := h o5 eo5
    refine g_put hC fp_X1_33 dX1_readDigit_30 33 rfl 0 rfl rfl rfl (Nat.le_of_ble_eq_true rfl) (cmdW_p5 eo5) ?_
    refine g_iconst hC (1 : Int32) dX1_readDigit_33 34 rfl iconst_1 ?_
    exact g_zret hC hZ rfl dX1_readDigit_34 ⟨_, _, rfl, rfl, h⟩
  · have h := h.2 c
    refine g_iconst hC (0 : Int32) dX1_readDigit_10 11 rfl iconst_0 ?_
    exact g_zret hC hZ rfl dX1_readDigit_11 ⟨_, _, rfl, rfl, h⟩
def wp_X1_readOneOf (post : Int32 → Off → Prop) (o : Off) (p0 : Nat) : Prop := (p0 < 16 ∧ wp_X1_here (fun v1 => wp_J0_indexOf_0f7a4 (fun v2 => ((0 ≤ v2 → wp_X1_here (fun v3 => wp_X1_put (fun o4 => (∀ o5 : Off, o5 = st o4 0 5 ((o4 0 5) + (1 : Int32)) → post (1 : Int32) o5)) o v3) o ) ∧ (¬ 0 ≤ v2 → post (0 : Int32) o))) (gBs p0) v1) o )
set_option maxRecDepth 100000 in
set_option maxHeartbeats 4000000 in
theorem ct_X1_readOneOf (l : Launch) (g : gE) (a : Nat → Nat) (o : Off) (p0 : Nat) (post : Int32 → Off → Prop) (h : wp_X1_readOneOf post o p0) : Fn l g yX1_readOneOf cX1_readOneOf 2 (some .boolean) 4 91 0 0 (cmdW g a o) [.ref (a 0), .ref (g.2.2.1 p0)] (pI (cmdW g a) post) := by
  refine Fn.of (by decide) (Nat.le_of_ble_eq_true rfl) (fun x hC hZ => ?_)
  rw [wp_X1_readOneOf] at h
  show G x g 2 0 0 (cmdW g a o) 0 [(0, .ref (a 0)), (1, .ref (g.2.2.1 p0))] []
  obtain ⟨hLp0, h⟩ := h
  refine g_aload_n hC dX1_readOneOf_0 1 rfl rfl 1 rfl ?_
  refine g_aload_n hC dX1_readOneOf_1 2 rfl rfl 0 rfl ?_
  refine g_readV hC (ct_X1_here l g a o  _ h) gY_X1_here dX1_readOneOf_2 5 rfl ml_X1_40 [] [] (by simp only [List.nil_append, List.append_nil]) [.ref (g.2.2.1 p0)] rfl rfl rfl 0 5 rfl rfl ⟨Nat.le_of_ble_eq_true rfl, Nat.le_of_ble_eq_true rfl⟩ (Nat.le_of_ble_eq_true rfl) ⟨Nat.le_refl _, Nat.le_refl _⟩ (fun v1 h => ?_)
  refine g_callL hC (gTx_at hLp0) hLp0 (ct_J0_indexOf_0f7a4 l g p0 (gBs p0) (gTx_at hLp0) hLp0 v1 _ h) gY_J0_indexOf_0f7a4 dX1_readOneOf_5 8 rfl ml_X1_113 [] rfl rfl rfl rfl ⟨Nat.le_of_ble_eq_true rfl, Nat.le_of_ble_eq_true rfl⟩ (Nat.le_of_ble_eq_true rfl) ⟨Nat.le_refl _, Nat.le_refl _⟩ (fun v2 h => ?_)
  refine g_if_ge hC dX1_readOneOf_8 13 (by decide) 11 rfl (fun c => ?_) (fun c => ?_)
  · have h := h.1 c
    refine g_aload_n hC dX1_readOneOf_13 14 rfl rfl 0 rfl ?_
    refine g_aload_n hC dX1_readOneOf_14 15 rfl rfl 0 rfl ?_
    refine g_readV hC (ct_X1_here l g a o  _ h) gY_X1_here dX1_readOneOf_15 18 rfl ml_X1_40 [] [] (by simp only [List.nil_append, List.append_nil]) [.ref (a 0)] rfl rfl rfl 0 5 rfl rfl ⟨Nat.le_of_ble_eq_true rfl, Nat.le_of_ble_eq_true rfl⟩ (Nat.le_of_ble_eq_true rfl) ⟨Nat.le_refl _, Nat.le_refl _⟩ (fun v3 h => ?_)
    refine g_ownV hC (ct_X1_put l g a o v3 _ h) gY_X1_put dX1_readOneOf_18 21 rfl ml_X1_109 [] rfl rfl rfl 0 5 rfl rfl ⟨Nat.le_of_ble_eq_true rfl, Nat.le_of_ble_eq_true rfl⟩ (Nat.le_of_ble_eq_true rfl) ⟨Nat.le_refl _, Nat.le_refl _⟩ (fun o4 h => ?_)
    refine g_aload_n hC dX1_readOneOf_21 22 rfl rfl 0 rfl ?_
    refine g_dup hC dX1_readOneOf_22 23 rfl rfl ?_
    refine g_get hC fl_X1_33 dX1_readOneOf_23 26 rfl 0 rfl rfl ?_
    refine g_iconst hC (1 : Int32) dX1_readOneOf_26 27 rfl iconst_1 ?_
    refine g_iadd hC dX1_readOneOf_27 28 rfl ?_
    obtain ⟨o5, eo5⟩ : ∃ y : Off, y = st o4 0 5 ((o4 0 5) + (1 : Int32)) := ⟨_, rfl⟩
    have h := h o5 eo5
    refine g_put hC fp_X1_33 dX1_readOneOf_28 31 rfl 0 rfl rfl rfl (Nat.le_of_ble_eq_true rfl) (cmdW_p5 eo5) ?_
    refine g_iconst hC (1 : Int32) dX1_readOneOf_31 32 rfl iconst_1 ?_
    exact g_zret hC hZ rfl dX1_readOneOf_32 ⟨_, _, rfl, rfl, h⟩
  · have h := h.2 c
    refine g_iconst hC (0 : Int32) dX1_readOneOf_11 12 rfl iconst_0 ?_
    exact g_zret hC hZ rfl dX1_readOneOf_12 ⟨_, _, rfl, rfl, h⟩
def wp_X1_readSign (post : Int32 → Off → Prop) (o : Off) (p0 : Int32) : Prop := wp_X1_here (fun v1 => ((v1 = p0 → (∀ o2 : Off, o2 = st o 0 5 ((o 0 5) + (1 : Int32)) → post (1 : Int32) o2)) ∧ (¬ v1 = p0 → post (0 : Int32) o))) o 
set_option maxRecDepth 100000 in
set_option maxHeartbeats 4000000 in
theorem ct_X1_readSign (l : Launch) (g : gE) (a : Nat → Nat) (o : Off) (p0 : Int32) (post : Int32 → Off → Prop) (h : wp_X1_readSign post o p0) : Fn l g yX1_readSign cX1_readSign 2 (some .boolean) 1 20 0 0 (cmdW g a o) [.ref (a 0), .int p0] (pI (cmdW g a) post) := by
  refine Fn.of (by decide) (Nat.le_of_ble_eq_true rfl) (fun x hC hZ => ?_)
  rw [wp_X1_readSign] at h
  show G x g 2 0 0 (cmdW g a o) 0 [(0, .ref (a 0)), (1, .int p0)] []
  refine g_aload_n hC dX1_readSign_0 1 rfl rfl 0 rfl ?_
  refine g_readV hC (ct_X1_here l g a o  _ h) gY_X1_here dX1_readSign_1 4 rfl ml_X1_40 [] [] (by simp only [List.nil_append, List.append_nil]) [] rfl rfl rfl 0 5 rfl rfl ⟨Nat.le_of_ble_eq_true rfl, Nat.le_of_ble_eq_true rfl⟩ (Nat.le_of_ble_eq_true rfl) ⟨Nat.le_refl _, Nat.le_refl _⟩ (fun v1 h => ?_)
  refine g_iload_n hC dX1_readSign_4 5 rfl rfl 1 rfl ?_
  refine g_icmp_eq hC dX1_readSign_5 10 (by decide) 8 rfl (fun c => ?_) (fun c => ?_)
  · have h := h.1 c
    refine g_aload_n hC dX1_readSign_10 11 rfl rfl 0 rfl ?_
    refine g_dup hC dX1_readSign_11 12 rfl rfl ?_
    refine g_get hC fl_X1_33 dX1_readSign_12 15 rfl 0 rfl rfl ?_
    refine g_iconst hC (1 : Int32) dX1_readSign_15 16 rfl iconst_1 ?_
    refine g_iadd hC dX1_readSign_16 17 rfl ?_
    obtain ⟨o2, eo2⟩ : ∃ y : Off, y = st o 0 5 ((o 0 5) + (1 : Int32)) := ⟨_, rfl⟩
    have h := h o2 eo2
    refine g_put hC fp_X1_33 dX1_readSign_17 20 rfl 0 rfl rfl rfl (Nat.le_of_ble_eq_true rfl) (cmdW_p5 eo2) ?_
    refine g_iconst hC (1 : Int32) dX1_readSign_20 21 rfl iconst_1 ?_
    exact g_zret hC hZ rfl dX1_readSign_21 ⟨_, _, rfl, rfl, h⟩
  · have h := h.2 c
    refine g_iconst hC (0 : Int32) dX1_readSign_8 9 rfl iconst_0 ?_
    exact g_zret hC hZ rfl dX1_readSign_9 ⟨_, _, rfl, rfl, h⟩
def wp_X1_readPart (post : Int32 → Off → Prop) (o : Off) (p0 : Int32) : Prop := ((p0 = (67 : Int32) → wp_X1_readOneOf (fun v2 o1 => (isB v2 ∧ post v2 o1)) o 3) ∧ (¬ p0 = (67 : Int32) → ((p0 = (68 : Int32) → wp_X1_readDigit (fun v4 o3 => (isB v4 ∧ post v4 o3)) o ) ∧ (¬ p0 = (68 : Int32) → ((p0 = (78 : Int32) → wp_X1_readNumber (fun v6 o5 => (isB v6 ∧ post v6 o5)) o ) ∧ (¬ p0 = (78 : Int32) → ((p0 = (84 : Int32) → wp_X1_readOneOf (fun v8 o7 => (isB v8 ∧ post v8 o7)) o 4) ∧ (¬ p0 = (84 : Int32) → wp_X1_readSign (fun v10 o9 => (isB v10 ∧ post v10 o9)) o p0))))))))
set_option maxRecDepth 100000 in
set_option maxHeartbeats 4000000 in
theorem ct_X1_readPart (l : Launch) (g : gE) (a : Nat → Nat) (o : Off) (p0 : Int32) (post : Int32 → Off → Prop) (h : wp_X1_readPart post o p0) : Fn l g yX1_readPart cX1_readPart 2 (some .boolean) 5 112 0 0 (cmdW g a o) [.ref (a 0), .int p0] (pI (cmdW g a) post) := by
  refine Fn.of (by decide) (Nat.le_of_ble_eq_true rfl) (fun x hC hZ => ?_)
  rw [wp_X1_readPart] at h
  show G x g 2 0 0 (cmdW g a o) 0 [(0, .ref (a 0)), (1, .int p0)] []
  refine g_iload_n hC dX1_readPart_0 1 rfl rfl 1 rfl ?_
  by_cases c67 : p0 = (67 : Int32)
  · have h := h.1 c67
    refine g_lookup hC dX1_readPart_1 (by decide) (off := 53) (by rw [c67]; rfl) 54 (by decide) ?_
    refine g_aload_n hC dX1_readPart_54 55 rfl rfl 0 rfl ?_
    refine g_litS (i := 3) hC rfl dX1_readPart_55 57 rfl ?_
    refine g_ownI hC (ct_X1_readOneOf l g a o 3 _ h) gY_X1_readOneOf dX1_readPart_57 60 rfl ml_X1_96 [] rfl rfl rfl 0 5 rfl rfl ⟨Nat.le_of_ble_eq_true rfl, Nat.le_of_ble_eq_true rfl⟩ (Nat.le_of_ble_eq_true rfl) ⟨Nat.le_refl _, Nat.le_refl _⟩ (fun v2 o1 h => ?_)
    obtain ⟨hb, h⟩ := h
    exact g_zret hC hZ (isB_n hb) dX1_readPart_60 ⟨_, _, rfl, rfl, h⟩
  have h := h.2 c67
  by_cases c68 : p0 = (68 : Int32)
  · have h := h.1 c68
    refine g_lookup hC dX1_readPart_1 (by decide) (off := 48) (by rw [c68]; rfl) 49 (by decide) ?_
    refine g_aload_n hC dX1_readPart_49 50 rfl rfl 0 rfl ?_
    refine g_ownI hC (ct_X1_readDigit l g a o  _ h) gY_X1_readDigit dX1_readPart_50 53 rfl ml_X1_91 [] rfl rfl rfl 0 5 rfl rfl ⟨Nat.le_of_ble_eq_true rfl, Nat.le_of_ble_eq_true rfl⟩ (Nat.le_of_ble_eq_true rfl) ⟨Nat.le_refl _, Nat.le_refl _⟩ (fun v4 o3 h => ?_)
    obtain ⟨hb, h⟩ := h
    exact g_zret hC hZ (isB_n hb) dX1_readPart_53 ⟨_, _, rfl, rfl, h⟩
  have h := h.2 c68
  by_cases c78 : p0 = (78 : Int32)
  · have h := h.1 c78
    refine g_lookup hC dX1_readPart_1 (by decide) (off := 43) (by rw [c78]; rfl) 44 (by decide) ?_
    refine g_aload_n hC dX1_readPart_44 45 rfl rfl 0 rfl ?_
    refine g_ownI hC (ct_X1_readNumber l g a o  _ h) gY_X1_readNumber dX1_readPart_45 48 rfl ml_X1_88 [] rfl rfl rfl 0 5 rfl rfl ⟨Nat.le_of_ble_eq_true rfl, Nat.le_of_ble_eq_true rfl⟩ (Nat.le_of_ble_eq_true rfl) ⟨Nat.le_refl _, Nat.le_refl _⟩ (fun v6 o5 h => ?_)
    obtain ⟨hb, h⟩ := h
    exact g_zret hC hZ (isB_n hb) dX1_readPart_48 ⟨_, _, rfl, rfl, h⟩
  have h := h.2 c78
  by_cases c84 : p0 = (84 : Int32)
  · have h := h.1 c84
    refine g_lookup hC dX1_readPart_1 (by decide) (off := 60) (by rw [c84]; rfl) 61 (by decide) ?_
    refine g_aload_n hC dX1_readPart_61 62 rfl rfl 0 rfl ?_
    refine g_litS (i := 4) hC rfl dX1_readPart_62 64 rfl ?_
    refine g_ownI hC (ct_X1_readOneOf l g a o 4 _ h) gY_X1_readOneOf dX1_readPart_64 67 rfl ml_X1_96 [] rfl rfl rfl 0 5 rfl rfl ⟨Nat.le_of_ble_eq_true rfl, Nat.le_of_ble_eq_true rfl⟩ (Nat.le_of_ble_eq_true rfl) ⟨Nat.le_refl _, Nat.le_refl _⟩ (fun v8 o7 h => ?_)
    obtain ⟨hb, h⟩ := h
    exact g_zret hC hZ (isB_n hb) dX1_readPart_67 ⟨_, _, rfl, rfl, h⟩
  have h := h.2 c84
  refine g_lookup hC dX1_readPart_1 (by decide) (off := 67) ((lv_osw c67 rfl).trans ((lv_osw c68 rfl).trans ((lv_osw c78 rfl).trans ((lv_osw c84 rfl).trans (rfl))))) 68 (by decide) ?_
  refine g_aload_n hC dX1_readPart_68 69 rfl rfl 0 rfl ?_
  refine g_iload_n hC dX1_readPart_69 70 rfl rfl 1 rfl ?_
  refine g_ownI hC (ct_X1_readSign l g a o p0 _ h) gY_X1_readSign dX1_readPart_70 73 rfl ml_X1_102 [] rfl rfl rfl 0 5 rfl rfl ⟨Nat.le_of_ble_eq_true rfl, Nat.le_of_ble_eq_true rfl⟩ (Nat.le_of_ble_eq_true rfl) ⟨Nat.le_refl _, Nat.le_refl _⟩ (fun v10 o9 h => ?_)
  obtain ⟨hb, h⟩ := h
  exact g_zret hC hZ (isB_n hb) dX1_readPart_73 ⟨_, _, rfl, rfl, h⟩
def wl_X1_readCommand_56 (post : Int32 → Off → Prop) : Nat → Off → Nat → Int32 → Prop
  | 0, _, _, _ => False
  | n + 1, o, x1, x2 => (x1 < 16 ∧ wp_J0_length_8abf5 (fun v8 => ((v8 ≤ x2 → (∀ o9 : Off, o9 = st o 0 4 ((o 0 4) + (1 : Int32)) → post (1 : Int32) o9)) ∧ (¬ v8 ≤ x2 → wp_J0_charAt_5068e (fun v10 => wp_X1_readPart (fun v12 o11 => ((¬ v12 = 0 → (∀ v13 : Int32, v13 = x2 + (1 : Int32) → wl_X1_readCommand_56 post n o11 x1 v13)) ∧ (v12 = 0 → post (0 : Int32) o11))) o v10) (gBs x1) x2))) (gBs x1) )
def wp_X1_readCommand (post : Int32 → Off → Prop) (o : Off) : Prop := wp_X1_here (fun v1 => wp_X1_formOf (fun v2 => (v2 < 16 ∧ wp_J0_isEmpty_aae02 (fun v3 => ((¬ v3 = 0 → post (0 : Int32) o) ∧ (v3 = 0 → (((o 0 4) < (20 : Int32) → wp_X1_here (fun v4 => (vp_in (o 0 4) 20 ∧ (∀ o5 : Off, o5 = st o 2 (o 0 4).toNatClampNeg v4 → (∀ o6 : Off, o6 = st o5 0 5 ((o5 0 5) + (1 : Int32)) → (∀ o7 : Off, o7 = st o6 0 6 (0 : Int32) → (∃ m : Nat, wl_X1_readCommand_56 post m o7 v2 (0 : Int32))))))) o ) ∧ (¬ (o 0 4) < (20 : Int32) → post (0 : Int32) o))))) (gBs v2) )) v1) o 
set_option maxRecDepth 100000 in
set_option maxHeartbeats 4000000 in
theorem lp_X1_readCommand_56 {x : gX} {l : Launch} {g : gE} {a : Nat → Nat} {o0 : Off} {post : Int32 → Off → Prop} (hC : gC x l cX1_readCommand 3 RX1 g 6 133 0 0) (hZ : gZ x g (some .boolean) (cmdW g a o0) (pI (cmdW g a) post) 0 0) : ∀ (n : Nat) (o : Off) (x1 : Nat) (x2 : Int32) , wl_X1_readCommand_56 post n o x1 x2 → G x g 3 0 0 (cmdW g a o) 56 [(0, .ref (a 0)), (1, .ref (g.2.2.1 x1)), (2, .int x2)] [] := by
  intro n
  induction n with
  | zero =>
    intro o x1 x2 h
    exact h.elim
  | succ n ih =>
    intro o x1 x2 h
    rw [wl_X1_readCommand_56] at h
    obtain ⟨hLx1, h⟩ := h
    refine g_iload_n hC dX1_readCommand_56 57 rfl rfl 2 rfl ?_
    refine g_aload_n hC dX1_readCommand_57 58 rfl rfl 1 rfl ?_
    refine g_callL hC (gTx_at hLx1) hLx1 (ct_J0_length_8abf5 l g x1 (gBs x1) (gTx_at hLx1) hLx1  _ h) gY_J0_length_8abf5 dX1_readCommand_58 61 rfl ml_X1_56 [.int x2] rfl rfl rfl rfl ⟨Nat.le_of_ble_eq_true rfl, Nat.le_of_ble_eq_true rfl⟩ (Nat.le_of_ble_eq_true rfl) ⟨Nat.le_refl _, Nat.le_refl _⟩ (fun v8 h => ?_)
    refine g_icmp_ge hC dX1_readCommand_61 84 (by decide) 64 rfl (fun c => ?_) (fun c => ?_)
    · have h := h.1 c
      refine g_aload_n hC dX1_readCommand_84 85 rfl rfl 0 rfl ?_
      refine g_dup hC dX1_readCommand_85 86 rfl rfl ?_
      refine g_get hC fl_X1_26 dX1_readCommand_86 89 rfl 0 rfl rfl ?_
      refine g_iconst hC (1 : Int32) dX1_readCommand_89 90 rfl iconst_1 ?_
      refine g_iadd hC dX1_readCommand_90 91 rfl ?_
      obtain ⟨o9, eo9⟩ : ∃ y : Off, y = st o 0 4 ((o 0 4) + (1 : Int32)) := ⟨_, rfl⟩
      have h := h o9 eo9
      refine g_put hC fp_X1_26 dX1_readCommand_91 94 rfl 0 rfl rfl rfl (Nat.le_of_ble_eq_true rfl) (cmdW_p4 eo9) ?_
      refine g_iconst hC (1 : Int32) dX1_readCommand_94 95 rfl iconst_1 ?_
      exact g_zret hC hZ rfl dX1_readCommand_95 ⟨_, _, rfl, rfl, h⟩
    · have h := h.2 c
      refine g_aload_n hC dX1_readCommand_64 65 rfl rfl 0 rfl ?_
      refine g_aload_n hC dX1_readCommand_65 66 rfl rfl 1 rfl ?_
      refine g_iload_n hC dX1_readCommand_66 67 rfl rfl 2 rfl ?_
      refine g_callL hC (gTx_at hLx1) hLx1 (ct_J0_charAt_5068e l g x1 (gBs x1) (gTx_at hLx1) hLx1 x2 _ h) gY_J0_charAt_5068e dX1_readCommand_67 70 rfl ml_X1_58 [.ref (a 0)] rfl rfl rfl rfl ⟨Nat.le_of_ble_eq_true rfl, Nat.le_of_ble_eq_true rfl⟩ (Nat.le_of_ble_eq_true rfl) ⟨Nat.le_refl _, Nat.le_refl _⟩ (fun v10 h => ?_)
      refine g_ownI hC (ct_X1_readPart l g a o v10 _ h) gY_X1_readPart dX1_readCommand_70 73 rfl ml_X1_62 [] rfl rfl rfl 0 5 rfl rfl ⟨Nat.le_of_ble_eq_true rfl, Nat.le_of_ble_eq_true rfl⟩ (Nat.le_of_ble_eq_true rfl) ⟨Nat.le_refl _, Nat.le_refl _⟩ (fun v12 o11 h => ?_)
      refine g_if_ne hC dX1_readCommand_73 78 (by decide) 76 rfl (fun c => ?_) (fun c => ?_)
      · have h := h.1 c
        obtain ⟨v13, ev13⟩ : ∃ y : Int32, y = x2 + (1 : Int32) := ⟨_, rfl⟩
        have h := h v13 ev13
        refine g_iinc (v2 := v13) (lv2 := [(2, .int v13), (0, .ref (a 0)), (1, .ref (g.2.2.1 x1))]) hC dX1_readCommand_78 81 rfl 2 rfl (by rw [iconst_1, ev13]) (by decide) rfl ?_
        refine g_goto hC dX1_readCommand_81 56 (by decide) ?_
        refine g_lv (lv2 := [(0, .ref (a 0)), (1, .ref (g.2.2.1 x1)), (2, .int v13)]) [1, 2, 0] rfl ?_
        exact ih o11 x1 v13 h
      · have h := h.2 c
        refine g_iconst hC (0 : Int32) dX1_readCommand_76 77 rfl iconst_0 ?_
        exact g_zret hC hZ rfl dX1_readCommand_77 ⟨_, _, rfl, rfl, h⟩
set_option maxRecDepth 100000 in
set_option maxHeartbeats 4000000 in
theorem ct_X1_readCommand (l : Launch) (g : gE) (a : Nat → Nat) (o : Off) (post : Int32 → Off → Prop) (h : wp_X1_readCommand post o ) : Fn l g yX1_readCommand cX1_readCommand 3 (some .boolean) 6 133 0 0 (cmdW g a o) [.ref (a 0)] (pI (cmdW g a) post) := by
  refine Fn.of (by decide) (Nat.le_of_ble_eq_true rfl) (fun x hC hZ => ?_)
  rw [wp_X1_readCommand] at h
  show G x g 3 0 0 (cmdW g a o) 0 [(0, .ref (a 0))] []
  refine g_aload_n hC dX1_readCommand_0 1 rfl rfl 0 rfl ?_
  refine g_readV hC (ct_X1_here l g a o  _ h) gY_X1_here dX1_readCommand_1 4 rfl ml_X1_40 [] [] (by simp only [List.nil_append, List.append_nil]) [] rfl rfl rfl 0 5 rfl rfl ⟨Nat.le_of_ble_eq_true rfl, Nat.le_of_ble_eq_true rfl⟩ (Nat.le_of_ble_eq_true rfl) ⟨Nat.le_refl _, Nat.le_refl _⟩ (fun v1 h => ?_)
  refine g_readSL hC (ct_X1_formOf l g v1 _ h) gY_X1_formOf dX1_readCommand_4 7 rfl ml_X1_44 [] rfl rfl ⟨Nat.le_of_ble_eq_true rfl, Nat.le_of_ble_eq_true rfl⟩ (Nat.le_of_ble_eq_true rfl) ⟨Nat.le_refl _, Nat.le_refl _⟩ (fun v2 h => ?_)
  obtain ⟨hLv2, h⟩ := h
  refine g_astore_n (lv2 := [(1, .ref (g.2.2.1 v2)), (0, .ref (a 0))]) hC dX1_readCommand_7 8 rfl rfl (by decide) rfl ?_
  refine g_aload_n hC dX1_readCommand_8 9 rfl rfl 0 rfl ?_
  refine g_callL hC (gTx_at hLv2) hLv2 (ct_J0_isEmpty_aae02 l g v2 (gBs v2) (gTx_at hLv2) hLv2  _ h) gY_J0_isEmpty_aae02 dX1_readCommand_9 12 rfl ml_X1_48 [] rfl rfl rfl rfl ⟨Nat.le_of_ble_eq_true rfl, Nat.le_of_ble_eq_true rfl⟩ (Nat.le_of_ble_eq_true rfl) ⟨Nat.le_refl _, Nat.le_refl _⟩ (fun v3 h => ?_)
  refine g_if_ne hC dX1_readCommand_12 24 (by decide) 15 rfl (fun c => ?_) (fun c => ?_)
  · have h := h.1 c
    refine g_iconst hC (0 : Int32) dX1_readCommand_24 25 rfl iconst_0 ?_
    exact g_zret hC hZ rfl dX1_readCommand_25 ⟨_, _, rfl, rfl, h⟩
  · have h := h.2 c
    refine g_aload_n hC dX1_readCommand_15 16 rfl rfl 1 rfl ?_
    refine g_get hC fl_X1_26 dX1_readCommand_16 19 rfl 0 rfl rfl ?_
    refine g_bipush hC (20 : Int32) dX1_readCommand_19 21 rfl bipush_20 ?_
    refine g_icmp_lt hC dX1_readCommand_21 26 (by decide) 24 rfl (fun c => ?_) (fun c => ?_)
    · have h := h.1 c
      refine g_aload_n hC dX1_readCommand_26 27 rfl rfl 1 rfl ?_
      refine g_get hC fl_X1_15 dX1_readCommand_27 30 rfl 0 rfl rfl ?_
      refine g_aload_n hC dX1_readCommand_30 31 rfl rfl 1 rfl ?_
      refine g_get hC fl_X1_26 dX1_readCommand_31 34 rfl 0 rfl rfl ?_
      refine g_aload_n hC dX1_readCommand_34 35 rfl rfl 1 rfl ?_
      refine g_readV hC (ct_X1_here l g a o  _ h) gY_X1_here dX1_readCommand_35 38 rfl ml_X1_40 [] [] (by simp only [List.nil_append, List.append_nil]) [.int (o 0 4), .ref (a 2)] rfl rfl rfl 0 5 rfl rfl ⟨Nat.le_of_ble_eq_true rfl, Nat.le_of_ble_eq_true rfl⟩ (Nat.le_of_ble_eq_true rfl) ⟨Nat.le_refl _, Nat.le_refl _⟩ (fun v4 h => ?_)
      obtain ⟨hi, h⟩ := h
      obtain ⟨o5, eo5⟩ : ∃ y : Off, y = st o 2 (o 0 4).toNatClampNeg v4 := ⟨_, rfl⟩
      have h := h o5 eo5
      refine g_iast hC dX1_readCommand_38 39 rfl 2 rfl hi (cmdW_s2 eo5) ?_
      refine g_aload_n hC dX1_readCommand_39 40 rfl rfl 1 rfl ?_
      refine g_dup hC dX1_readCommand_40 41 rfl rfl ?_
      refine g_get hC fl_X1_33 dX1_readCommand_41 44 rfl 0 rfl rfl ?_
      refine g_iconst hC (1 : Int32) dX1_readCommand_44 45 rfl iconst_1 ?_
      refine g_iadd hC dX1_readCommand_45 46 rfl ?_
      obtain ⟨o6, eo6⟩ : ∃ y : Off, y = st o5 0 5 ((o5 0 5) + (1 : Int32)) := ⟨_, rfl⟩
      have h := h o6 eo6
      refine g_put hC fp_X1_33 dX1_readCommand_46 49 rfl 0 rfl rfl rfl (Nat.le_of_ble_eq_true rfl) (cmdW_p5 eo6) ?_
      refine g_aload_n hC dX1_readCommand_49 50 rfl rfl 1 rfl ?_
      refine g_iconst hC (0 : Int32) dX1_readCommand_50 51 rfl iconst_0 ?_
      obtain ⟨o7, eo7⟩ : ∃ y : Off, y = st o6 0 6 (0 : Int32) := ⟨_, rfl⟩
      have h := h o7 eo7
      refine g_put hC fp_X1_53 dX1_readCommand_51 54 rfl 0 rfl rfl rfl (Nat.le_of_ble_eq_true rfl) (cmdW_p6 eo7) ?_
      refine g_iconst hC (0 : Int32) dX1_readCommand_54 55 rfl iconst_0 ?_
      refine g_istore_n (lv2 := [(2, .int (0 : Int32)), (1, .ref (g.2.2.1 v2)), (0, .ref (a 0))]) hC dX1_readCommand_55 56 rfl rfl (by decide) rfl ?_
      refine g_lv (lv2 := [(0, .ref (a 0)), (1, .ref (g.2.2.1 v2)), (2, .int (0 : Int32))]) [2, 1, 0] rfl ?_
      obtain ⟨m, h⟩ := h
      exact lp_X1_readCommand_56 hC hZ m o7 v2 (0 : Int32) h
    · have h := h.2 c
      refine g_iconst hC (0 : Int32) dX1_readCommand_24 25 rfl iconst_0 ?_
      exact g_zret hC hZ rfl dX1_readCommand_25 ⟨_, _, rfl, rfl, h⟩
def wl_X1_readAll_7 (post : Int32 → Off → Prop) : Nat → Off → Int32 → Prop
  | 0, _, _ => False
  | n + 1, o, x1 => (((20 : Int32) < x1 → post (o 0 5) o) ∧ (¬ (20 : Int32) < x1 → wp_X1_readCommand (fun v3 o2 => ((¬ v3 = 0 → (((o2 0 5) < (o2 0 3) → wp_X1_here (fun v4 => ((v4 = (59 : Int32) → (∀ o5 : Off, o5 = st o2 0 5 ((o2 0 5) + (1 : Int32)) → (∀ v6 : Int32, v6 = x1 + (1 : Int32) → wl_X1_readAll_7 post n o5 v6))) ∧ (¬ v4 = (59 : Int32) → post (o2 0 5) o2))) o2 ) ∧ (¬ (o2 0 5) < (o2 0 3) → post (-1 : Int32) o2))) ∧ (v3 = 0 → post (o2 0 5) o2))) o ))
def wp_X1_readAll (post : Int32 → Off → Prop) (o : Off) : Prop := (∀ o1 : Off, o1 = st o 0 5 (0 : Int32) → (∃ m : Nat, wl_X1_readAll_7 post m o1 (0 : Int32)))
set_option maxRecDepth 100000 in
set_option maxHeartbeats 4000000 in
theorem lp_X1_readAll_7 {x : gX} {l : Launch} {g : gE} {a : Nat → Nat} {o0 : Off} {post : Int32 → Off → Prop} (hC : gC x l cX1_readAll 2 RX1 g 7 155 0 0) (hZ : gZ x g (some .int) (cmdW g a o0) (pI (cmdW g a) post) 0 0) : ∀ (n : Nat) (o : Off) (x1 : Int32) , wl_X1_readAll_7 post n o x1 → G x g 2 0 0 (cmdW g a o) 7 [(0, .ref (a 0)), (1, .int x1)] [] := by
  intro n
  induction n with
  | zero =>
    intro o x1 h
    exact h.elim
  | succ n ih =>
    intro o x1 h
    rw [wl_X1_readAll_7] at h
    refine g_iload_n hC dX1_readAll_7 8 rfl rfl 1 rfl ?_
    refine g_bipush hC (20 : Int32) dX1_readAll_8 10 rfl bipush_20 ?_
    refine g_icmp_gt hC dX1_readAll_10 68 (by decide) 13 rfl (fun c => ?_) (fun c => ?_)
    · have h := h.1 c
      refine g_aload_n hC dX1_readAll_68 69 rfl rfl 0 rfl ?_
      refine g_get hC fl_X1_33 dX1_readAll_69 72 rfl 0 rfl rfl ?_
      exact g_iret hC hZ dX1_readAll_72 ⟨_, _, rfl, rfl, h⟩
    · have h := h.2 c
      refine g_aload_n hC dX1_readAll_13 14 rfl rfl 0 rfl ?_
      refine g_ownI hC (ct_X1_readCommand l g a o  _ h) gY_X1_readCommand dX1_readAll_14 17 rfl ml_X1_36 [] rfl rfl rfl 0 5 rfl rfl ⟨Nat.le_of_ble_eq_true rfl, Nat.le_of_ble_eq_true rfl⟩ (Nat.le_of_ble_eq_true rfl) ⟨Nat.le_refl _, Nat.le_refl _⟩ (fun v3 o2 h => ?_)
      refine g_if_ne hC dX1_readAll_17 25 (by decide) 20 rfl (fun c => ?_) (fun c => ?_)
      · have h := h.1 c
        refine g_aload_n hC dX1_readAll_25 26 rfl rfl 0 rfl ?_
        refine g_get hC fl_X1_33 dX1_readAll_26 29 rfl 0 rfl rfl ?_
        refine g_aload_n hC dX1_readAll_29 30 rfl rfl 0 rfl ?_
        refine g_get hC fl_X1_22 dX1_readAll_30 33 rfl 0 rfl rfl ?_
        refine g_icmp_lt hC dX1_readAll_33 38 (by decide) 36 rfl (fun c => ?_) (fun c => ?_)
        · have h := h.1 c
          refine g_aload_n hC dX1_readAll_38 39 rfl rfl 0 rfl ?_
          refine g_readV hC (ct_X1_here l g a o2  _ h) gY_X1_here dX1_readAll_39 42 rfl ml_X1_40 [] [] (by simp only [List.nil_append, List.append_nil]) [] rfl rfl rfl 0 5 rfl rfl ⟨Nat.le_of_ble_eq_true rfl, Nat.le_of_ble_eq_true rfl⟩ (Nat.le_of_ble_eq_true rfl) ⟨Nat.le_refl _, Nat.le_refl _⟩ (fun v4 h => ?_)
          refine g_bipush hC (59 : Int32) dX1_readAll_42 44 rfl bipush_59 ?_
          refine g_icmp_eq hC dX1_readAll_44 52 (by decide) 47 rfl (fun c => ?_) (fun c => ?_)
          · have h := h.1 c
            refine g_aload_n hC dX1_readAll_52 53 rfl rfl 0 rfl ?_
            refine g_dup hC dX1_readAll_53 54 rfl rfl ?_
            refine g_get hC fl_X1_33 dX1_readAll_54 57 rfl 0 rfl rfl ?_
            refine g_iconst hC (1 : Int32) dX1_readAll_57 58 rfl iconst_1 ?_
            refine g_iadd hC dX1_readAll_58 59 rfl ?_
            obtain ⟨o5, eo5⟩ : ∃ y : Off, y = st o2 0 5 ((o2 0 5) + (1 : Int32)) := ⟨_, rfl⟩
            have h := h o5 eo5
            refine g_put hC fp_X1_33 dX1_readAll_59 62 rfl 0 rfl rfl rfl (Nat.le_of_ble_eq_true rfl) (cmdW_p5 eo5) ?_
            obtain ⟨v6, ev6⟩ : ∃ y : Int32, y = x1 + (1 : Int32) := ⟨_, rfl⟩
            have h := h v6 ev6
            refine g_iinc (v2 := v6) (lv2 := [(1, .int v6), (0, .ref (a 0))]) hC dX1_readAll_62 65 rfl 1 rfl (by rw [iconst_1, ev6]) (by decide) rfl ?_
            refine g_goto hC dX1_readAll_65 7 (by decide) ?_
            refine g_lv (lv2 := [(0, .ref (a 0)), (1, .int v6)]) [1, 0] rfl ?_
            exact ih o5 v6 h
          · have h := h.2 c
            refine g_aload_n hC dX1_readAll_47 48 rfl rfl 0 rfl ?_
            refine g_get hC fl_X1_33 dX1_readAll_48 51 rfl 0 rfl rfl ?_
            exact g_iret hC hZ dX1_readAll_51 ⟨_, _, rfl, rfl, h⟩
        · have h := h.2 c
          refine g_iconst hC (-1 : Int32) dX1_readAll_36 37 rfl iconst_m1 ?_
          exact g_iret hC hZ dX1_readAll_37 ⟨_, _, rfl, rfl, h⟩
      · have h := h.2 c
        refine g_aload_n hC dX1_readAll_20 21 rfl rfl 0 rfl ?_
        refine g_get hC fl_X1_33 dX1_readAll_21 24 rfl 0 rfl rfl ?_
        exact g_iret hC hZ dX1_readAll_24 ⟨_, _, rfl, rfl, h⟩
set_option maxRecDepth 100000 in
set_option maxHeartbeats 4000000 in
theorem ct_X1_readAll (l : Launch) (g : gE) (a : Nat → Nat) (o : Off) (post : Int32 → Off → Prop) (h : wp_X1_readAll post o ) : Fn l g yX1_readAll cX1_readAll 2 (some .int) 7 155 0 0 (cmdW g a o) [.ref (a 0)] (pI (cmdW g a) post) := by
  refine Fn.of (by decide) (Nat.le_of_ble_eq_true rfl) (fun x hC hZ => ?_)
  rw [wp_X1_readAll] at h
  show G x g 2 0 0 (cmdW g a o) 0 [(0, .ref (a 0))] []
  refine g_aload_n hC dX1_readAll_0 1 rfl rfl 0 rfl ?_
  refine g_iconst hC (0 : Int32) dX1_readAll_1 2 rfl iconst_0 ?_
  obtain ⟨o1, eo1⟩ : ∃ y : Off, y = st o 0 5 (0 : Int32) := ⟨_, rfl⟩
  have h := h o1 eo1
  refine g_put hC fp_X1_33 dX1_readAll_2 5 rfl 0 rfl rfl rfl (Nat.le_of_ble_eq_true rfl) (cmdW_p5 eo1) ?_
  refine g_iconst hC (0 : Int32) dX1_readAll_5 6 rfl iconst_0 ?_
  refine g_istore_n (lv2 := [(1, .int (0 : Int32)), (0, .ref (a 0))]) hC dX1_readAll_6 7 rfl rfl (by decide) rfl ?_
  refine g_lv (lv2 := [(0, .ref (a 0)), (1, .int (0 : Int32))]) [1, 0] rfl ?_
  obtain ⟨m, h⟩ := h
  exact lp_X1_readAll_7 hC hZ m o1 (0 : Int32) h
def wp_X1_read (post : Int32 → Off → Prop) (o : Off) : Prop := (∀ o1 : Off, o1 = st o 0 4 (0 : Int32) → wp_X1_readAll (fun v3 o2 => (∀ o4 : Off, o4 = st o2 0 3 (0 : Int32) → post v3 o4)) o1 )
set_option maxRecDepth 100000 in
set_option maxHeartbeats 4000000 in
theorem ct_X1_read (l : Launch) (g : gE) (a : Nat → Nat) (o : Off) (post : Int32 → Off → Prop) (h : wp_X1_read post o ) : Fn l g yX1_read cX1_read 2 (some .int) 8 176 0 0 (cmdW g a o) [.ref (a 0)] (pI (cmdW g a) post) := by
  refine Fn.of (by decide) (Nat.le_of_ble_eq_true rfl) (fun x hC hZ => ?_)
  rw [wp_X1_read] at h
  show G x g 2 0 0 (cmdW g a o) 0 [(0, .ref (a 0))] []
  refine g_aload_n hC dX1_read_0 1 rfl rfl 0 rfl ?_
  refine g_iconst hC (0 : Int32) dX1_read_1 2 rfl iconst_0 ?_
  obtain ⟨o1, eo1⟩ : ∃ y : Off, y = st o 0 4 (0 : Int32) := ⟨_, rfl⟩
  have h := h o1 eo1
  refine g_put hC fp_X1_26 dX1_read_2 5 rfl 0 rfl rfl rfl (Nat.le_of_ble_eq_true rfl) (cmdW_p4 eo1) ?_
  refine g_aload_n hC dX1_read_5 6 rfl rfl 0 rfl ?_
  refine g_ownI hC (ct_X1_readAll l g a o1  _ h) gY_X1_readAll dX1_read_6 9 rfl ml_X1_29 [] rfl rfl rfl 0 5 rfl rfl ⟨Nat.le_of_ble_eq_true rfl, Nat.le_of_ble_eq_true rfl⟩ (Nat.le_of_ble_eq_true rfl) ⟨Nat.le_refl _, Nat.le_refl _⟩ (fun v3 o2 h => ?_)
  refine g_istore_n (lv2 := [(1, .int v3), (0, .ref (a 0))]) hC dX1_read_9 10 rfl rfl (by decide) rfl ?_
  refine g_aload_n hC dX1_read_10 11 rfl rfl 1 rfl ?_
  refine g_iconst hC (0 : Int32) dX1_read_11 12 rfl iconst_0 ?_
  obtain ⟨o4, eo4⟩ : ∃ y : Off, y = st o2 0 3 (0 : Int32) := ⟨_, rfl⟩
  have h := h o4 eo4
  refine g_put hC fp_X1_22 dX1_read_12 15 rfl 0 rfl rfl rfl (Nat.le_of_ble_eq_true rfl) (cmdW_p3 eo4) ?_
  refine g_iload_n hC dX1_read_15 16 rfl rfl 0 rfl ?_
  exact g_iret hC hZ dX1_read_16 ⟨_, _, rfl, rfl, h⟩
