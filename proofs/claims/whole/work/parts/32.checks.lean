def wp_X0_because (post : Int32 → Off → Prop) (o : Off) (p0 : Int32) (p1 : Int32) : Prop := (∀ o1 : Off, o1 = st o 12 0 p1 → post p0 o1)
set_option maxRecDepth 100000 in
set_option maxHeartbeats 4000000 in
theorem ct_X0_because (l : Launch) (g : gE) (b : Nat) (a : Nat → Nat) (o : Off) (p0 : Int32) (p1 : Int32) (post : Int32 → Off → Prop) (h : wp_X0_because post o p0 p1) : Fn l g yX0_because cX0_because 3 (some .int) 0 0 0 0 (chkW g b a o) [.ref b, .int p0, .int p1] (pI (chkW g b a) post) := by
  refine Fn.of (by decide) (Nat.le_of_ble_eq_true rfl) (fun x hC hZ => ?_)
  rw [wp_X0_because] at h
  show G x g 3 0 0 (chkW g b a o) 0 [(0, .ref b), (1, .int p0), (2, .int p1)] []
  refine g_aload_n hC dX0_because_0 1 rfl rfl 0 rfl ?_
  refine g_iload_n hC dX0_because_1 2 rfl rfl 2 rfl ?_
  obtain ⟨o1, eo1⟩ : ∃ y : Off, y = st o 12 0 p1 := ⟨_, rfl⟩
  have h := h o1 eo1
  refine g_put hC fp_X0_18 dX0_because_2 5 rfl 0 rfl rfl rfl (Nat.le_of_ble_eq_true rfl) (chkW_p1 eo1) ?_
  refine g_iload_n hC dX0_because_5 6 rfl rfl 1 rfl ?_
  exact g_iret hC hZ dX0_because_6 ⟨_, _, rfl, rfl, h⟩
def wp_X0_adding (post : Int32 → Off → Prop) (o : Off) (p0 : Int32) (p1 : Int32) : Prop := wp_J0_indexOf_0f7a4 (fun v1 => ((v1 < 0 → post (-2 : Int32) o) ∧ (¬ v1 < 0 → ((p1 < (1 : Int32) → post (-2 : Int32) o) ∧ (¬ p1 < (1 : Int32) → ((p1 ≤ (9 : Int32) → (((o 0 0) < (14 : Int32) → post (0 : Int32) o) ∧ (¬ (o 0 0) < (14 : Int32) → wp_X0_because (fun v3 o2 => post v3 o2) o (1 : Int32) (14 : Int32)))) ∧ (¬ p1 ≤ (9 : Int32) → post (-2 : Int32) o))))))) [114, 103, 98, 119] p0
set_option maxRecDepth 100000 in
set_option maxHeartbeats 4000000 in
theorem ct_X0_adding (l : Launch) (g : gE) (b : Nat) (a : Nat → Nat) (o : Off) (p0 : Int32) (p1 : Int32) (post : Int32 → Off → Prop) (h : wp_X0_adding post o p0 p1) : Fn l g yX0_adding cX0_adding 3 (some .int) 4 91 0 0 (chkW g b a o) [.ref b, .int p0, .int p1] (pI (chkW g b a) post) := by
  refine Fn.of (by decide) (Nat.le_of_ble_eq_true rfl) (fun x hC hZ => ?_)
  rw [wp_X0_adding] at h
  show G x g 3 0 0 (chkW g b a o) 0 [(0, .ref b), (1, .int p0), (2, .int p1)] []
  refine g_litS (i := 1) hC rfl dX0_adding_0 2 rfl ?_
  refine g_iload_n hC dX0_adding_2 3 rfl rfl 1 rfl ?_
  refine g_callL hC rfl (by decide) (ct_J0_indexOf_0f7a4 l g 1 [114, 103, 98, 119] rfl (by decide) p0 _ h) gY_J0_indexOf_0f7a4 dX0_adding_3 6 rfl ml_X0_24 [] rfl rfl rfl rfl ⟨Nat.le_of_ble_eq_true rfl, Nat.le_of_ble_eq_true rfl⟩ (Nat.le_of_ble_eq_true rfl) ⟨Nat.le_refl _, Nat.le_refl _⟩ (fun v1 h => ?_)
  refine g_if_lt hC dX0_adding_6 20 (by decide) 9 rfl (fun c => ?_) (fun c => ?_)
  · have h := h.1 c
    refine g_bipush hC (-2 : Int32) dX0_adding_20 22 rfl bipush_m2 ?_
    exact g_iret hC hZ dX0_adding_22 ⟨_, _, rfl, rfl, h⟩
  · have h := h.2 c
    refine g_iload_n hC dX0_adding_9 10 rfl rfl 2 rfl ?_
    refine g_iconst hC (1 : Int32) dX0_adding_10 11 rfl iconst_1 ?_
    refine g_icmp_lt hC dX0_adding_11 20 (by decide) 14 rfl (fun c => ?_) (fun c => ?_)
    · have h := h.1 c
      refine g_bipush hC (-2 : Int32) dX0_adding_20 22 rfl bipush_m2 ?_
      exact g_iret hC hZ dX0_adding_22 ⟨_, _, rfl, rfl, h⟩
    · have h := h.2 c
      refine g_iload_n hC dX0_adding_14 15 rfl rfl 2 rfl ?_
      refine g_bipush hC (9 : Int32) dX0_adding_15 17 rfl bipush_9 ?_
      refine g_icmp_le hC dX0_adding_17 23 (by decide) 20 rfl (fun c => ?_) (fun c => ?_)
      · have h := h.1 c
        refine g_aload_n hC dX0_adding_23 24 rfl rfl 0 rfl ?_
        refine g_get hC fl_X0_12 dX0_adding_24 27 rfl 0 rfl rfl ?_
        refine g_get hC fl_X0_30 dX0_adding_27 30 rfl 1 rfl rfl ?_
        refine g_bipush hC (14 : Int32) dX0_adding_30 32 rfl bipush_14 ?_
        refine g_icmp_lt hC dX0_adding_32 45 (by decide) 35 rfl (fun c => ?_) (fun c => ?_)
        · have h := h.1 c
          refine g_iconst hC (0 : Int32) dX0_adding_45 46 rfl iconst_0 ?_
          exact g_iret hC hZ dX0_adding_46 ⟨_, _, rfl, rfl, h⟩
        · have h := h.2 c
          refine g_aload_n hC dX0_adding_35 36 rfl rfl 0 rfl ?_
          refine g_iconst hC (1 : Int32) dX0_adding_36 37 rfl iconst_1 ?_
          refine g_bipush hC (14 : Int32) dX0_adding_37 39 rfl bipush_14 ?_
          refine g_ownI hC (ct_X0_because l g b a o (1 : Int32) (14 : Int32) _ h) gY_X0_because dX0_adding_39 42 rfl ml_X0_33 [] rfl rfl rfl 0 4 rfl rfl ⟨Nat.le_of_ble_eq_true rfl, Nat.le_of_ble_eq_true rfl⟩ (Nat.le_of_ble_eq_true rfl) ⟨Nat.le_refl _, Nat.le_refl _⟩ (fun v3 o2 h => ?_)
          refine g_goto hC dX0_adding_42 46 (by decide) ?_
          exact g_iret hC hZ dX0_adding_46 ⟨_, _, rfl, rfl, h⟩
      · have h := h.2 c
        refine g_bipush hC (-2 : Int32) dX0_adding_20 22 rfl bipush_m2 ?_
        exact g_iret hC hZ dX0_adding_22 ⟨_, _, rfl, rfl, h⟩
def wp_X0_applying (post : Int32 → Off → Prop) (o : Off) (p0 : Int32) (p1 : Int32) : Prop := wp_X3_isSock (fun v1 => ((v1 = 0 → post (-1 : Int32) o) ∧ (¬ v1 = 0 → wp_X3_isDrawer (fun v2 => ((¬ v2 = 0 → (vp_in p0 14 ∧ (((o 3 p0.toNatClampNeg) = 0 → post (0 : Int32) o) ∧ (¬ (o 3 p0.toNatClampNeg) = 0 → (vp_in p0 14 ∧ wp_X0_because (fun v4 o3 => post v4 o3) o (2 : Int32) (o 4 p0.toNatClampNeg)))))) ∧ (v2 = 0 → post (-1 : Int32) o))) p1))) o p0
set_option maxRecDepth 100000 in
set_option maxHeartbeats 4000000 in
theorem ct_X0_applying (l : Launch) (g : gE) (b : Nat) (a : Nat → Nat) (o : Off) (p0 : Int32) (p1 : Int32) (post : Int32 → Off → Prop) (h : wp_X0_applying post o p0 p1) : Fn l g yX0_applying cX0_applying 3 (some .int) 1 22 0 0 (chkW g b a o) [.ref b, .int p0, .int p1] (pI (chkW g b a) post) := by
  refine Fn.of (by decide) (Nat.le_of_ble_eq_true rfl) (fun x hC hZ => ?_)
  rw [wp_X0_applying] at h
  show G x g 3 0 0 (chkW g b a o) 0 [(0, .ref b), (1, .int p0), (2, .int p1)] []
  refine g_aload_n hC dX0_applying_0 1 rfl rfl 0 rfl ?_
  refine g_get hC fl_X0_12 dX0_applying_1 4 rfl 0 rfl rfl ?_
  refine g_iload_n hC dX0_applying_4 5 rfl rfl 1 rfl ?_
  refine g_readV hC (ct_X3_isSock l g a o p0 _ h) gY_X3_isSock dX0_applying_5 8 rfl ml_X0_37 [(b, .inr (4, [.ref (a 0), .int (o 12 0)]))] [] (by rw [List.append_nil]; rfl) [] rfl rfl rfl 0 7 rfl rfl ⟨Nat.le_of_ble_eq_true rfl, Nat.le_of_ble_eq_true rfl⟩ (Nat.le_of_ble_eq_true rfl) ⟨Nat.le_refl _, Nat.le_refl _⟩ (fun v1 h => ?_)
  refine g_if_eq hC dX0_applying_8 18 (by decide) 11 rfl (fun c => ?_) (fun c => ?_)
  · have h := h.1 c
    refine g_iconst hC (-1 : Int32) dX0_applying_18 19 rfl iconst_m1 ?_
    exact g_iret hC hZ dX0_applying_19 ⟨_, _, rfl, rfl, h⟩
  · have h := h.2 c
    refine g_iload_n hC dX0_applying_11 12 rfl rfl 2 rfl ?_
    refine g_readS hC (ct_X3_isDrawer l g p1 _ h) gY_X3_isDrawer dX0_applying_12 15 rfl ml_X0_41 [] _ rfl [] rfl rfl ⟨Nat.le_of_ble_eq_true rfl, Nat.le_of_ble_eq_true rfl⟩ (Nat.le_of_ble_eq_true rfl) ⟨Nat.le_refl _, Nat.le_refl _⟩ (fun v2 h => ?_)
    refine g_if_ne hC dX0_applying_15 20 (by decide) 18 rfl (fun c => ?_) (fun c => ?_)
    · have h := h.1 c
      refine g_aload_n hC dX0_applying_20 21 rfl rfl 0 rfl ?_
      refine g_get hC fl_X0_12 dX0_applying_21 24 rfl 0 rfl rfl ?_
      refine g_get hC fl_X0_44 dX0_applying_24 27 rfl 1 rfl rfl ?_
      refine g_iload_n hC dX0_applying_27 28 rfl rfl 1 rfl ?_
      obtain ⟨hi, h⟩ := h
      refine g_iald hC dX0_applying_28 29 rfl 4 rfl hi ?_
      refine g_if_eq hC dX0_applying_29 49 (by decide) 32 rfl (fun c => ?_) (fun c => ?_)
      · have h := h.1 c
        refine g_iconst hC (0 : Int32) dX0_applying_49 50 rfl iconst_0 ?_
        exact g_iret hC hZ dX0_applying_50 ⟨_, _, rfl, rfl, h⟩
      · have h := h.2 c
        refine g_aload_n hC dX0_applying_32 33 rfl rfl 0 rfl ?_
        refine g_iconst hC (2 : Int32) dX0_applying_33 34 rfl iconst_2 ?_
        refine g_aload_n hC dX0_applying_34 35 rfl rfl 0 rfl ?_
        refine g_get hC fl_X0_12 dX0_applying_35 38 rfl 0 rfl rfl ?_
        refine g_get hC fl_X0_48 dX0_applying_38 41 rfl 1 rfl rfl ?_
        refine g_iload_n hC dX0_applying_41 42 rfl rfl 1 rfl ?_
        obtain ⟨hi, h⟩ := h
        refine g_iald hC dX0_applying_42 43 rfl 5 rfl hi ?_
        refine g_ownI hC (ct_X0_because l g b a o (2 : Int32) (o 4 p0.toNatClampNeg) _ h) gY_X0_because dX0_applying_43 46 rfl ml_X0_33 [] rfl rfl rfl 0 4 rfl rfl ⟨Nat.le_of_ble_eq_true rfl, Nat.le_of_ble_eq_true rfl⟩ (Nat.le_of_ble_eq_true rfl) ⟨Nat.le_refl _, Nat.le_refl _⟩ (fun v4 o3 h => ?_)
        refine g_goto hC dX0_applying_46 50 (by decide) ?_
        exact g_iret hC hZ dX0_applying_50 ⟨_, _, rfl, rfl, h⟩
    · have h := h.2 c
      refine g_iconst hC (-1 : Int32) dX0_applying_18 19 rfl iconst_m1 ?_
      exact g_iret hC hZ dX0_applying_19 ⟨_, _, rfl, rfl, h⟩
def wp_X0_withdrawing (post : Int32 → Off → Prop) (o : Off) (p0 : Int32) : Prop := wp_X3_isSock (fun v1 => ((¬ v1 = 0 → wp_X3_hasApplication (fun v2 => ((v2 = 0 → wp_X0_because (fun v4 o3 => post v4 o3) o (3 : Int32) p0) ∧ (¬ v2 = 0 → post (0 : Int32) o))) o p0) ∧ (v1 = 0 → post (-1 : Int32) o))) o p0
set_option maxRecDepth 100000 in
set_option maxHeartbeats 4000000 in
theorem ct_X0_withdrawing (l : Launch) (g : gE) (b : Nat) (a : Nat → Nat) (o : Off) (p0 : Int32) (post : Int32 → Off → Prop) (h : wp_X0_withdrawing post o p0) : Fn l g yX0_withdrawing cX0_withdrawing 2 (some .int) 1 22 0 0 (chkW g b a o) [.ref b, .int p0] (pI (chkW g b a) post) := by
  refine Fn.of (by decide) (Nat.le_of_ble_eq_true rfl) (fun x hC hZ => ?_)
  rw [wp_X0_withdrawing] at h
  show G x g 2 0 0 (chkW g b a o) 0 [(0, .ref b), (1, .int p0)] []
  refine g_aload_n hC dX0_withdrawing_0 1 rfl rfl 0 rfl ?_
  refine g_get hC fl_X0_12 dX0_withdrawing_1 4 rfl 0 rfl rfl ?_
  refine g_iload_n hC dX0_withdrawing_4 5 rfl rfl 1 rfl ?_
  refine g_readV hC (ct_X3_isSock l g a o p0 _ h) gY_X3_isSock dX0_withdrawing_5 8 rfl ml_X0_37 [(b, .inr (4, [.ref (a 0), .int (o 12 0)]))] [] (by rw [List.append_nil]; rfl) [] rfl rfl rfl 0 7 rfl rfl ⟨Nat.le_of_ble_eq_true rfl, Nat.le_of_ble_eq_true rfl⟩ (Nat.le_of_ble_eq_true rfl) ⟨Nat.le_refl _, Nat.le_refl _⟩ (fun v1 h => ?_)
  refine g_if_ne hC dX0_withdrawing_8 13 (by decide) 11 rfl (fun c => ?_) (fun c => ?_)
  · have h := h.1 c
    refine g_aload_n hC dX0_withdrawing_13 14 rfl rfl 0 rfl ?_
    refine g_get hC fl_X0_12 dX0_withdrawing_14 17 rfl 0 rfl rfl ?_
    refine g_iload_n hC dX0_withdrawing_17 18 rfl rfl 1 rfl ?_
    refine g_readV hC (ct_X3_hasApplication l g a o p0 _ h) gY_X3_hasApplication dX0_withdrawing_18 21 rfl ml_X0_51 [(b, .inr (4, [.ref (a 0), .int (o 12 0)]))] [] (by rw [List.append_nil]; rfl) [] rfl rfl rfl 0 7 rfl rfl ⟨Nat.le_of_ble_eq_true rfl, Nat.le_of_ble_eq_true rfl⟩ (Nat.le_of_ble_eq_true rfl) ⟨Nat.le_refl _, Nat.le_refl _⟩ (fun v2 h => ?_)
    refine g_if_eq hC dX0_withdrawing_21 28 (by decide) 24 rfl (fun c => ?_) (fun c => ?_)
    · have h := h.1 c
      refine g_aload_n hC dX0_withdrawing_28 29 rfl rfl 0 rfl ?_
      refine g_iconst hC (3 : Int32) dX0_withdrawing_29 30 rfl iconst_3 ?_
      refine g_iload_n hC dX0_withdrawing_30 31 rfl rfl 1 rfl ?_
      refine g_ownI hC (ct_X0_because l g b a o (3 : Int32) p0 _ h) gY_X0_because dX0_withdrawing_31 34 rfl ml_X0_33 [] rfl rfl rfl 0 4 rfl rfl ⟨Nat.le_of_ble_eq_true rfl, Nat.le_of_ble_eq_true rfl⟩ (Nat.le_of_ble_eq_true rfl) ⟨Nat.le_refl _, Nat.le_refl _⟩ (fun v4 o3 h => ?_)
      exact g_iret hC hZ dX0_withdrawing_34 ⟨_, _, rfl, rfl, h⟩
    · have h := h.2 c
      refine g_iconst hC (0 : Int32) dX0_withdrawing_24 25 rfl iconst_0 ?_
      refine g_goto hC dX0_withdrawing_25 34 (by decide) ?_
      exact g_iret hC hZ dX0_withdrawing_34 ⟨_, _, rfl, rfl, h⟩
  · have h := h.2 c
    refine g_iconst hC (-1 : Int32) dX0_withdrawing_11 12 rfl iconst_m1 ?_
    exact g_iret hC hZ dX0_withdrawing_12 ⟨_, _, rfl, rfl, h⟩
def wp_X0_appealing (post : Int32 → Off → Prop) (o : Off) (p0 : Int32) : Prop := wp_X3_isSock (fun v1 => ((¬ v1 = 0 → (vp_in p0 14 ∧ (((o 3 p0.toNatClampNeg) = (2 : Int32) → (vp_in p0 14 ∧ (((o 5 p0.toNatClampNeg) < (3 : Int32) → post (0 : Int32) o) ∧ (¬ (o 5 p0.toNatClampNeg) < (3 : Int32) → (vp_in p0 14 ∧ wp_X0_because (fun v3 o2 => post v3 o2) o (5 : Int32) (o 4 p0.toNatClampNeg)))))) ∧ (¬ (o 3 p0.toNatClampNeg) = (2 : Int32) → wp_X0_because (fun v5 o4 => post v5 o4) o (4 : Int32) p0)))) ∧ (v1 = 0 → post (-1 : Int32) o))) o p0
set_option maxRecDepth 100000 in
set_option maxHeartbeats 4000000 in
theorem ct_X0_appealing (l : Launch) (g : gE) (b : Nat) (a : Nat → Nat) (o : Off) (p0 : Int32) (post : Int32 → Off → Prop) (h : wp_X0_appealing post o p0) : Fn l g yX0_appealing cX0_appealing 2 (some .int) 1 22 0 0 (chkW g b a o) [.ref b, .int p0] (pI (chkW g b a) post) := by
  refine Fn.of (by decide) (Nat.le_of_ble_eq_true rfl) (fun x hC hZ => ?_)
  rw [wp_X0_appealing] at h
  show G x g 2 0 0 (chkW g b a o) 0 [(0, .ref b), (1, .int p0)] []
  refine g_aload_n hC dX0_appealing_0 1 rfl rfl 0 rfl ?_
  refine g_get hC fl_X0_12 dX0_appealing_1 4 rfl 0 rfl rfl ?_
  refine g_iload_n hC dX0_appealing_4 5 rfl rfl 1 rfl ?_
  refine g_readV hC (ct_X3_isSock l g a o p0 _ h) gY_X3_isSock dX0_appealing_5 8 rfl ml_X0_37 [(b, .inr (4, [.ref (a 0), .int (o 12 0)]))] [] (by rw [List.append_nil]; rfl) [] rfl rfl rfl 0 7 rfl rfl ⟨Nat.le_of_ble_eq_true rfl, Nat.le_of_ble_eq_true rfl⟩ (Nat.le_of_ble_eq_true rfl) ⟨Nat.le_refl _, Nat.le_refl _⟩ (fun v1 h => ?_)
  refine g_if_ne hC dX0_appealing_8 13 (by decide) 11 rfl (fun c => ?_) (fun c => ?_)
  · have h := h.1 c
    refine g_aload_n hC dX0_appealing_13 14 rfl rfl 0 rfl ?_
    refine g_get hC fl_X0_12 dX0_appealing_14 17 rfl 0 rfl rfl ?_
    refine g_get hC fl_X0_44 dX0_appealing_17 20 rfl 1 rfl rfl ?_
    refine g_iload_n hC dX0_appealing_20 21 rfl rfl 1 rfl ?_
    obtain ⟨hi, h⟩ := h
    refine g_iald hC dX0_appealing_21 22 rfl 4 rfl hi ?_
    refine g_iconst hC (2 : Int32) dX0_appealing_22 23 rfl iconst_2 ?_
    refine g_icmp_eq hC dX0_appealing_23 33 (by decide) 26 rfl (fun c => ?_) (fun c => ?_)
    · have h := h.1 c
      refine g_aload_n hC dX0_appealing_33 34 rfl rfl 0 rfl ?_
      refine g_get hC fl_X0_12 dX0_appealing_34 37 rfl 0 rfl rfl ?_
      refine g_get hC fl_X0_54 dX0_appealing_37 40 rfl 1 rfl rfl ?_
      refine g_iload_n hC dX0_appealing_40 41 rfl rfl 1 rfl ?_
      obtain ⟨hi, h⟩ := h
      refine g_iald hC dX0_appealing_41 42 rfl 6 rfl hi ?_
      refine g_iconst hC (3 : Int32) dX0_appealing_42 43 rfl iconst_3 ?_
      refine g_icmp_lt hC dX0_appealing_43 63 (by decide) 46 rfl (fun c => ?_) (fun c => ?_)
      · have h := h.1 c
        refine g_iconst hC (0 : Int32) dX0_appealing_63 64 rfl iconst_0 ?_
        exact g_iret hC hZ dX0_appealing_64 ⟨_, _, rfl, rfl, h⟩
      · have h := h.2 c
        refine g_aload_n hC dX0_appealing_46 47 rfl rfl 0 rfl ?_
        refine g_iconst hC (5 : Int32) dX0_appealing_47 48 rfl iconst_5 ?_
        refine g_aload_n hC dX0_appealing_48 49 rfl rfl 0 rfl ?_
        refine g_get hC fl_X0_12 dX0_appealing_49 52 rfl 0 rfl rfl ?_
        refine g_get hC fl_X0_48 dX0_appealing_52 55 rfl 1 rfl rfl ?_
        refine g_iload_n hC dX0_appealing_55 56 rfl rfl 1 rfl ?_
        obtain ⟨hi, h⟩ := h
        refine g_iald hC dX0_appealing_56 57 rfl 5 rfl hi ?_
        refine g_ownI hC (ct_X0_because l g b a o (5 : Int32) (o 4 p0.toNatClampNeg) _ h) gY_X0_because dX0_appealing_57 60 rfl ml_X0_33 [] rfl rfl rfl 0 4 rfl rfl ⟨Nat.le_of_ble_eq_true rfl, Nat.le_of_ble_eq_true rfl⟩ (Nat.le_of_ble_eq_true rfl) ⟨Nat.le_refl _, Nat.le_refl _⟩ (fun v3 o2 h => ?_)
        refine g_goto hC dX0_appealing_60 64 (by decide) ?_
        exact g_iret hC hZ dX0_appealing_64 ⟨_, _, rfl, rfl, h⟩
    · have h := h.2 c
      refine g_aload_n hC dX0_appealing_26 27 rfl rfl 0 rfl ?_
      refine g_iconst hC (4 : Int32) dX0_appealing_27 28 rfl iconst_4 ?_
      refine g_iload_n hC dX0_appealing_28 29 rfl rfl 1 rfl ?_
      refine g_ownI hC (ct_X0_because l g b a o (4 : Int32) p0 _ h) gY_X0_because dX0_appealing_29 32 rfl ml_X0_33 [] rfl rfl rfl 0 4 rfl rfl ⟨Nat.le_of_ble_eq_true rfl, Nat.le_of_ble_eq_true rfl⟩ (Nat.le_of_ble_eq_true rfl) ⟨Nat.le_refl _, Nat.le_refl _⟩ (fun v5 o4 h => ?_)
      exact g_iret hC hZ dX0_appealing_32 ⟨_, _, rfl, rfl, h⟩
  · have h := h.2 c
    refine g_iconst hC (-1 : Int32) dX0_appealing_11 12 rfl iconst_m1 ?_
    exact g_iret hC hZ dX0_appealing_12 ⟨_, _, rfl, rfl, h⟩
def wp_X0_deciding (post : Int32 → Prop) (o : Off) (p0 : Int32) : Prop := wp_X3_isDrawer (fun v1 => ((v1 = 0 → post (-1 : Int32)) ∧ (¬ v1 = 0 → post (0 : Int32)))) p0
set_option maxRecDepth 100000 in
set_option maxHeartbeats 4000000 in
theorem ct_X0_deciding (l : Launch) (g : gE) (b : Nat) (a : Nat → Nat) (o : Off) (p0 : Int32) (post : Int32 → Prop) (h : wp_X0_deciding post o p0) : Fn l g yX0_deciding cX0_deciding 2 (some .int) 1 20 0 0 (chkW g b a o) [.ref b, .int p0] (pR (chkW g b a o) post) := by
  refine Fn.of (by decide) (Nat.le_of_ble_eq_true rfl) (fun x hC hZ => ?_)
  rw [wp_X0_deciding] at h
  show G x g 2 0 0 (chkW g b a o) 0 [(0, .ref b), (1, .int p0)] []
  refine g_iload_n hC dX0_deciding_0 1 rfl rfl 1 rfl ?_
  refine g_readS hC (ct_X3_isDrawer l g p0 _ h) gY_X3_isDrawer dX0_deciding_1 4 rfl ml_X0_41 [] _ rfl [] rfl rfl ⟨Nat.le_of_ble_eq_true rfl, Nat.le_of_ble_eq_true rfl⟩ (Nat.le_of_ble_eq_true rfl) ⟨Nat.le_refl _, Nat.le_refl _⟩ (fun v1 h => ?_)
  refine g_if_eq hC dX0_deciding_4 11 (by decide) 7 rfl (fun c => ?_) (fun c => ?_)
  · have h := h.1 c
    refine g_iconst hC (-1 : Int32) dX0_deciding_11 12 rfl iconst_m1 ?_
    exact g_iret hC hZ dX0_deciding_12 ⟨_, rfl, rfl, h⟩
  · have h := h.2 c
    refine g_iconst hC (0 : Int32) dX0_deciding_7 8 rfl iconst_0 ?_
    refine g_goto hC dX0_deciding_8 12 (by decide) ?_
    exact g_iret hC hZ dX0_deciding_12 ⟨_, rfl, rfl, h⟩
def wp_X0_renewing (post : Int32 → Off → Prop) (o : Off) (p0 : Int32) (p1 : Int32) : Prop := wp_X3_isSock (fun v1 => ((¬ v1 = 0 → ((p1 < (1 : Int32) → post (-2 : Int32) o) ∧ (¬ p1 < (1 : Int32) → ((p1 ≤ (9 : Int32) → (vp_in p0 14 ∧ (((o 3 p0.toNatClampNeg) = (3 : Int32) → (vp_in p0 14 ∧ (∀ v2 : Int32, v2 = (o 7 p0.toNatClampNeg) → (((v2 + p1) ≤ ((o 0 1) + (20 : Int32)) → post (0 : Int32) o) ∧ (¬ (v2 + p1) ≤ ((o 0 1) + (20 : Int32)) → wp_X0_because (fun v4 o3 => post v4 o3) o (7 : Int32) v2))))) ∧ (¬ (o 3 p0.toNatClampNeg) = (3 : Int32) → wp_X0_because (fun v6 o5 => post v6 o5) o (6 : Int32) p0)))) ∧ (¬ p1 ≤ (9 : Int32) → post (-2 : Int32) o))))) ∧ (v1 = 0 → post (-1 : Int32) o))) o p0
set_option maxRecDepth 100000 in
set_option maxHeartbeats 4000000 in
theorem ct_X0_renewing (l : Launch) (g : gE) (b : Nat) (a : Nat → Nat) (o : Off) (p0 : Int32) (p1 : Int32) (post : Int32 → Off → Prop) (h : wp_X0_renewing post o p0 p1) : Fn l g yX0_renewing cX0_renewing 4 (some .int) 1 22 0 0 (chkW g b a o) [.ref b, .int p0, .int p1] (pI (chkW g b a) post) := by
  refine Fn.of (by decide) (Nat.le_of_ble_eq_true rfl) (fun x hC hZ => ?_)
  rw [wp_X0_renewing] at h
  show G x g 4 0 0 (chkW g b a o) 0 [(0, .ref b), (1, .int p0), (2, .int p1)] []
  refine g_aload_n hC dX0_renewing_0 1 rfl rfl 0 rfl ?_
  refine g_get hC fl_X0_12 dX0_renewing_1 4 rfl 0 rfl rfl ?_
  refine g_iload_n hC dX0_renewing_4 5 rfl rfl 1 rfl ?_
  refine g_readV hC (ct_X3_isSock l g a o p0 _ h) gY_X3_isSock dX0_renewing_5 8 rfl ml_X0_37 [(b, .inr (4, [.ref (a 0), .int (o 12 0)]))] [] (by rw [List.append_nil]; rfl) [] rfl rfl rfl 0 7 rfl rfl ⟨Nat.le_of_ble_eq_true rfl, Nat.le_of_ble_eq_true rfl⟩ (Nat.le_of_ble_eq_true rfl) ⟨Nat.le_refl _, Nat.le_refl _⟩ (fun v1 h => ?_)
  refine g_if_ne hC dX0_renewing_8 13 (by decide) 11 rfl (fun c => ?_) (fun c => ?_)
  · have h := h.1 c
    refine g_iload_n hC dX0_renewing_13 14 rfl rfl 2 rfl ?_
    refine g_iconst hC (1 : Int32) dX0_renewing_14 15 rfl iconst_1 ?_
    refine g_icmp_lt hC dX0_renewing_15 24 (by decide) 18 rfl (fun c => ?_) (fun c => ?_)
    · have h := h.1 c
      refine g_bipush hC (-2 : Int32) dX0_renewing_24 26 rfl bipush_m2 ?_
      exact g_iret hC hZ dX0_renewing_26 ⟨_, _, rfl, rfl, h⟩
    · have h := h.2 c
      refine g_iload_n hC dX0_renewing_18 19 rfl rfl 2 rfl ?_
      refine g_bipush hC (9 : Int32) dX0_renewing_19 21 rfl bipush_9 ?_
      refine g_icmp_le hC dX0_renewing_21 27 (by decide) 24 rfl (fun c => ?_) (fun c => ?_)
      · have h := h.1 c
        refine g_aload_n hC dX0_renewing_27 28 rfl rfl 0 rfl ?_
        refine g_get hC fl_X0_12 dX0_renewing_28 31 rfl 0 rfl rfl ?_
        refine g_get hC fl_X0_44 dX0_renewing_31 34 rfl 1 rfl rfl ?_
        refine g_iload_n hC dX0_renewing_34 35 rfl rfl 1 rfl ?_
        obtain ⟨hi, h⟩ := h
        refine g_iald hC dX0_renewing_35 36 rfl 4 rfl hi ?_
        refine g_iconst hC (3 : Int32) dX0_renewing_36 37 rfl iconst_3 ?_
        refine g_icmp_eq hC dX0_renewing_37 48 (by decide) 40 rfl (fun c => ?_) (fun c => ?_)
        · have h := h.1 c
          refine g_aload_n hC dX0_renewing_48 49 rfl rfl 0 rfl ?_
          refine g_get hC fl_X0_12 dX0_renewing_49 52 rfl 0 rfl rfl ?_
          refine g_get hC fl_X0_57 dX0_renewing_52 55 rfl 1 rfl rfl ?_
          refine g_iload_n hC dX0_renewing_55 56 rfl rfl 1 rfl ?_
          obtain ⟨hi, h⟩ := h
          refine g_iald hC dX0_renewing_56 57 rfl 8 rfl hi ?_
          refine g_topi (fun v2 ev2 => ?_)
          have h := h v2 ev2
          refine g_istore_n (lv2 := [(3, .int v2), (0, .ref b), (1, .int p0), (2, .int p1)]) hC dX0_renewing_57 58 rfl rfl (by decide) rfl ?_
          refine g_iload_n hC dX0_renewing_58 59 rfl rfl 0 rfl ?_
          refine g_iload_n hC dX0_renewing_59 60 rfl rfl 3 rfl ?_
          refine g_iadd hC dX0_renewing_60 61 rfl ?_
          refine g_aload_n hC dX0_renewing_61 62 rfl rfl 1 rfl ?_
          refine g_get hC fl_X0_12 dX0_renewing_62 65 rfl 0 rfl rfl ?_
          refine g_get hC fl_X0_60 dX0_renewing_65 68 rfl 1 rfl rfl ?_
          refine g_bipush hC (20 : Int32) dX0_renewing_68 70 rfl bipush_20 ?_
          refine g_iadd hC dX0_renewing_70 71 rfl ?_
          refine g_icmp_le hC dX0_renewing_71 84 (by decide) 74 rfl (fun c => ?_) (fun c => ?_)
          · have h := h.1 c
            refine g_iconst hC (0 : Int32) dX0_renewing_84 85 rfl iconst_0 ?_
            exact g_iret hC hZ dX0_renewing_85 ⟨_, _, rfl, rfl, h⟩
          · have h := h.2 c
            refine g_aload_n hC dX0_renewing_74 75 rfl rfl 1 rfl ?_
            refine g_bipush hC (7 : Int32) dX0_renewing_75 77 rfl bipush_7 ?_
            refine g_iload_n hC dX0_renewing_77 78 rfl rfl 0 rfl ?_
            refine g_ownI hC (ct_X0_because l g b a o (7 : Int32) v2 _ h) gY_X0_because dX0_renewing_78 81 rfl ml_X0_33 [] rfl rfl rfl 0 4 rfl rfl ⟨Nat.le_of_ble_eq_true rfl, Nat.le_of_ble_eq_true rfl⟩ (Nat.le_of_ble_eq_true rfl) ⟨Nat.le_refl _, Nat.le_refl _⟩ (fun v4 o3 h => ?_)
            refine g_goto hC dX0_renewing_81 85 (by decide) ?_
            exact g_iret hC hZ dX0_renewing_85 ⟨_, _, rfl, rfl, h⟩
        · have h := h.2 c
          refine g_aload_n hC dX0_renewing_40 41 rfl rfl 0 rfl ?_
          refine g_bipush hC (6 : Int32) dX0_renewing_41 43 rfl bipush_6 ?_
          refine g_iload_n hC dX0_renewing_43 44 rfl rfl 1 rfl ?_
          refine g_ownI hC (ct_X0_because l g b a o (6 : Int32) p0 _ h) gY_X0_because dX0_renewing_44 47 rfl ml_X0_33 [] rfl rfl rfl 0 4 rfl rfl ⟨Nat.le_of_ble_eq_true rfl, Nat.le_of_ble_eq_true rfl⟩ (Nat.le_of_ble_eq_true rfl) ⟨Nat.le_refl _, Nat.le_refl _⟩ (fun v6 o5 h => ?_)
          exact g_iret hC hZ dX0_renewing_47 ⟨_, _, rfl, rfl, h⟩
      · have h := h.2 c
        refine g_bipush hC (-2 : Int32) dX0_renewing_24 26 rfl bipush_m2 ?_
        exact g_iret hC hZ dX0_renewing_26 ⟨_, _, rfl, rfl, h⟩
  · have h := h.2 c
    refine g_iconst hC (-1 : Int32) dX0_renewing_11 12 rfl iconst_m1 ?_
    exact g_iret hC hZ dX0_renewing_12 ⟨_, _, rfl, rfl, h⟩
def wp_X0_leaving (post : Int32 → Off → Prop) (o : Off) (p0 : Int32) : Prop := wp_X3_isSock (fun v1 => ((¬ v1 = 0 → (vp_in p0 14 ∧ (((o 3 p0.toNatClampNeg) = (3 : Int32) → (vp_in p0 14 ∧ (∀ v2 : Int32, v2 = (o 8 p0.toNatClampNeg) → ((v2 = (-1 : Int32) → post (0 : Int32) o) ∧ (¬ v2 = (-1 : Int32) → wp_X0_because (fun v4 o3 => post v4 o3) o (8 : Int32) v2))))) ∧ (¬ (o 3 p0.toNatClampNeg) = (3 : Int32) → wp_X0_because (fun v6 o5 => post v6 o5) o (6 : Int32) p0)))) ∧ (v1 = 0 → post (-1 : Int32) o))) o p0
set_option maxRecDepth 100000 in
set_option maxHeartbeats 4000000 in
theorem ct_X0_leaving (l : Launch) (g : gE) (b : Nat) (a : Nat → Nat) (o : Off) (p0 : Int32) (post : Int32 → Off → Prop) (h : wp_X0_leaving post o p0) : Fn l g yX0_leaving cX0_leaving 3 (some .int) 1 22 0 0 (chkW g b a o) [.ref b, .int p0] (pI (chkW g b a) post) := by
  refine Fn.of (by decide) (Nat.le_of_ble_eq_true rfl) (fun x hC hZ => ?_)
  rw [wp_X0_leaving] at h
  show G x g 3 0 0 (chkW g b a o) 0 [(0, .ref b), (1, .int p0)] []
  refine g_aload_n hC dX0_leaving_0 1 rfl rfl 0 rfl ?_
  refine g_get hC fl_X0_12 dX0_leaving_1 4 rfl 0 rfl rfl ?_
  refine g_iload_n hC dX0_leaving_4 5 rfl rfl 1 rfl ?_
  refine g_readV hC (ct_X3_isSock l g a o p0 _ h) gY_X3_isSock dX0_leaving_5 8 rfl ml_X0_37 [(b, .inr (4, [.ref (a 0), .int (o 12 0)]))] [] (by rw [List.append_nil]; rfl) [] rfl rfl rfl 0 7 rfl rfl ⟨Nat.le_of_ble_eq_true rfl, Nat.le_of_ble_eq_true rfl⟩ (Nat.le_of_ble_eq_true rfl) ⟨Nat.le_refl _, Nat.le_refl _⟩ (fun v1 h => ?_)
  refine g_if_ne hC dX0_leaving_8 13 (by decide) 11 rfl (fun c => ?_) (fun c => ?_)
  · have h := h.1 c
    refine g_aload_n hC dX0_leaving_13 14 rfl rfl 0 rfl ?_
    refine g_get hC fl_X0_12 dX0_leaving_14 17 rfl 0 rfl rfl ?_
    refine g_get hC fl_X0_44 dX0_leaving_17 20 rfl 1 rfl rfl ?_
    refine g_iload_n hC dX0_leaving_20 21 rfl rfl 1 rfl ?_
    obtain ⟨hi, h⟩ := h
    refine g_iald hC dX0_leaving_21 22 rfl 4 rfl hi ?_
    refine g_iconst hC (3 : Int32) dX0_leaving_22 23 rfl iconst_3 ?_
    refine g_icmp_eq hC dX0_leaving_23 34 (by decide) 26 rfl (fun c => ?_) (fun c => ?_)
    · have h := h.1 c
      refine g_aload_n hC dX0_leaving_34 35 rfl rfl 0 rfl ?_
      refine g_get hC fl_X0_12 dX0_leaving_35 38 rfl 0 rfl rfl ?_
      refine g_get hC fl_X0_63 dX0_leaving_38 41 rfl 1 rfl rfl ?_
      refine g_iload_n hC dX0_leaving_41 42 rfl rfl 1 rfl ?_
      obtain ⟨hi, h⟩ := h
      refine g_iald hC dX0_leaving_42 43 rfl 9 rfl hi ?_
      refine g_topi (fun v2 ev2 => ?_)
      have h := h v2 ev2
      refine g_istore_n (lv2 := [(2, .int v2), (0, .ref b), (1, .int p0)]) hC dX0_leaving_43 44 rfl rfl (by decide) rfl ?_
      refine g_iload_n hC dX0_leaving_44 45 rfl rfl 0 rfl ?_
      refine g_iconst hC (-1 : Int32) dX0_leaving_45 46 rfl iconst_m1 ?_
      refine g_icmp_eq hC dX0_leaving_46 59 (by decide) 49 rfl (fun c => ?_) (fun c => ?_)
      · have h := h.1 c
        refine g_iconst hC (0 : Int32) dX0_leaving_59 60 rfl iconst_0 ?_
        exact g_iret hC hZ dX0_leaving_60 ⟨_, _, rfl, rfl, h⟩
      · have h := h.2 c
        refine g_aload_n hC dX0_leaving_49 50 rfl rfl 1 rfl ?_
        refine g_bipush hC (8 : Int32) dX0_leaving_50 52 rfl bipush_8 ?_
        refine g_iload_n hC dX0_leaving_52 53 rfl rfl 0 rfl ?_
        refine g_ownI hC (ct_X0_because l g b a o (8 : Int32) v2 _ h) gY_X0_because dX0_leaving_53 56 rfl ml_X0_33 [] rfl rfl rfl 0 4 rfl rfl ⟨Nat.le_of_ble_eq_true rfl, Nat.le_of_ble_eq_true rfl⟩ (Nat.le_of_ble_eq_true rfl) ⟨Nat.le_refl _, Nat.le_refl _⟩ (fun v4 o3 h => ?_)
        refine g_goto hC dX0_leaving_56 60 (by decide) ?_
        exact g_iret hC hZ dX0_leaving_60 ⟨_, _, rfl, rfl, h⟩
    · have h := h.2 c
      refine g_aload_n hC dX0_leaving_26 27 rfl rfl 0 rfl ?_
      refine g_bipush hC (6 : Int32) dX0_leaving_27 29 rfl bipush_6 ?_
      refine g_iload_n hC dX0_leaving_29 30 rfl rfl 1 rfl ?_
      refine g_ownI hC (ct_X0_because l g b a o (6 : Int32) p0 _ h) gY_X0_because dX0_leaving_30 33 rfl ml_X0_33 [] rfl rfl rfl 0 4 rfl rfl ⟨Nat.le_of_ble_eq_true rfl, Nat.le_of_ble_eq_true rfl⟩ (Nat.le_of_ble_eq_true rfl) ⟨Nat.le_refl _, Nat.le_refl _⟩ (fun v6 o5 h => ?_)
      exact g_iret hC hZ dX0_leaving_33 ⟨_, _, rfl, rfl, h⟩
  · have h := h.2 c
    refine g_iconst hC (-1 : Int32) dX0_leaving_11 12 rfl iconst_m1 ?_
    exact g_iret hC hZ dX0_leaving_12 ⟨_, _, rfl, rfl, h⟩
def wj_X0_crossing_65 (post : Int32 → Off → Prop) (o : Off) (x1 : Int32) (x3 : Int32) : Prop := wp_X3_hasRoom (fun v3 => ((¬ v3 = 0 → wp_X3_colourAt (fun v4 => wp_X3_bans (fun v5 => ((v5 = 0 → post (0 : Int32) o) ∧ (¬ v5 = 0 → wp_X0_because (fun v7 o6 => post v7 o6) o (15 : Int32) x1))) o x3 v4) o x1) ∧ (v3 = 0 → (vp_in x3 5 ∧ wp_X0_because (fun v9 o8 => post v9 o8) o (14 : Int32) (o 9 x3.toNatClampNeg))))) o x3
def wp_X0_crossing (post : Int32 → Off → Prop) (o : Off) (p0 : Int32) (p1 : Int32) (p2 : Int32) : Prop := wp_X3_clauseBetween (fun v1 => ((¬ v1 = 0 → wp_X3_countOf (fun v2 => ((¬ v1 = (120 : Int32) → wj_X0_crossing_65 post o p0 p2) ∧ (v1 = (120 : Int32) → wp_X3_countOf (fun v10 => ((v10 < v2 → wj_X0_crossing_65 post o p0 p2) ∧ (¬ v10 < v2 → wp_X0_because (fun v12 o11 => post v12 o11) o (13 : Int32) v2))) o (3 : Int32) p2))) o (3 : Int32) p1) ∧ (v1 = 0 → wp_X0_because (fun v14 o13 => post v14 o13) o (12 : Int32) p1))) o p1 p2
set_option maxRecDepth 100000 in
set_option maxHeartbeats 4000000 in
theorem jn_X0_crossing_65 {x : gX} {l : Launch} {g : gE} {b : Nat} {a : Nat → Nat} {o0 : Off} {post : Int32 → Off → Prop} (hC : gC x l cX0_crossing 6 RX0 g 5 113 0 0) (hZ : gZ x g (some .int) (chkW g b a o0) (pI (chkW g b a) post) 0 0) : ∀ (o : Off) (x1 : Int32) (x3 : Int32) , wj_X0_crossing_65 post o x1 x3 → G x g 6 0 0 (chkW g b a o) 65 [(0, .ref b), (1, .int x1), (3, .int x3)] [] := by
  intro o x1 x3 h
  rw [wj_X0_crossing_65] at h
  refine g_aload_n hC dX0_crossing_65 66 rfl rfl 0 rfl ?_
  refine g_get hC fl_X0_12 dX0_crossing_66 69 rfl 0 rfl rfl ?_
  refine g_iload_n hC dX0_crossing_69 70 rfl rfl 2 rfl ?_
  refine g_readV hC (ct_X3_hasRoom l g a o x3 _ h) gY_X3_hasRoom dX0_crossing_70 73 rfl ml_X0_79 [(b, .inr (4, [.ref (a 0), .int (o 12 0)]))] [] (by rw [List.append_nil]; rfl) [] rfl rfl rfl 0 7 rfl rfl ⟨Nat.le_of_ble_eq_true rfl, Nat.le_of_ble_eq_true rfl⟩ (Nat.le_of_ble_eq_true rfl) ⟨Nat.le_refl _, Nat.le_refl _⟩ (fun v3 h => ?_)
  refine g_if_ne hC dX0_crossing_73 92 (by decide) 76 rfl (fun c => ?_) (fun c => ?_)
  · have h := h.1 c
    refine g_aload_n hC dX0_crossing_92 93 rfl rfl 0 rfl ?_
    refine g_get hC fl_X0_12 dX0_crossing_93 96 rfl 0 rfl rfl ?_
    refine g_iload_n hC dX0_crossing_96 97 rfl rfl 2 rfl ?_
    refine g_aload_n hC dX0_crossing_97 98 rfl rfl 0 rfl ?_
    refine g_get hC fl_X0_12 dX0_crossing_98 101 rfl 0 rfl rfl ?_
    refine g_iload_n hC dX0_crossing_101 102 rfl rfl 1 rfl ?_
    refine g_readV hC (ct_X3_colourAt l g a o x1 _ h) gY_X3_colourAt dX0_crossing_102 105 rfl ml_X0_85 [(b, .inr (4, [.ref (a 0), .int (o 12 0)]))] [] (by rw [List.append_nil]; rfl) [.int x3, .ref (a 0)] rfl rfl rfl 0 7 rfl rfl ⟨Nat.le_of_ble_eq_true rfl, Nat.le_of_ble_eq_true rfl⟩ (Nat.le_of_ble_eq_true rfl) ⟨Nat.le_refl _, Nat.le_refl _⟩ (fun v4 h => ?_)
    refine g_readV hC (ct_X3_bans l g a o x3 v4 _ h) gY_X3_bans dX0_crossing_105 108 rfl ml_X0_89 [(b, .inr (4, [.ref (a 0), .int (o 12 0)]))] [] (by rw [List.append_nil]; rfl) [] rfl rfl rfl 0 7 rfl rfl ⟨Nat.le_of_ble_eq_true rfl, Nat.le_of_ble_eq_true rfl⟩ (Nat.le_of_ble_eq_true rfl) ⟨Nat.le_refl _, Nat.le_refl _⟩ (fun v5 h => ?_)
    refine g_if_eq hC dX0_crossing_108 121 (by decide) 111 rfl (fun c => ?_) (fun c => ?_)
    · have h := h.1 c
      refine g_iconst hC (0 : Int32) dX0_crossing_121 122 rfl iconst_0 ?_
      exact g_iret hC hZ dX0_crossing_122 ⟨_, _, rfl, rfl, h⟩
    · have h := h.2 c
      refine g_aload_n hC dX0_crossing_111 112 rfl rfl 0 rfl ?_
      refine g_bipush hC (15 : Int32) dX0_crossing_112 114 rfl bipush_15 ?_
      refine g_iload_n hC dX0_crossing_114 115 rfl rfl 1 rfl ?_
      refine g_ownI hC (ct_X0_because l g b a o (15 : Int32) x1 _ h) gY_X0_because dX0_crossing_115 118 rfl ml_X0_33 [] rfl rfl rfl 0 4 rfl rfl ⟨Nat.le_of_ble_eq_true rfl, Nat.le_of_ble_eq_true rfl⟩ (Nat.le_of_ble_eq_true rfl) ⟨Nat.le_refl _, Nat.le_refl _⟩ (fun v7 o6 h => ?_)
      refine g_goto hC dX0_crossing_118 122 (by decide) ?_
      exact g_iret hC hZ dX0_crossing_122 ⟨_, _, rfl, rfl, h⟩
  · have h := h.2 c
    refine g_aload_n hC dX0_crossing_76 77 rfl rfl 0 rfl ?_
    refine g_bipush hC (14 : Int32) dX0_crossing_77 79 rfl bipush_14 ?_
    refine g_aload_n hC dX0_crossing_79 80 rfl rfl 0 rfl ?_
    refine g_get hC fl_X0_12 dX0_crossing_80 83 rfl 0 rfl rfl ?_
    refine g_get hC fl_X0_82 dX0_crossing_83 86 rfl 1 rfl rfl ?_
    refine g_iload_n hC dX0_crossing_86 87 rfl rfl 2 rfl ?_
    obtain ⟨hi, h⟩ := h
    refine g_iald hC dX0_crossing_87 88 rfl 10 rfl hi ?_
    refine g_ownI hC (ct_X0_because l g b a o (14 : Int32) (o 9 x3.toNatClampNeg) _ h) gY_X0_because dX0_crossing_88 91 rfl ml_X0_33 [] rfl rfl rfl 0 4 rfl rfl ⟨Nat.le_of_ble_eq_true rfl, Nat.le_of_ble_eq_true rfl⟩ (Nat.le_of_ble_eq_true rfl) ⟨Nat.le_refl _, Nat.le_refl _⟩ (fun v9 o8 h => ?_)
    exact g_iret hC hZ dX0_crossing_91 ⟨_, _, rfl, rfl, h⟩
set_option maxRecDepth 100000 in
set_option maxHeartbeats 4000000 in
theorem ct_X0_crossing (l : Launch) (g : gE) (b : Nat) (a : Nat → Nat) (o : Off) (p0 : Int32) (p1 : Int32) (p2 : Int32) (post : Int32 → Off → Prop) (h : wp_X0_crossing post o p0 p1 p2) : Fn l g yX0_crossing cX0_crossing 6 (some .int) 5 113 0 0 (chkW g b a o) [.ref b, .int p0, .int p1, .int p2] (pI (chkW g b a) post) := by
  refine Fn.of (by decide) (Nat.le_of_ble_eq_true rfl) (fun x hC hZ => ?_)
  rw [wp_X0_crossing] at h
  show G x g 6 0 0 (chkW g b a o) 0 [(0, .ref b), (1, .int p0), (2, .int p1), (3, .int p2)] []
  refine g_aload_n hC dX0_crossing_0 1 rfl rfl 0 rfl ?_
  refine g_get hC fl_X0_12 dX0_crossing_1 4 rfl 0 rfl rfl ?_
  refine g_iload_n hC dX0_crossing_4 5 rfl rfl 2 rfl ?_
  refine g_iload_n hC dX0_crossing_5 6 rfl rfl 3 rfl ?_
  refine g_readV hC (ct_X3_clauseBetween l g a o p1 p2 _ h) gY_X3_clauseBetween dX0_crossing_6 9 rfl ml_X0_73 [(b, .inr (4, [.ref (a 0), .int (o 12 0)]))] [] (by rw [List.append_nil]; rfl) [] rfl rfl rfl 0 7 rfl rfl ⟨Nat.le_of_ble_eq_true rfl, Nat.le_of_ble_eq_true rfl⟩ (Nat.le_of_ble_eq_true rfl) ⟨Nat.le_refl _, Nat.le_refl _⟩ (fun v1 h => ?_)
  refine g_istore (lv2 := [(4, .int v1), (0, .ref b), (1, .int p0), (2, .int p1), (3, .int p2)]) hC dX0_crossing_9 11 rfl (by decide) rfl ?_
  refine g_iload hC dX0_crossing_11 13 rfl 0 rfl ?_
  refine g_if_ne hC dX0_crossing_13 24 (by decide) 16 rfl (fun c => ?_) (fun c => ?_)
  · have h := h.1 c
    refine g_aload_n hC dX0_crossing_24 25 rfl rfl 1 rfl ?_
    refine g_get hC fl_X0_12 dX0_crossing_25 28 rfl 0 rfl rfl ?_
    refine g_iconst hC (3 : Int32) dX0_crossing_28 29 rfl iconst_3 ?_
    refine g_iload_n hC dX0_crossing_29 30 rfl rfl 3 rfl ?_
    refine g_readV hC (ct_X3_countOf l g a o (3 : Int32) p1 _ h) gY_X3_countOf dX0_crossing_30 33 rfl ml_X0_76 [(b, .inr (4, [.ref (a 0), .int (o 12 0)]))] [] (by rw [List.append_nil]; rfl) [] rfl rfl rfl 0 7 rfl rfl ⟨Nat.le_of_ble_eq_true rfl, Nat.le_of_ble_eq_true rfl⟩ (Nat.le_of_ble_eq_true rfl) ⟨Nat.le_refl _, Nat.le_refl _⟩ (fun v2 h => ?_)
    refine g_istore (lv2 := [(5, .int v2), (4, .int v1), (0, .ref b), (1, .int p0), (2, .int p1), (3, .int p2)]) hC dX0_crossing_33 35 rfl (by decide) rfl ?_
    refine g_iload hC dX0_crossing_35 37 rfl 1 rfl ?_
    refine g_bipush hC (120 : Int32) dX0_crossing_37 39 rfl bipush_120 ?_
    refine g_icmp_ne hC dX0_crossing_39 65 (by decide) 42 rfl (fun c => ?_) (fun c => ?_)
    · have h := h.1 c
      refine g_lv (lv2 := [(0, .ref b), (1, .int p0), (3, .int p2)]) [2, 3, 5] rfl ?_
      exact jn_X0_crossing_65 hC hZ o p0 p2 h
    · have h := h.2 c
      refine g_aload_n hC dX0_crossing_42 43 rfl rfl 2 rfl ?_
      refine g_get hC fl_X0_12 dX0_crossing_43 46 rfl 0 rfl rfl ?_
      refine g_iconst hC (3 : Int32) dX0_crossing_46 47 rfl iconst_3 ?_
      refine g_iload_n hC dX0_crossing_47 48 rfl rfl 5 rfl ?_
      refine g_readV hC (ct_X3_countOf l g a o (3 : Int32) p2 _ h) gY_X3_countOf dX0_crossing_48 51 rfl ml_X0_76 [(b, .inr (4, [.ref (a 0), .int (o 12 0)]))] [] (by rw [List.append_nil]; rfl) [] rfl rfl rfl 0 7 rfl rfl ⟨Nat.le_of_ble_eq_true rfl, Nat.le_of_ble_eq_true rfl⟩ (Nat.le_of_ble_eq_true rfl) ⟨Nat.le_refl _, Nat.le_refl _⟩ (fun v10 h => ?_)
      refine g_iload hC dX0_crossing_51 53 rfl 0 rfl ?_
      refine g_icmp_lt hC dX0_crossing_53 65 (by decide) 56 rfl (fun c => ?_) (fun c => ?_)
      · have h := h.1 c
        refine g_lv (lv2 := [(0, .ref b), (1, .int p0), (3, .int p2)]) [2, 3, 5] rfl ?_
        exact jn_X0_crossing_65 hC hZ o p0 p2 h
      · have h := h.2 c
        refine g_aload_n hC dX0_crossing_56 57 rfl rfl 2 rfl ?_
        refine g_bipush hC (13 : Int32) dX0_crossing_57 59 rfl bipush_13 ?_
        refine g_iload hC dX0_crossing_59 61 rfl 0 rfl ?_
        refine g_ownI hC (ct_X0_because l g b a o (13 : Int32) v2 _ h) gY_X0_because dX0_crossing_61 64 rfl ml_X0_33 [] rfl rfl rfl 0 4 rfl rfl ⟨Nat.le_of_ble_eq_true rfl, Nat.le_of_ble_eq_true rfl⟩ (Nat.le_of_ble_eq_true rfl) ⟨Nat.le_refl _, Nat.le_refl _⟩ (fun v12 o11 h => ?_)
        exact g_iret hC hZ dX0_crossing_64 ⟨_, _, rfl, rfl, h⟩
  · have h := h.2 c
    refine g_aload_n hC dX0_crossing_16 17 rfl rfl 1 rfl ?_
    refine g_bipush hC (12 : Int32) dX0_crossing_17 19 rfl bipush_12 ?_
    refine g_iload_n hC dX0_crossing_19 20 rfl rfl 3 rfl ?_
    refine g_ownI hC (ct_X0_because l g b a o (12 : Int32) p1 _ h) gY_X0_because dX0_crossing_20 23 rfl ml_X0_33 [] rfl rfl rfl 0 4 rfl rfl ⟨Nat.le_of_ble_eq_true rfl, Nat.le_of_ble_eq_true rfl⟩ (Nat.le_of_ble_eq_true rfl) ⟨Nat.le_refl _, Nat.le_refl _⟩ (fun v14 o13 h => ?_)
    exact g_iret hC hZ dX0_crossing_23 ⟨_, _, rfl, rfl, h⟩
def wp_X0_moving (post : Int32 → Off → Prop) (o : Off) (p0 : Int32) (p1 : Int32) : Prop := wp_X3_isDrawer (fun v1 => ((¬ v1 = 0 → wp_X0_leaving (fun v3 o2 => ((v3 = 0 → (vp_in p0 14 ∧ wp_X0_crossing (fun v5 o4 => post v5 o4) o2 p0 (o2 4 p0.toNatClampNeg) p1)) ∧ (¬ v3 = 0 → post v3 o2))) o p0) ∧ (v1 = 0 → post (-1 : Int32) o))) p1
set_option maxRecDepth 100000 in
set_option maxHeartbeats 4000000 in
theorem ct_X0_moving (l : Launch) (g : gE) (b : Nat) (a : Nat → Nat) (o : Off) (p0 : Int32) (p1 : Int32) (post : Int32 → Off → Prop) (h : wp_X0_moving post o p0 p1) : Fn l g yX0_moving cX0_moving 4 (some .int) 6 138 0 0 (chkW g b a o) [.ref b, .int p0, .int p1] (pI (chkW g b a) post) := by
  refine Fn.of (by decide) (Nat.le_of_ble_eq_true rfl) (fun x hC hZ => ?_)
  rw [wp_X0_moving] at h
  show G x g 4 0 0 (chkW g b a o) 0 [(0, .ref b), (1, .int p0), (2, .int p1)] []
  refine g_iload_n hC dX0_moving_0 1 rfl rfl 2 rfl ?_
  refine g_readS hC (ct_X3_isDrawer l g p1 _ h) gY_X3_isDrawer dX0_moving_1 4 rfl ml_X0_41 [] _ rfl [] rfl rfl ⟨Nat.le_of_ble_eq_true rfl, Nat.le_of_ble_eq_true rfl⟩ (Nat.le_of_ble_eq_true rfl) ⟨Nat.le_refl _, Nat.le_refl _⟩ (fun v1 h => ?_)
  refine g_if_ne hC dX0_moving_4 9 (by decide) 7 rfl (fun c => ?_) (fun c => ?_)
  · have h := h.1 c
    refine g_aload_n hC dX0_moving_9 10 rfl rfl 0 rfl ?_
    refine g_iload_n hC dX0_moving_10 11 rfl rfl 1 rfl ?_
    refine g_ownI hC (ct_X0_leaving l g b a o p0 _ h) gY_X0_leaving dX0_moving_11 14 rfl ml_X0_66 [] rfl rfl rfl 0 4 rfl rfl ⟨Nat.le_of_ble_eq_true rfl, Nat.le_of_ble_eq_true rfl⟩ (Nat.le_of_ble_eq_true rfl) ⟨Nat.le_refl _, Nat.le_refl _⟩ (fun v3 o2 h => ?_)
    refine g_istore_n (lv2 := [(3, .int v3), (0, .ref b), (1, .int p0), (2, .int p1)]) hC dX0_moving_14 15 rfl rfl (by decide) rfl ?_
    refine g_iload_n hC dX0_moving_15 16 rfl rfl 0 rfl ?_
    refine g_if_eq hC dX0_moving_16 23 (by decide) 19 rfl (fun c => ?_) (fun c => ?_)
    · have h := h.1 c
      refine g_aload_n hC dX0_moving_23 24 rfl rfl 1 rfl ?_
      refine g_iload_n hC dX0_moving_24 25 rfl rfl 2 rfl ?_
      refine g_aload_n hC dX0_moving_25 26 rfl rfl 1 rfl ?_
      refine g_get hC fl_X0_12 dX0_moving_26 29 rfl 0 rfl rfl ?_
      refine g_get hC fl_X0_48 dX0_moving_29 32 rfl 1 rfl rfl ?_
      refine g_iload_n hC dX0_moving_32 33 rfl rfl 2 rfl ?_
      obtain ⟨hi, h⟩ := h
      refine g_iald hC dX0_moving_33 34 rfl 5 rfl hi ?_
      refine g_iload_n hC dX0_moving_34 35 rfl rfl 3 rfl ?_
      refine g_ownI hC (ct_X0_crossing l g b a o2 p0 (o2 4 p0.toNatClampNeg) p1 _ h) gY_X0_crossing dX0_moving_35 38 rfl ml_X0_69 [] rfl rfl rfl 0 4 rfl rfl ⟨Nat.le_of_ble_eq_true rfl, Nat.le_of_ble_eq_true rfl⟩ (Nat.le_of_ble_eq_true rfl) ⟨Nat.le_refl _, Nat.le_refl _⟩ (fun v5 o4 h => ?_)
      exact g_iret hC hZ dX0_moving_38 ⟨_, _, rfl, rfl, h⟩
    · have h := h.2 c
      refine g_iload_n hC dX0_moving_19 20 rfl rfl 0 rfl ?_
      refine g_goto hC dX0_moving_20 38 (by decide) ?_
      exact g_iret hC hZ dX0_moving_38 ⟨_, _, rfl, rfl, h⟩
  · have h := h.2 c
    refine g_iconst hC (-1 : Int32) dX0_moving_7 8 rfl iconst_m1 ?_
    exact g_iret hC hZ dX0_moving_8 ⟨_, _, rfl, rfl, h⟩
def wp_X0_joining (post : Int32 → Off → Prop) (o : Off) (p0 : Int32) (p1 : Int32) : Prop := (vp_in p0 14 ∧ (((o 8 p0.toNatClampNeg) = (-1 : Int32) → (vp_in p1 14 ∧ (((o 8 p1.toNatClampNeg) = (-1 : Int32) → wp_X3_match (fun v1 => ((v1 = 0 → (vp_in p1 14 ∧ wp_X0_because (fun v3 o2 => post v3 o2) o (11 : Int32) (o 2 p1.toNatClampNeg))) ∧ (¬ v1 = 0 → post (0 : Int32) o))) o p0 p1) ∧ (¬ (o 8 p1.toNatClampNeg) = (-1 : Int32) → (vp_in p1 14 ∧ wp_X0_because (fun v5 o4 => post v5 o4) o (8 : Int32) (o 8 p1.toNatClampNeg)))))) ∧ (¬ (o 8 p0.toNatClampNeg) = (-1 : Int32) → (vp_in p0 14 ∧ wp_X0_because (fun v7 o6 => post v7 o6) o (8 : Int32) (o 8 p0.toNatClampNeg)))))
set_option maxRecDepth 100000 in
set_option maxHeartbeats 4000000 in
theorem ct_X0_joining (l : Launch) (g : gE) (b : Nat) (a : Nat → Nat) (o : Off) (p0 : Int32) (p1 : Int32) (post : Int32 → Off → Prop) (h : wp_X0_joining post o p0 p1) : Fn l g yX0_joining cX0_joining 3 (some .int) 1 23 0 0 (chkW g b a o) [.ref b, .int p0, .int p1] (pI (chkW g b a) post) := by
  refine Fn.of (by decide) (Nat.le_of_ble_eq_true rfl) (fun x hC hZ => ?_)
  rw [wp_X0_joining] at h
  show G x g 3 0 0 (chkW g b a o) 0 [(0, .ref b), (1, .int p0), (2, .int p1)] []
  refine g_aload_n hC dX0_joining_0 1 rfl rfl 0 rfl ?_
  refine g_get hC fl_X0_12 dX0_joining_1 4 rfl 0 rfl rfl ?_
  refine g_get hC fl_X0_63 dX0_joining_4 7 rfl 1 rfl rfl ?_
  refine g_iload_n hC dX0_joining_7 8 rfl rfl 1 rfl ?_
  obtain ⟨hi, h⟩ := h
  refine g_iald hC dX0_joining_8 9 rfl 9 rfl hi ?_
  refine g_iconst hC (-1 : Int32) dX0_joining_9 10 rfl iconst_m1 ?_
  refine g_icmp_eq hC dX0_joining_10 29 (by decide) 13 rfl (fun c => ?_) (fun c => ?_)
  · have h := h.1 c
    refine g_aload_n hC dX0_joining_29 30 rfl rfl 0 rfl ?_
    refine g_get hC fl_X0_12 dX0_joining_30 33 rfl 0 rfl rfl ?_
    refine g_get hC fl_X0_63 dX0_joining_33 36 rfl 1 rfl rfl ?_
    refine g_iload_n hC dX0_joining_36 37 rfl rfl 2 rfl ?_
    obtain ⟨hi, h⟩ := h
    refine g_iald hC dX0_joining_37 38 rfl 9 rfl hi ?_
    refine g_iconst hC (-1 : Int32) dX0_joining_38 39 rfl iconst_m1 ?_
    refine g_icmp_eq hC dX0_joining_39 58 (by decide) 42 rfl (fun c => ?_) (fun c => ?_)
    · have h := h.1 c
      refine g_aload_n hC dX0_joining_58 59 rfl rfl 0 rfl ?_
      refine g_get hC fl_X0_12 dX0_joining_59 62 rfl 0 rfl rfl ?_
      refine g_iload_n hC dX0_joining_62 63 rfl rfl 1 rfl ?_
      refine g_iload_n hC dX0_joining_63 64 rfl rfl 2 rfl ?_
      refine g_readV hC (ct_X3_match l g a o p0 p1 _ h) gY_X3_match dX0_joining_64 67 rfl ml_X0_96 [(b, .inr (4, [.ref (a 0), .int (o 12 0)]))] [] (by rw [List.append_nil]; rfl) [] rfl rfl rfl 0 7 rfl rfl ⟨Nat.le_of_ble_eq_true rfl, Nat.le_of_ble_eq_true rfl⟩ (Nat.le_of_ble_eq_true rfl) ⟨Nat.le_refl _, Nat.le_refl _⟩ (fun v1 h => ?_)
      refine g_if_eq hC dX0_joining_67 74 (by decide) 70 rfl (fun c => ?_) (fun c => ?_)
      · have h := h.1 c
        refine g_aload_n hC dX0_joining_74 75 rfl rfl 0 rfl ?_
        refine g_bipush hC (11 : Int32) dX0_joining_75 77 rfl bipush_11 ?_
        refine g_aload_n hC dX0_joining_77 78 rfl rfl 0 rfl ?_
        refine g_get hC fl_X0_12 dX0_joining_78 81 rfl 0 rfl rfl ?_
        refine g_get hC fl_X0_100 dX0_joining_81 84 rfl 1 rfl rfl ?_
        refine g_iload_n hC dX0_joining_84 85 rfl rfl 2 rfl ?_
        obtain ⟨hi, h⟩ := h
        refine g_iald hC dX0_joining_85 86 rfl 3 rfl hi ?_
        refine g_ownI hC (ct_X0_because l g b a o (11 : Int32) (o 2 p1.toNatClampNeg) _ h) gY_X0_because dX0_joining_86 89 rfl ml_X0_33 [] rfl rfl rfl 0 4 rfl rfl ⟨Nat.le_of_ble_eq_true rfl, Nat.le_of_ble_eq_true rfl⟩ (Nat.le_of_ble_eq_true rfl) ⟨Nat.le_refl _, Nat.le_refl _⟩ (fun v3 o2 h => ?_)
        exact g_iret hC hZ dX0_joining_89 ⟨_, _, rfl, rfl, h⟩
      · have h := h.2 c
        refine g_iconst hC (0 : Int32) dX0_joining_70 71 rfl iconst_0 ?_
        refine g_goto hC dX0_joining_71 89 (by decide) ?_
        exact g_iret hC hZ dX0_joining_89 ⟨_, _, rfl, rfl, h⟩
    · have h := h.2 c
      refine g_aload_n hC dX0_joining_42 43 rfl rfl 0 rfl ?_
      refine g_bipush hC (8 : Int32) dX0_joining_43 45 rfl bipush_8 ?_
      refine g_aload_n hC dX0_joining_45 46 rfl rfl 0 rfl ?_
      refine g_get hC fl_X0_12 dX0_joining_46 49 rfl 0 rfl rfl ?_
      refine g_get hC fl_X0_63 dX0_joining_49 52 rfl 1 rfl rfl ?_
      refine g_iload_n hC dX0_joining_52 53 rfl rfl 2 rfl ?_
      obtain ⟨hi, h⟩ := h
      refine g_iald hC dX0_joining_53 54 rfl 9 rfl hi ?_
      refine g_ownI hC (ct_X0_because l g b a o (8 : Int32) (o 8 p1.toNatClampNeg) _ h) gY_X0_because dX0_joining_54 57 rfl ml_X0_33 [] rfl rfl rfl 0 4 rfl rfl ⟨Nat.le_of_ble_eq_true rfl, Nat.le_of_ble_eq_true rfl⟩ (Nat.le_of_ble_eq_true rfl) ⟨Nat.le_refl _, Nat.le_refl _⟩ (fun v5 o4 h => ?_)
      exact g_iret hC hZ dX0_joining_57 ⟨_, _, rfl, rfl, h⟩
  · have h := h.2 c
    refine g_aload_n hC dX0_joining_13 14 rfl rfl 0 rfl ?_
    refine g_bipush hC (8 : Int32) dX0_joining_14 16 rfl bipush_8 ?_
    refine g_aload_n hC dX0_joining_16 17 rfl rfl 0 rfl ?_
    refine g_get hC fl_X0_12 dX0_joining_17 20 rfl 0 rfl rfl ?_
    refine g_get hC fl_X0_63 dX0_joining_20 23 rfl 1 rfl rfl ?_
    refine g_iload_n hC dX0_joining_23 24 rfl rfl 1 rfl ?_
    obtain ⟨hi, h⟩ := h
    refine g_iald hC dX0_joining_24 25 rfl 9 rfl hi ?_
    refine g_ownI hC (ct_X0_because l g b a o (8 : Int32) (o 8 p0.toNatClampNeg) _ h) gY_X0_because dX0_joining_25 28 rfl ml_X0_33 [] rfl rfl rfl 0 4 rfl rfl ⟨Nat.le_of_ble_eq_true rfl, Nat.le_of_ble_eq_true rfl⟩ (Nat.le_of_ble_eq_true rfl) ⟨Nat.le_refl _, Nat.le_refl _⟩ (fun v7 o6 h => ?_)
    exact g_iret hC hZ dX0_joining_28 ⟨_, _, rfl, rfl, h⟩
def wp_X0_pairing (post : Int32 → Off → Prop) (o : Off) (p0 : Int32) (p1 : Int32) : Prop := wp_X3_isSock (fun v1 => ((v1 = 0 → post (-1 : Int32) o) ∧ (¬ v1 = 0 → wp_X3_isSock (fun v2 => ((¬ v2 = 0 → ((¬ p0 = p1 → (vp_in p0 14 ∧ (((o 3 p0.toNatClampNeg) = (3 : Int32) → (vp_in p1 14 ∧ (((o 3 p1.toNatClampNeg) = (3 : Int32) → (vp_in p0 14 ∧ (vp_in p1 14 ∧ (((o 4 p0.toNatClampNeg) = (o 4 p1.toNatClampNeg) → wp_X0_joining (fun v4 o3 => post v4 o3) o p0 p1) ∧ (¬ (o 4 p0.toNatClampNeg) = (o 4 p1.toNatClampNeg) → (vp_in p1 14 ∧ wp_X0_because (fun v6 o5 => post v6 o5) o (10 : Int32) (o 4 p1.toNatClampNeg))))))) ∧ (¬ (o 3 p1.toNatClampNeg) = (3 : Int32) → wp_X0_because (fun v8 o7 => post v8 o7) o (6 : Int32) p1)))) ∧ (¬ (o 3 p0.toNatClampNeg) = (3 : Int32) → wp_X0_because (fun v10 o9 => post v10 o9) o (6 : Int32) p0)))) ∧ (p0 = p1 → post (-2 : Int32) o))) ∧ (v2 = 0 → post (-1 : Int32) o))) o p1))) o p0
set_option maxRecDepth 100000 in
set_option maxHeartbeats 4000000 in
theorem ct_X0_pairing (l : Launch) (g : gE) (b : Nat) (a : Nat → Nat) (o : Off) (p0 : Int32) (p1 : Int32) (post : Int32 → Off → Prop) (h : wp_X0_pairing post o p0 p1) : Fn l g yX0_pairing cX0_pairing 3 (some .int) 2 45 0 0 (chkW g b a o) [.ref b, .int p0, .int p1] (pI (chkW g b a) post) := by
  refine Fn.of (by decide) (Nat.le_of_ble_eq_true rfl) (fun x hC hZ => ?_)
  rw [wp_X0_pairing] at h
  show G x g 3 0 0 (chkW g b a o) 0 [(0, .ref b), (1, .int p0), (2, .int p1)] []
  refine g_aload_n hC dX0_pairing_0 1 rfl rfl 0 rfl ?_
  refine g_get hC fl_X0_12 dX0_pairing_1 4 rfl 0 rfl rfl ?_
  refine g_iload_n hC dX0_pairing_4 5 rfl rfl 1 rfl ?_
  refine g_readV hC (ct_X3_isSock l g a o p0 _ h) gY_X3_isSock dX0_pairing_5 8 rfl ml_X0_37 [(b, .inr (4, [.ref (a 0), .int (o 12 0)]))] [] (by rw [List.append_nil]; rfl) [] rfl rfl rfl 0 7 rfl rfl ⟨Nat.le_of_ble_eq_true rfl, Nat.le_of_ble_eq_true rfl⟩ (Nat.le_of_ble_eq_true rfl) ⟨Nat.le_refl _, Nat.le_refl _⟩ (fun v1 h => ?_)
  refine g_if_eq hC dX0_pairing_8 22 (by decide) 11 rfl (fun c => ?_) (fun c => ?_)
  · have h := h.1 c
    refine g_iconst hC (-1 : Int32) dX0_pairing_22 23 rfl iconst_m1 ?_
    exact g_iret hC hZ dX0_pairing_23 ⟨_, _, rfl, rfl, h⟩
  · have h := h.2 c
    refine g_aload_n hC dX0_pairing_11 12 rfl rfl 0 rfl ?_
    refine g_get hC fl_X0_12 dX0_pairing_12 15 rfl 0 rfl rfl ?_
    refine g_iload_n hC dX0_pairing_15 16 rfl rfl 2 rfl ?_
    refine g_readV hC (ct_X3_isSock l g a o p1 _ h) gY_X3_isSock dX0_pairing_16 19 rfl ml_X0_37 [(b, .inr (4, [.ref (a 0), .int (o 12 0)]))] [] (by rw [List.append_nil]; rfl) [] rfl rfl rfl 0 7 rfl rfl ⟨Nat.le_of_ble_eq_true rfl, Nat.le_of_ble_eq_true rfl⟩ (Nat.le_of_ble_eq_true rfl) ⟨Nat.le_refl _, Nat.le_refl _⟩ (fun v2 h => ?_)
    refine g_if_ne hC dX0_pairing_19 24 (by decide) 22 rfl (fun c => ?_) (fun c => ?_)
    · have h := h.1 c
      refine g_iload_n hC dX0_pairing_24 25 rfl rfl 1 rfl ?_
      refine g_iload_n hC dX0_pairing_25 26 rfl rfl 2 rfl ?_
      refine g_icmp_ne hC dX0_pairing_26 32 (by decide) 29 rfl (fun c => ?_) (fun c => ?_)
      · have h := h.1 c
        refine g_aload_n hC dX0_pairing_32 33 rfl rfl 0 rfl ?_
        refine g_get hC fl_X0_12 dX0_pairing_33 36 rfl 0 rfl rfl ?_
        refine g_get hC fl_X0_44 dX0_pairing_36 39 rfl 1 rfl rfl ?_
        refine g_iload_n hC dX0_pairing_39 40 rfl rfl 1 rfl ?_
        obtain ⟨hi, h⟩ := h
        refine g_iald hC dX0_pairing_40 41 rfl 4 rfl hi ?_
        refine g_iconst hC (3 : Int32) dX0_pairing_41 42 rfl iconst_3 ?_
        refine g_icmp_eq hC dX0_pairing_42 53 (by decide) 45 rfl (fun c => ?_) (fun c => ?_)
        · have h := h.1 c
          refine g_aload_n hC dX0_pairing_53 54 rfl rfl 0 rfl ?_
          refine g_get hC fl_X0_12 dX0_pairing_54 57 rfl 0 rfl rfl ?_
          refine g_get hC fl_X0_44 dX0_pairing_57 60 rfl 1 rfl rfl ?_
          refine g_iload_n hC dX0_pairing_60 61 rfl rfl 2 rfl ?_
          obtain ⟨hi, h⟩ := h
          refine g_iald hC dX0_pairing_61 62 rfl 4 rfl hi ?_
          refine g_iconst hC (3 : Int32) dX0_pairing_62 63 rfl iconst_3 ?_
          refine g_icmp_eq hC dX0_pairing_63 74 (by decide) 66 rfl (fun c => ?_) (fun c => ?_)
          · have h := h.1 c
            refine g_aload_n hC dX0_pairing_74 75 rfl rfl 0 rfl ?_
            refine g_get hC fl_X0_12 dX0_pairing_75 78 rfl 0 rfl rfl ?_
            refine g_get hC fl_X0_48 dX0_pairing_78 81 rfl 1 rfl rfl ?_
            refine g_iload_n hC dX0_pairing_81 82 rfl rfl 1 rfl ?_
            obtain ⟨hi, h⟩ := h
            refine g_iald hC dX0_pairing_82 83 rfl 5 rfl hi ?_
            refine g_aload_n hC dX0_pairing_83 84 rfl rfl 0 rfl ?_
            refine g_get hC fl_X0_12 dX0_pairing_84 87 rfl 0 rfl rfl ?_
            refine g_get hC fl_X0_48 dX0_pairing_87 90 rfl 1 rfl rfl ?_
            refine g_iload_n hC dX0_pairing_90 91 rfl rfl 2 rfl ?_
            obtain ⟨hi, h⟩ := h
            refine g_iald hC dX0_pairing_91 92 rfl 5 rfl hi ?_
            refine g_icmp_eq hC dX0_pairing_92 111 (by decide) 95 rfl (fun c => ?_) (fun c => ?_)
            · have h := h.1 c
              refine g_aload_n hC dX0_pairing_111 112 rfl rfl 0 rfl ?_
              refine g_iload_n hC dX0_pairing_112 113 rfl rfl 1 rfl ?_
              refine g_iload_n hC dX0_pairing_113 114 rfl rfl 2 rfl ?_
              refine g_ownI hC (ct_X0_joining l g b a o p0 p1 _ h) gY_X0_joining dX0_pairing_114 117 rfl ml_X0_93 [] rfl rfl rfl 0 4 rfl rfl ⟨Nat.le_of_ble_eq_true rfl, Nat.le_of_ble_eq_true rfl⟩ (Nat.le_of_ble_eq_true rfl) ⟨Nat.le_refl _, Nat.le_refl _⟩ (fun v4 o3 h => ?_)
              exact g_iret hC hZ dX0_pairing_117 ⟨_, _, rfl, rfl, h⟩
            · have h := h.2 c
              refine g_aload_n hC dX0_pairing_95 96 rfl rfl 0 rfl ?_
              refine g_bipush hC (10 : Int32) dX0_pairing_96 98 rfl bipush_10 ?_
              refine g_aload_n hC dX0_pairing_98 99 rfl rfl 0 rfl ?_
              refine g_get hC fl_X0_12 dX0_pairing_99 102 rfl 0 rfl rfl ?_
              refine g_get hC fl_X0_48 dX0_pairing_102 105 rfl 1 rfl rfl ?_
              refine g_iload_n hC dX0_pairing_105 106 rfl rfl 2 rfl ?_
              obtain ⟨hi, h⟩ := h
              refine g_iald hC dX0_pairing_106 107 rfl 5 rfl hi ?_
              refine g_ownI hC (ct_X0_because l g b a o (10 : Int32) (o 4 p1.toNatClampNeg) _ h) gY_X0_because dX0_pairing_107 110 rfl ml_X0_33 [] rfl rfl rfl 0 4 rfl rfl ⟨Nat.le_of_ble_eq_true rfl, Nat.le_of_ble_eq_true rfl⟩ (Nat.le_of_ble_eq_true rfl) ⟨Nat.le_refl _, Nat.le_refl _⟩ (fun v6 o5 h => ?_)
              exact g_iret hC hZ dX0_pairing_110 ⟨_, _, rfl, rfl, h⟩
          · have h := h.2 c
            refine g_aload_n hC dX0_pairing_66 67 rfl rfl 0 rfl ?_
            refine g_bipush hC (6 : Int32) dX0_pairing_67 69 rfl bipush_6 ?_
            refine g_iload_n hC dX0_pairing_69 70 rfl rfl 2 rfl ?_
            refine g_ownI hC (ct_X0_because l g b a o (6 : Int32) p1 _ h) gY_X0_because dX0_pairing_70 73 rfl ml_X0_33 [] rfl rfl rfl 0 4 rfl rfl ⟨Nat.le_of_ble_eq_true rfl, Nat.le_of_ble_eq_true rfl⟩ (Nat.le_of_ble_eq_true rfl) ⟨Nat.le_refl _, Nat.le_refl _⟩ (fun v8 o7 h => ?_)
            exact g_iret hC hZ dX0_pairing_73 ⟨_, _, rfl, rfl, h⟩
        · have h := h.2 c
          refine g_aload_n hC dX0_pairing_45 46 rfl rfl 0 rfl ?_
          refine g_bipush hC (6 : Int32) dX0_pairing_46 48 rfl bipush_6 ?_
          refine g_iload_n hC dX0_pairing_48 49 rfl rfl 1 rfl ?_
          refine g_ownI hC (ct_X0_because l g b a o (6 : Int32) p0 _ h) gY_X0_because dX0_pairing_49 52 rfl ml_X0_33 [] rfl rfl rfl 0 4 rfl rfl ⟨Nat.le_of_ble_eq_true rfl, Nat.le_of_ble_eq_true rfl⟩ (Nat.le_of_ble_eq_true rfl) ⟨Nat.le_refl _, Nat.le_refl _⟩ (fun v10 o9 h => ?_)
          exact g_iret hC hZ dX0_pairing_52 ⟨_, _, rfl, rfl, h⟩
      · have h := h.2 c
        refine g_bipush hC (-2 : Int32) dX0_pairing_29 31 rfl bipush_m2 ?_
        exact g_iret hC hZ dX0_pairing_31 ⟨_, _, rfl, rfl, h⟩
    · have h := h.2 c
      refine g_iconst hC (-1 : Int32) dX0_pairing_22 23 rfl iconst_m1 ?_
      exact g_iret hC hZ dX0_pairing_23 ⟨_, _, rfl, rfl, h⟩
def wp_X0_separating (post : Int32 → Off → Prop) (o : Off) (p0 : Int32) : Prop := wp_X3_isSock (fun v1 => ((¬ v1 = 0 → (vp_in p0 14 ∧ ((¬ (o 8 p0.toNatClampNeg) = (-1 : Int32) → post (0 : Int32) o) ∧ ((o 8 p0.toNatClampNeg) = (-1 : Int32) → wp_X0_because (fun v3 o2 => post v3 o2) o (9 : Int32) p0)))) ∧ (v1 = 0 → post (-1 : Int32) o))) o p0
set_option maxRecDepth 100000 in
set_option maxHeartbeats 4000000 in
theorem ct_X0_separating (l : Launch) (g : gE) (b : Nat) (a : Nat → Nat) (o : Off) (p0 : Int32) (post : Int32 → Off → Prop) (h : wp_X0_separating post o p0) : Fn l g yX0_separating cX0_separating 2 (some .int) 1 22 0 0 (chkW g b a o) [.ref b, .int p0] (pI (chkW g b a) post) := by
  refine Fn.of (by decide) (Nat.le_of_ble_eq_true rfl) (fun x hC hZ => ?_)
  rw [wp_X0_separating] at h
  show G x g 2 0 0 (chkW g b a o) 0 [(0, .ref b), (1, .int p0)] []
  refine g_aload_n hC dX0_separating_0 1 rfl rfl 0 rfl ?_
  refine g_get hC fl_X0_12 dX0_separating_1 4 rfl 0 rfl rfl ?_
  refine g_iload_n hC dX0_separating_4 5 rfl rfl 1 rfl ?_
  refine g_readV hC (ct_X3_isSock l g a o p0 _ h) gY_X3_isSock dX0_separating_5 8 rfl ml_X0_37 [(b, .inr (4, [.ref (a 0), .int (o 12 0)]))] [] (by rw [List.append_nil]; rfl) [] rfl rfl rfl 0 7 rfl rfl ⟨Nat.le_of_ble_eq_true rfl, Nat.le_of_ble_eq_true rfl⟩ (Nat.le_of_ble_eq_true rfl) ⟨Nat.le_refl _, Nat.le_refl _⟩ (fun v1 h => ?_)
  refine g_if_ne hC dX0_separating_8 13 (by decide) 11 rfl (fun c => ?_) (fun c => ?_)
  · have h := h.1 c
    refine g_aload_n hC dX0_separating_13 14 rfl rfl 0 rfl ?_
    refine g_get hC fl_X0_12 dX0_separating_14 17 rfl 0 rfl rfl ?_
    refine g_get hC fl_X0_63 dX0_separating_17 20 rfl 1 rfl rfl ?_
    refine g_iload_n hC dX0_separating_20 21 rfl rfl 1 rfl ?_
    obtain ⟨hi, h⟩ := h
    refine g_iald hC dX0_separating_21 22 rfl 9 rfl hi ?_
    refine g_iconst hC (-1 : Int32) dX0_separating_22 23 rfl iconst_m1 ?_
    refine g_icmp_ne hC dX0_separating_23 36 (by decide) 26 rfl (fun c => ?_) (fun c => ?_)
    · have h := h.1 c
      refine g_iconst hC (0 : Int32) dX0_separating_36 37 rfl iconst_0 ?_
      exact g_iret hC hZ dX0_separating_37 ⟨_, _, rfl, rfl, h⟩
    · have h := h.2 c
      refine g_aload_n hC dX0_separating_26 27 rfl rfl 0 rfl ?_
      refine g_bipush hC (9 : Int32) dX0_separating_27 29 rfl bipush_9 ?_
      refine g_iload_n hC dX0_separating_29 30 rfl rfl 1 rfl ?_
      refine g_ownI hC (ct_X0_because l g b a o (9 : Int32) p0 _ h) gY_X0_because dX0_separating_30 33 rfl ml_X0_33 [] rfl rfl rfl 0 4 rfl rfl ⟨Nat.le_of_ble_eq_true rfl, Nat.le_of_ble_eq_true rfl⟩ (Nat.le_of_ble_eq_true rfl) ⟨Nat.le_refl _, Nat.le_refl _⟩ (fun v3 o2 h => ?_)
      refine g_goto hC dX0_separating_33 37 (by decide) ?_
      exact g_iret hC hZ dX0_separating_37 ⟨_, _, rfl, rfl, h⟩
  · have h := h.2 c
    refine g_iconst hC (-1 : Int32) dX0_separating_11 12 rfl iconst_m1 ?_
    exact g_iret hC hZ dX0_separating_12 ⟨_, _, rfl, rfl, h⟩
def wp_X0_settingQuota (post : Int32 → Prop) (o : Off) (p0 : Int32) (p1 : Int32) : Prop := wp_X3_isDrawer (fun v1 => ((¬ v1 = 0 → ((p1 < 0 → post (-2 : Int32)) ∧ (¬ p1 < 0 → ((p1 ≤ (9 : Int32) → post (0 : Int32)) ∧ (¬ p1 ≤ (9 : Int32) → post (-2 : Int32)))))) ∧ (v1 = 0 → post (-1 : Int32)))) p0
set_option maxRecDepth 100000 in
set_option maxHeartbeats 4000000 in
theorem ct_X0_settingQuota (l : Launch) (g : gE) (b : Nat) (a : Nat → Nat) (o : Off) (p0 : Int32) (p1 : Int32) (post : Int32 → Prop) (h : wp_X0_settingQuota post o p0 p1) : Fn l g yX0_settingQuota cX0_settingQuota 3 (some .int) 1 20 0 0 (chkW g b a o) [.ref b, .int p0, .int p1] (pR (chkW g b a o) post) := by
  refine Fn.of (by decide) (Nat.le_of_ble_eq_true rfl) (fun x hC hZ => ?_)
  rw [wp_X0_settingQuota] at h
  show G x g 3 0 0 (chkW g b a o) 0 [(0, .ref b), (1, .int p0), (2, .int p1)] []
  refine g_iload_n hC dX0_settingQuota_0 1 rfl rfl 1 rfl ?_
  refine g_readS hC (ct_X3_isDrawer l g p0 _ h) gY_X3_isDrawer dX0_settingQuota_1 4 rfl ml_X0_41 [] _ rfl [] rfl rfl ⟨Nat.le_of_ble_eq_true rfl, Nat.le_of_ble_eq_true rfl⟩ (Nat.le_of_ble_eq_true rfl) ⟨Nat.le_refl _, Nat.le_refl _⟩ (fun v1 h => ?_)
  refine g_if_ne hC dX0_settingQuota_4 9 (by decide) 7 rfl (fun c => ?_) (fun c => ?_)
  · have h := h.1 c
    refine g_iload_n hC dX0_settingQuota_9 10 rfl rfl 2 rfl ?_
    refine g_if_lt hC dX0_settingQuota_10 19 (by decide) 13 rfl (fun c => ?_) (fun c => ?_)
    · have h := h.1 c
      refine g_bipush hC (-2 : Int32) dX0_settingQuota_19 21 rfl bipush_m2 ?_
      refine g_goto hC dX0_settingQuota_21 25 (by decide) ?_
      exact g_iret hC hZ dX0_settingQuota_25 ⟨_, rfl, rfl, h⟩
    · have h := h.2 c
      refine g_iload_n hC dX0_settingQuota_13 14 rfl rfl 2 rfl ?_
      refine g_bipush hC (9 : Int32) dX0_settingQuota_14 16 rfl bipush_9 ?_
      refine g_icmp_le hC dX0_settingQuota_16 24 (by decide) 19 rfl (fun c => ?_) (fun c => ?_)
      · have h := h.1 c
        refine g_iconst hC (0 : Int32) dX0_settingQuota_24 25 rfl iconst_0 ?_
        exact g_iret hC hZ dX0_settingQuota_25 ⟨_, rfl, rfl, h⟩
      · have h := h.2 c
        refine g_bipush hC (-2 : Int32) dX0_settingQuota_19 21 rfl bipush_m2 ?_
        refine g_goto hC dX0_settingQuota_21 25 (by decide) ?_
        exact g_iret hC hZ dX0_settingQuota_25 ⟨_, rfl, rfl, h⟩
  · have h := h.2 c
    refine g_iconst hC (-1 : Int32) dX0_settingQuota_7 8 rfl iconst_m1 ?_
    exact g_iret hC hZ dX0_settingQuota_8 ⟨_, rfl, rfl, h⟩
def wp_X0_banning (post : Int32 → Prop) (o : Off) (p0 : Int32) (p1 : Int32) : Prop := wp_X3_isDrawer (fun v1 => ((¬ v1 = 0 → wp_J0_indexOf_0f7a4 (fun v2 => ((0 ≤ v2 → post (0 : Int32)) ∧ (¬ 0 ≤ v2 → post (-2 : Int32)))) [114, 103, 98, 119] p1) ∧ (v1 = 0 → post (-1 : Int32)))) p0
set_option maxRecDepth 100000 in
set_option maxHeartbeats 4000000 in
theorem ct_X0_banning (l : Launch) (g : gE) (b : Nat) (a : Nat → Nat) (o : Off) (p0 : Int32) (p1 : Int32) (post : Int32 → Prop) (h : wp_X0_banning post o p0 p1) : Fn l g yX0_banning cX0_banning 3 (some .int) 4 91 0 0 (chkW g b a o) [.ref b, .int p0, .int p1] (pR (chkW g b a o) post) := by
  refine Fn.of (by decide) (Nat.le_of_ble_eq_true rfl) (fun x hC hZ => ?_)
  rw [wp_X0_banning] at h
  show G x g 3 0 0 (chkW g b a o) 0 [(0, .ref b), (1, .int p0), (2, .int p1)] []
  refine g_iload_n hC dX0_banning_0 1 rfl rfl 1 rfl ?_
  refine g_readS hC (ct_X3_isDrawer l g p0 _ h) gY_X3_isDrawer dX0_banning_1 4 rfl ml_X0_41 [] _ rfl [] rfl rfl ⟨Nat.le_of_ble_eq_true rfl, Nat.le_of_ble_eq_true rfl⟩ (Nat.le_of_ble_eq_true rfl) ⟨Nat.le_refl _, Nat.le_refl _⟩ (fun v1 h => ?_)
  refine g_if_ne hC dX0_banning_4 9 (by decide) 7 rfl (fun c => ?_) (fun c => ?_)
  · have h := h.1 c
    refine g_litS (i := 1) hC rfl dX0_banning_9 11 rfl ?_
    refine g_iload_n hC dX0_banning_11 12 rfl rfl 2 rfl ?_
    refine g_callL hC rfl (by decide) (ct_J0_indexOf_0f7a4 l g 1 [114, 103, 98, 119] rfl (by decide) p1 _ h) gY_J0_indexOf_0f7a4 dX0_banning_12 15 rfl ml_X0_24 [] rfl rfl rfl rfl ⟨Nat.le_of_ble_eq_true rfl, Nat.le_of_ble_eq_true rfl⟩ (Nat.le_of_ble_eq_true rfl) ⟨Nat.le_refl _, Nat.le_refl _⟩ (fun v2 h => ?_)
    refine g_if_ge hC dX0_banning_15 23 (by decide) 18 rfl (fun c => ?_) (fun c => ?_)
    · have h := h.1 c
      refine g_iconst hC (0 : Int32) dX0_banning_23 24 rfl iconst_0 ?_
      exact g_iret hC hZ dX0_banning_24 ⟨_, rfl, rfl, h⟩
    · have h := h.2 c
      refine g_bipush hC (-2 : Int32) dX0_banning_18 20 rfl bipush_m2 ?_
      refine g_goto hC dX0_banning_20 24 (by decide) ?_
      exact g_iret hC hZ dX0_banning_24 ⟨_, rfl, rfl, h⟩
  · have h := h.2 c
    refine g_iconst hC (-1 : Int32) dX0_banning_7 8 rfl iconst_m1 ?_
    exact g_iret hC hZ dX0_banning_8 ⟨_, rfl, rfl, h⟩
def wp_X0_signing (post : Int32 → Off → Prop) (o : Off) (p0 : Int32) (p1 : Int32) (p2 : Int32) : Prop := wp_X3_isDrawer (fun v1 => ((v1 = 0 → post (-1 : Int32) o) ∧ (¬ v1 = 0 → wp_X3_isDrawer (fun v2 => ((¬ v2 = 0 → ((p0 = p1 → post (-2 : Int32) o) ∧ (¬ p0 = p1 → wp_J0_indexOf_0f7a4 (fun v3 => ((0 ≤ v3 → wp_X3_hasTreaty (fun v4 => ((v4 = 0 → post (0 : Int32) o) ∧ (¬ v4 = 0 → wp_X3_treaties (fun v5 => wp_X0_because (fun v7 o6 => post v7 o6) o (16 : Int32) v5) o ))) o p0 p1) ∧ (¬ 0 ≤ v3 → post (-2 : Int32) o))) [111, 115, 120] p2))) ∧ (v2 = 0 → post (-1 : Int32) o))) p1))) p0
set_option maxRecDepth 100000 in
set_option maxHeartbeats 4000000 in
theorem ct_X0_signing (l : Launch) (g : gE) (b : Nat) (a : Nat → Nat) (o : Off) (p0 : Int32) (p1 : Int32) (p2 : Int32) (post : Int32 → Off → Prop) (h : wp_X0_signing post o p0 p1 p2) : Fn l g yX0_signing cX0_signing 4 (some .int) 4 91 0 0 (chkW g b a o) [.ref b, .int p0, .int p1, .int p2] (pI (chkW g b a) post) := by
  refine Fn.of (by decide) (Nat.le_of_ble_eq_true rfl) (fun x hC hZ => ?_)
  rw [wp_X0_signing] at h
  show G x g 4 0 0 (chkW g b a o) 0 [(0, .ref b), (1, .int p0), (2, .int p1), (3, .int p2)] []
  refine g_iload_n hC dX0_signing_0 1 rfl rfl 1 rfl ?_
  refine g_readS hC (ct_X3_isDrawer l g p0 _ h) gY_X3_isDrawer dX0_signing_1 4 rfl ml_X0_41 [] _ rfl [] rfl rfl ⟨Nat.le_of_ble_eq_true rfl, Nat.le_of_ble_eq_true rfl⟩ (Nat.le_of_ble_eq_true rfl) ⟨Nat.le_refl _, Nat.le_refl _⟩ (fun v1 h => ?_)
  refine g_if_eq hC dX0_signing_4 14 (by decide) 7 rfl (fun c => ?_) (fun c => ?_)
  · have h := h.1 c
    refine g_iconst hC (-1 : Int32) dX0_signing_14 15 rfl iconst_m1 ?_
    exact g_iret hC hZ dX0_signing_15 ⟨_, _, rfl, rfl, h⟩
  · have h := h.2 c
    refine g_iload_n hC dX0_signing_7 8 rfl rfl 2 rfl ?_
    refine g_readS hC (ct_X3_isDrawer l g p1 _ h) gY_X3_isDrawer dX0_signing_8 11 rfl ml_X0_41 [] _ rfl [] rfl rfl ⟨Nat.le_of_ble_eq_true rfl, Nat.le_of_ble_eq_true rfl⟩ (Nat.le_of_ble_eq_true rfl) ⟨Nat.le_refl _, Nat.le_refl _⟩ (fun v2 h => ?_)
    refine g_if_ne hC dX0_signing_11 16 (by decide) 14 rfl (fun c => ?_) (fun c => ?_)
    · have h := h.1 c
      refine g_iload_n hC dX0_signing_16 17 rfl rfl 1 rfl ?_
      refine g_iload_n hC dX0_signing_17 18 rfl rfl 2 rfl ?_
      refine g_icmp_eq hC dX0_signing_18 30 (by decide) 21 rfl (fun c => ?_) (fun c => ?_)
      · have h := h.1 c
        refine g_bipush hC (-2 : Int32) dX0_signing_30 32 rfl bipush_m2 ?_
        exact g_iret hC hZ dX0_signing_32 ⟨_, _, rfl, rfl, h⟩
      · have h := h.2 c
        refine g_litS (i := 2) hC rfl dX0_signing_21 23 rfl ?_
        refine g_iload_n hC dX0_signing_23 24 rfl rfl 3 rfl ?_
        refine g_callL hC rfl (by decide) (ct_J0_indexOf_0f7a4 l g 2 [111, 115, 120] rfl (by decide) p2 _ h) gY_J0_indexOf_0f7a4 dX0_signing_24 27 rfl ml_X0_24 [] rfl rfl rfl rfl ⟨Nat.le_of_ble_eq_true rfl, Nat.le_of_ble_eq_true rfl⟩ (Nat.le_of_ble_eq_true rfl) ⟨Nat.le_refl _, Nat.le_refl _⟩ (fun v3 h => ?_)
        refine g_if_ge hC dX0_signing_27 33 (by decide) 30 rfl (fun c => ?_) (fun c => ?_)
        · have h := h.1 c
          refine g_aload_n hC dX0_signing_33 34 rfl rfl 0 rfl ?_
          refine g_get hC fl_X0_12 dX0_signing_34 37 rfl 0 rfl rfl ?_
          refine g_iload_n hC dX0_signing_37 38 rfl rfl 1 rfl ?_
          refine g_iload_n hC dX0_signing_38 39 rfl rfl 2 rfl ?_
          refine g_readV hC (ct_X3_hasTreaty l g a o p0 p1 _ h) gY_X3_hasTreaty dX0_signing_39 42 rfl ml_X0_105 [(b, .inr (4, [.ref (a 0), .int (o 12 0)]))] [] (by rw [List.append_nil]; rfl) [] rfl rfl rfl 0 7 rfl rfl ⟨Nat.le_of_ble_eq_true rfl, Nat.le_of_ble_eq_true rfl⟩ (Nat.le_of_ble_eq_true rfl) ⟨Nat.le_refl _, Nat.le_refl _⟩ (fun v4 h => ?_)
          refine g_if_eq hC dX0_signing_42 61 (by decide) 45 rfl (fun c => ?_) (fun c => ?_)
          · have h := h.1 c
            refine g_iconst hC (0 : Int32) dX0_signing_61 62 rfl iconst_0 ?_
            exact g_iret hC hZ dX0_signing_62 ⟨_, _, rfl, rfl, h⟩
          · have h := h.2 c
            refine g_aload_n hC dX0_signing_45 46 rfl rfl 0 rfl ?_
            refine g_bipush hC (16 : Int32) dX0_signing_46 48 rfl bipush_16 ?_
            refine g_aload_n hC dX0_signing_48 49 rfl rfl 0 rfl ?_
            refine g_get hC fl_X0_12 dX0_signing_49 52 rfl 0 rfl rfl ?_
            refine g_readV hC (ct_X3_treaties l g a o  _ h) gY_X3_treaties dX0_signing_52 55 rfl ml_X0_108 [(b, .inr (4, [.ref (a 0), .int (o 12 0)]))] [] (by rw [List.append_nil]; rfl) [.int (16 : Int32), .ref b] rfl rfl rfl 0 7 rfl rfl ⟨Nat.le_of_ble_eq_true rfl, Nat.le_of_ble_eq_true rfl⟩ (Nat.le_of_ble_eq_true rfl) ⟨Nat.le_refl _, Nat.le_refl _⟩ (fun v5 h => ?_)
            refine g_ownI hC (ct_X0_because l g b a o (16 : Int32) v5 _ h) gY_X0_because dX0_signing_55 58 rfl ml_X0_33 [] rfl rfl rfl 0 4 rfl rfl ⟨Nat.le_of_ble_eq_true rfl, Nat.le_of_ble_eq_true rfl⟩ (Nat.le_of_ble_eq_true rfl) ⟨Nat.le_refl _, Nat.le_refl _⟩ (fun v7 o6 h => ?_)
            refine g_goto hC dX0_signing_58 62 (by decide) ?_
            exact g_iret hC hZ dX0_signing_62 ⟨_, _, rfl, rfl, h⟩
        · have h := h.2 c
          refine g_bipush hC (-2 : Int32) dX0_signing_30 32 rfl bipush_m2 ?_
          exact g_iret hC hZ dX0_signing_32 ⟨_, _, rfl, rfl, h⟩
    · have h := h.2 c
      refine g_iconst hC (-1 : Int32) dX0_signing_14 15 rfl iconst_m1 ?_
      exact g_iret hC hZ dX0_signing_15 ⟨_, _, rfl, rfl, h⟩
def wp_X0_endingTreaty (post : Int32 → Prop) (o : Off) (p0 : Int32) (p1 : Int32) : Prop := wp_X3_isDrawer (fun v1 => ((v1 = 0 → post (-1 : Int32)) ∧ (¬ v1 = 0 → wp_X3_isDrawer (fun v2 => ((¬ v2 = 0 → wp_X3_hasTreaty (fun v3 => ((v3 = 0 → post (-3 : Int32)) ∧ (¬ v3 = 0 → post (0 : Int32)))) o p0 p1) ∧ (v2 = 0 → post (-1 : Int32)))) p1))) p0
set_option maxRecDepth 100000 in
set_option maxHeartbeats 4000000 in
theorem ct_X0_endingTreaty (l : Launch) (g : gE) (b : Nat) (a : Nat → Nat) (o : Off) (p0 : Int32) (p1 : Int32) (post : Int32 → Prop) (h : wp_X0_endingTreaty post o p0 p1) : Fn l g yX0_endingTreaty cX0_endingTreaty 3 (some .int) 2 44 0 0 (chkW g b a o) [.ref b, .int p0, .int p1] (pR (chkW g b a o) post) := by
  refine Fn.of (by decide) (Nat.le_of_ble_eq_true rfl) (fun x hC hZ => ?_)
  rw [wp_X0_endingTreaty] at h
  show G x g 3 0 0 (chkW g b a o) 0 [(0, .ref b), (1, .int p0), (2, .int p1)] []
  refine g_iload_n hC dX0_endingTreaty_0 1 rfl rfl 1 rfl ?_
  refine g_readS hC (ct_X3_isDrawer l g p0 _ h) gY_X3_isDrawer dX0_endingTreaty_1 4 rfl ml_X0_41 [] _ rfl [] rfl rfl ⟨Nat.le_of_ble_eq_true rfl, Nat.le_of_ble_eq_true rfl⟩ (Nat.le_of_ble_eq_true rfl) ⟨Nat.le_refl _, Nat.le_refl _⟩ (fun v1 h => ?_)
  refine g_if_eq hC dX0_endingTreaty_4 14 (by decide) 7 rfl (fun c => ?_) (fun c => ?_)
  · have h := h.1 c
    refine g_iconst hC (-1 : Int32) dX0_endingTreaty_14 15 rfl iconst_m1 ?_
    exact g_iret hC hZ dX0_endingTreaty_15 ⟨_, rfl, rfl, h⟩
  · have h := h.2 c
    refine g_iload_n hC dX0_endingTreaty_7 8 rfl rfl 2 rfl ?_
    refine g_readS hC (ct_X3_isDrawer l g p1 _ h) gY_X3_isDrawer dX0_endingTreaty_8 11 rfl ml_X0_41 [] _ rfl [] rfl rfl ⟨Nat.le_of_ble_eq_true rfl, Nat.le_of_ble_eq_true rfl⟩ (Nat.le_of_ble_eq_true rfl) ⟨Nat.le_refl _, Nat.le_refl _⟩ (fun v2 h => ?_)
    refine g_if_ne hC dX0_endingTreaty_11 16 (by decide) 14 rfl (fun c => ?_) (fun c => ?_)
    · have h := h.1 c
      refine g_aload_n hC dX0_endingTreaty_16 17 rfl rfl 0 rfl ?_
      refine g_get hC fl_X0_12 dX0_endingTreaty_17 20 rfl 0 rfl rfl ?_
      refine g_iload_n hC dX0_endingTreaty_20 21 rfl rfl 1 rfl ?_
      refine g_iload_n hC dX0_endingTreaty_21 22 rfl rfl 2 rfl ?_
      refine g_readV hC (ct_X3_hasTreaty l g a o p0 p1 _ h) gY_X3_hasTreaty dX0_endingTreaty_22 25 rfl ml_X0_105 [(b, .inr (4, [.ref (a 0), .int (o 12 0)]))] [] (by rw [List.append_nil]; rfl) [] rfl rfl rfl 0 7 rfl rfl ⟨Nat.le_of_ble_eq_true rfl, Nat.le_of_ble_eq_true rfl⟩ (Nat.le_of_ble_eq_true rfl) ⟨Nat.le_refl _, Nat.le_refl _⟩ (fun v3 h => ?_)
      refine g_if_eq hC dX0_endingTreaty_25 32 (by decide) 28 rfl (fun c => ?_) (fun c => ?_)
      · have h := h.1 c
        refine g_bipush hC (-3 : Int32) dX0_endingTreaty_32 34 rfl bipush_m3 ?_
        exact g_iret hC hZ dX0_endingTreaty_34 ⟨_, rfl, rfl, h⟩
      · have h := h.2 c
        refine g_iconst hC (0 : Int32) dX0_endingTreaty_28 29 rfl iconst_0 ?_
        refine g_goto hC dX0_endingTreaty_29 34 (by decide) ?_
        exact g_iret hC hZ dX0_endingTreaty_34 ⟨_, rfl, rfl, h⟩
    · have h := h.2 c
      refine g_iconst hC (-1 : Int32) dX0_endingTreaty_14 15 rfl iconst_m1 ?_
      exact g_iret hC hZ dX0_endingTreaty_15 ⟨_, rfl, rfl, h⟩
def wp_X0_passing (post : Int32 → Prop) (o : Off) (p0 : Int32) : Prop := ((p0 < (1 : Int32) → post (-2 : Int32)) ∧ (¬ p0 < (1 : Int32) → ((p0 ≤ (20 : Int32) → post (0 : Int32)) ∧ (¬ p0 ≤ (20 : Int32) → post (-2 : Int32)))))
set_option maxRecDepth 100000 in
set_option maxHeartbeats 4000000 in
theorem ct_X0_passing (l : Launch) (g : gE) (b : Nat) (a : Nat → Nat) (o : Off) (p0 : Int32) (post : Int32 → Prop) (h : wp_X0_passing post o p0) : Fn l g yX0_passing cX0_passing 2 (some .int) 0 0 0 0 (chkW g b a o) [.ref b, .int p0] (pR (chkW g b a o) post) := by
  refine Fn.of (by decide) (Nat.le_of_ble_eq_true rfl) (fun x hC hZ => ?_)
  rw [wp_X0_passing] at h
  show G x g 2 0 0 (chkW g b a o) 0 [(0, .ref b), (1, .int p0)] []
  refine g_iload_n hC dX0_passing_0 1 rfl rfl 1 rfl ?_
  refine g_iconst hC (1 : Int32) dX0_passing_1 2 rfl iconst_1 ?_
  refine g_icmp_lt hC dX0_passing_2 11 (by decide) 5 rfl (fun c => ?_) (fun c => ?_)
  · have h := h.1 c
    refine g_bipush hC (-2 : Int32) dX0_passing_11 13 rfl bipush_m2 ?_
    refine g_goto hC dX0_passing_13 17 (by decide) ?_
    exact g_iret hC hZ dX0_passing_17 ⟨_, rfl, rfl, h⟩
  · have h := h.2 c
    refine g_iload_n hC dX0_passing_5 6 rfl rfl 1 rfl ?_
    refine g_bipush hC (20 : Int32) dX0_passing_6 8 rfl bipush_20 ?_
    refine g_icmp_le hC dX0_passing_8 16 (by decide) 11 rfl (fun c => ?_) (fun c => ?_)
    · have h := h.1 c
      refine g_iconst hC (0 : Int32) dX0_passing_16 17 rfl iconst_0 ?_
      exact g_iret hC hZ dX0_passing_17 ⟨_, rfl, rfl, h⟩
    · have h := h.2 c
      refine g_bipush hC (-2 : Int32) dX0_passing_11 13 rfl bipush_m2 ?_
      refine g_goto hC dX0_passing_13 17 (by decide) ?_
      exact g_iret hC hZ dX0_passing_17 ⟨_, rfl, rfl, h⟩
