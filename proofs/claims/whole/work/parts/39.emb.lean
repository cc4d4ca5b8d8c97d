def wp_X4_requireIndex (post : Off → Prop) (px : Nat → Off → Prop) (o : Off) (p0 : Int32) : Prop := ((¬ p0 = 0 → post o) ∧ (p0 = 0 → px 3 o))
set_option maxRecDepth 100000 in
set_option maxHeartbeats 4000000 in
theorem ct_X4_requireIndex (l : Launch) (g : gE) (A : Nat → Nat → Nat) (o : Off) (p0 : Int32) (post : Off → Prop) (px : Nat → Off → Prop) (h : wp_X4_requireIndex post px o p0) : FnX l g yX4_requireIndex cX4_requireIndex 2 none 6 90 1 6 (embW g A o) [.ref (A 0 0), .int p0] (pV (embW g A) post) (pX (embW g A) px) := by
  refine FnX.of (by decide) (Nat.le_of_ble_eq_true rfl) (fun x hC hZ => ?_)
  rw [wp_X4_requireIndex] at h
  show G x g 2 0 0 (embW g A o) 0 [(0, .ref (A 0 0)), (1, .int p0)] []
  refine g_iload_n hC dX4_requireIndex_0 1 rfl rfl 1 rfl ?_
  refine g_if_ne hC dX4_requireIndex_1 15 (by decide) 4 rfl (fun c => ?_) (fun c => ?_)
  · have h := h.1 c
    refine g_widen (k2 := 1) (n2 := 6) (Nat.le_of_ble_eq_true rfl) (Nat.le_of_ble_eq_true rfl) ?_
    exact g_rx hZ (g_vret (gXQ_C hC) (gXQ_Z hZ) dX4_requireIndex_15 ⟨_, rfl, rfl, h⟩)
  · have h := h.2 c
    exact g_thr hC hZ 16 rfl xd_3_0 xd_3_1 xd_3_2 xd_3_5 (by decide +kernel) (by decide +kernel) (by decide +kernel) xl_3 xi_3 xa_3 xb_3 xg_3 dX4_requireIndex_4 dX4_requireIndex_7 dX4_requireIndex_8 dX4_requireIndex_11 dX4_requireIndex_14 ⟨Nat.le_of_ble_eq_true rfl, Nat.le_of_ble_eq_true rfl⟩ (Nat.le_of_ble_eq_true rfl) ⟨Nat.le_of_ble_eq_true rfl, Nat.le_of_ble_eq_true rfl, Nat.le_of_ble_eq_true rfl, Nat.le_of_ble_eq_true rfl⟩ ⟨3, _, rfl, rfl, h⟩
def wp_X4_requireArgument (post : Off → Prop) (px : Nat → Off → Prop) (o : Off) (p0 : Int32) : Prop := ((¬ p0 = 0 → post o) ∧ (p0 = 0 → px 1 o))
set_option maxRecDepth 100000 in
set_option maxHeartbeats 4000000 in
theorem ct_X4_requireArgument (l : Launch) (g : gE) (A : Nat → Nat → Nat) (o : Off) (p0 : Int32) (post : Off → Prop) (px : Nat → Off → Prop) (h : wp_X4_requireArgument post px o p0) : FnX l g yX4_requireArgument cX4_requireArgument 2 none 6 90 1 6 (embW g A o) [.ref (A 0 0), .int p0] (pV (embW g A) post) (pX (embW g A) px) := by
  refine FnX.of (by decide) (Nat.le_of_ble_eq_true rfl) (fun x hC hZ => ?_)
  rw [wp_X4_requireArgument] at h
  show G x g 2 0 0 (embW g A o) 0 [(0, .ref (A 0 0)), (1, .int p0)] []
  refine g_iload_n hC dX4_requireArgument_0 1 rfl rfl 1 rfl ?_
  refine g_if_ne hC dX4_requireArgument_1 15 (by decide) 4 rfl (fun c => ?_) (fun c => ?_)
  · have h := h.1 c
    refine g_widen (k2 := 1) (n2 := 6) (Nat.le_of_ble_eq_true rfl) (Nat.le_of_ble_eq_true rfl) ?_
    exact g_rx hZ (g_vret (gXQ_C hC) (gXQ_Z hZ) dX4_requireArgument_15 ⟨_, rfl, rfl, h⟩)
  · have h := h.2 c
    exact g_thr hC hZ 17 rfl xd_1_0 xd_1_1 xd_1_2 xd_1_5 (by decide +kernel) (by decide +kernel) (by decide +kernel) xl_1 xi_1 xa_1 xb_1 xg_1 dX4_requireArgument_4 dX4_requireArgument_7 dX4_requireArgument_8 dX4_requireArgument_11 dX4_requireArgument_14 ⟨Nat.le_of_ble_eq_true rfl, Nat.le_of_ble_eq_true rfl⟩ (Nat.le_of_ble_eq_true rfl) ⟨Nat.le_of_ble_eq_true rfl, Nat.le_of_ble_eq_true rfl, Nat.le_of_ble_eq_true rfl, Nat.le_of_ble_eq_true rfl⟩ ⟨1, _, rfl, rfl, h⟩
def wp_X4_requireElement (post : Off → Prop) (px : Nat → Off → Prop) (o : Off) (p0 : Int32) : Prop := ((¬ p0 = 0 → post o) ∧ (p0 = 0 → px 5 o))
set_option maxRecDepth 100000 in
set_option maxHeartbeats 4000000 in
theorem ct_X4_requireElement (l : Launch) (g : gE) (A : Nat → Nat → Nat) (o : Off) (p0 : Int32) (post : Off → Prop) (px : Nat → Off → Prop) (h : wp_X4_requireElement post px o p0) : FnX l g yX4_requireElement cX4_requireElement 2 none 6 90 1 6 (embW g A o) [.ref (A 0 0), .int p0] (pV (embW g A) post) (pX (embW g A) px) := by
  refine FnX.of (by decide) (Nat.le_of_ble_eq_true rfl) (fun x hC hZ => ?_)
  rw [wp_X4_requireElement] at h
  show G x g 2 0 0 (embW g A o) 0 [(0, .ref (A 0 0)), (1, .int p0)] []
  refine g_iload_n hC dX4_requireElement_0 1 rfl rfl 1 rfl ?_
  refine g_if_ne hC dX4_requireElement_1 15 (by decide) 4 rfl (fun c => ?_) (fun c => ?_)
  · have h := h.1 c
    refine g_widen (k2 := 1) (n2 := 6) (Nat.le_of_ble_eq_true rfl) (Nat.le_of_ble_eq_true rfl) ?_
    exact g_rx hZ (g_vret (gXQ_C hC) (gXQ_Z hZ) dX4_requireElement_15 ⟨_, rfl, rfl, h⟩)
  · have h := h.2 c
    exact g_thr hC hZ 18 rfl xd_5_0 xd_5_1 xd_5_2 xd_5_5 (by decide +kernel) (by decide +kernel) (by decide +kernel) xl_5 xi_5 xa_5 xb_5 xg_5 dX4_requireElement_4 dX4_requireElement_7 dX4_requireElement_8 dX4_requireElement_11 dX4_requireElement_14 ⟨Nat.le_of_ble_eq_true rfl, Nat.le_of_ble_eq_true rfl⟩ (Nat.le_of_ble_eq_true rfl) ⟨Nat.le_of_ble_eq_true rfl, Nat.le_of_ble_eq_true rfl, Nat.le_of_ble_eq_true rfl, Nat.le_of_ble_eq_true rfl⟩ ⟨5, _, rfl, rfl, h⟩
def wp_X4_reject (post : Off → Prop) (px : Nat → Off → Prop) (o : Off) (p0 : Int32) (p1 : Int32) (p2 : Int32) : Prop := (∀ o1 : Off, o1 = st o 13 6 p0 → (∀ o2 : Off, o2 = st o1 13 7 p1 → (∀ o3 : Off, o3 = st o2 13 8 p2 → px 4 o3)))
set_option maxRecDepth 100000 in
set_option maxHeartbeats 4000000 in
theorem ct_X4_reject (l : Launch) (g : gE) (A : Nat → Nat → Nat) (o : Off) (p0 : Int32) (p1 : Int32) (p2 : Int32) (post : Off → Prop) (px : Nat → Off → Prop) (h : wp_X4_reject post px o p0 p1 p2) : FnX l g yX4_reject cX4_reject 4 none 6 90 1 6 (embW g A o) [.ref (A 0 0), .int p0, .int p1, .int p2] (pV (embW g A) post) (pX (embW g A) px) := by
  refine FnX.of (by decide) (Nat.le_of_ble_eq_true rfl) (fun x hC hZ => ?_)
  rw [wp_X4_reject] at h
  show G x g 4 0 0 (embW g A o) 0 [(0, .ref (A 0 0)), (1, .int p0), (2, .int p1), (3, .int p2)] []
  refine g_aload_n hC dX4_reject_0 1 rfl rfl 0 rfl ?_
  refine g_iload_n hC dX4_reject_1 2 rfl rfl 1 rfl ?_
  obtain ⟨o1, eo1⟩ : ∃ y : Off, y = st o 13 6 p0 := ⟨_, rfl⟩
  have h := h o1 eo1
  refine g_put hC fp_X4_48 dX4_reject_2 5 rfl 0 rfl rfl rfl (Nat.le_of_ble_eq_true rfl) (embW_p6 eo1) ?_
  refine g_aload_n hC dX4_reject_5 6 rfl rfl 0 rfl ?_
  refine g_iload_n hC dX4_reject_6 7 rfl rfl 2 rfl ?_
  obtain ⟨o2, eo2⟩ : ∃ y : Off, y = st o1 13 7 p1 := ⟨_, rfl⟩
  have h := h o2 eo2
  refine g_put hC fp_X4_52 dX4_reject_7 10 rfl 0 rfl rfl rfl (Nat.le_of_ble_eq_true rfl) (embW_p7 eo2) ?_
  refine g_aload_n hC dX4_reject_10 11 rfl rfl 0 rfl ?_
  refine g_iload_n hC dX4_reject_11 12 rfl rfl 3 rfl ?_
  obtain ⟨o3, eo3⟩ : ∃ y : Off, y = st o2 13 8 p2 := ⟨_, rfl⟩
  have h := h o3 eo3
  refine g_put hC fp_X4_55 dX4_reject_12 15 rfl 0 rfl rfl rfl (Nat.le_of_ble_eq_true rfl) (embW_p8 eo3) ?_
  exact g_thr hC hZ 21 rfl xd_4_0 xd_4_1 xd_4_2 xd_4_5 (by decide +kernel) (by decide +kernel) (by decide +kernel) xl_4 xi_4 xa_4 xb_4 xg_4 dX4_reject_15 dX4_reject_18 dX4_reject_19 dX4_reject_22 dX4_reject_25 ⟨Nat.le_of_ble_eq_true rfl, Nat.le_of_ble_eq_true rfl⟩ (Nat.le_of_ble_eq_true rfl) ⟨Nat.le_of_ble_eq_true rfl, Nat.le_of_ble_eq_true rfl, Nat.le_of_ble_eq_true rfl, Nat.le_of_ble_eq_true rfl⟩ ⟨4, _, rfl, rfl, h⟩
def wj_X4_require_41 (post : Off → Prop) (px : Nat → Off → Prop) (o : Off) (x1 : Int32) (s0 : Int32) : Prop := wp_X4_requireElement (fun o3 => ((x1 = 0 → post o3) ∧ (¬ x1 = 0 → wp_X4_reject (fun o4 => post o4) px o3 x1 (o3 12 0) (0 : Int32)))) px o s0
def wj_X4_require_26 (post : Off → Prop) (px : Nat → Off → Prop) (o : Off) (x1 : Int32) (s0 : Int32) : Prop := wp_X4_requireArgument (fun o2 => ((x1 = (-3 : Int32) → wj_X4_require_41 post px o2 x1 (0 : Int32)) ∧ (¬ x1 = (-3 : Int32) → wj_X4_require_41 post px o2 x1 (1 : Int32)))) px o s0
def wj_X4_require_11 (post : Off → Prop) (px : Nat → Off → Prop) (o : Off) (x1 : Int32) (s0 : Int32) : Prop := wp_X4_requireIndex (fun o1 => ((x1 = (-2 : Int32) → wj_X4_require_26 post px o1 x1 (0 : Int32)) ∧ (¬ x1 = (-2 : Int32) → wj_X4_require_26 post px o1 x1 (1 : Int32)))) px o s0
def wp_X4_require (post : Off → Prop) (px : Nat → Off → Prop) (o : Off) (p0 : Int32) : Prop := ((p0 = (-1 : Int32) → wj_X4_require_11 post px o p0 (0 : Int32)) ∧ (¬ p0 = (-1 : Int32) → wj_X4_require_11 post px o p0 (1 : Int32)))
set_option maxRecDepth 100000 in
set_option maxHeartbeats 4000000 in
theorem jn_X4_require_41 {x : gX} {l : Launch} {g : gE} {A : Nat → Nat → Nat} {o0 : Off} {post : Off → Prop} {px : Nat → Off → Prop} (hC : gC x l cX4_require 2 RX4 g 7 113 4 24) (hZ : gZX x g none (embW g A o0) (pV (embW g A) post) (pX (embW g A) px) 4 24) : ∀ (o : Off) (x1 : Int32) (s0 : Int32) , wj_X4_require_41 post px o x1 s0 → G x g 2 2 12 (embW g A o) 41 [(0, .ref (A 0 0)), (1, .int x1)] [.int s0, .ref (A 0 0)] := by
  intro o x1 s0 h
  rw [wj_X4_require_41] at h
  refine g_ownVX hC hZ (ct_X4_requireElement l g A o s0 _ _ h) gY_X4_requireElement dX4_require_41 44 rfl ml_X4_93 [] rfl rfl rfl 0 8 rfl rfl ⟨Nat.le_of_ble_eq_true rfl, Nat.le_of_ble_eq_true rfl⟩ (Nat.le_of_ble_eq_true rfl) ⟨Nat.le_of_ble_eq_true rfl, Nat.le_of_ble_eq_true rfl⟩ ⟨Nat.le_of_ble_eq_true rfl, Nat.le_of_ble_eq_true rfl⟩ (fun o3 h => ?_)
  refine g_widen (k2 := 3) (n2 := 18) (Nat.le_of_ble_eq_true rfl) (Nat.le_of_ble_eq_true rfl) ?_
  refine g_iload_n hC dX4_require_44 45 rfl rfl 1 rfl ?_
  refine g_if_eq hC dX4_require_45 61 (by decide) 48 rfl (fun c => ?_) (fun c => ?_)
  · have h := h.1 c
    refine g_widen (k2 := 4) (n2 := 24) (Nat.le_of_ble_eq_true rfl) (Nat.le_of_ble_eq_true rfl) ?_
    exact g_rx hZ (g_vret (gXQ_C hC) (gXQ_Z hZ) dX4_require_61 ⟨_, rfl, rfl, h⟩)
  · have h := h.2 c
    refine g_aload_n hC dX4_require_48 49 rfl rfl 0 rfl ?_
    refine g_iload_n hC dX4_require_49 50 rfl rfl 1 rfl ?_
    refine g_aload_n hC dX4_require_50 51 rfl rfl 0 rfl ?_
    refine g_get hC fl_X4_10 dX4_require_51 54 rfl 0 rfl rfl ?_
    refine g_get hC fl_X4_383 dX4_require_54 57 rfl 7 rfl rfl ?_
    refine g_iconst hC (0 : Int32) dX4_require_57 58 rfl iconst_0 ?_
    refine g_ownVX hC hZ (ct_X4_reject l g A o3 x1 (o3 12 0) (0 : Int32) _ _ h) gY_X4_reject dX4_require_58 61 rfl ml_X4_329 [] rfl rfl rfl 0 8 rfl rfl ⟨Nat.le_of_ble_eq_true rfl, Nat.le_of_ble_eq_true rfl⟩ (Nat.le_of_ble_eq_true rfl) ⟨Nat.le_of_ble_eq_true rfl, Nat.le_of_ble_eq_true rfl⟩ ⟨Nat.le_of_ble_eq_true rfl, Nat.le_of_ble_eq_true rfl⟩ (fun o4 h => ?_)
    refine g_widen (k2 := 4) (n2 := 24) (Nat.le_of_ble_eq_true rfl) (Nat.le_of_ble_eq_true rfl) ?_
    refine g_widen (k2 := 4) (n2 := 24) (Nat.le_of_ble_eq_true rfl) (Nat.le_of_ble_eq_true rfl) ?_
    exact g_rx hZ (g_vret (gXQ_C hC) (gXQ_Z hZ) dX4_require_61 ⟨_, rfl, rfl, h⟩)
set_option maxRecDepth 100000 in
set_option maxHeartbeats 4000000 in
theorem jn_X4_require_26 {x : gX} {l : Launch} {g : gE} {A : Nat → Nat → Nat} {o0 : Off} {post : Off → Prop} {px : Nat → Off → Prop} (hC : gC x l cX4_require 2 RX4 g 7 113 4 24) (hZ : gZX x g none (embW g A o0) (pV (embW g A) post) (pX (embW g A) px) 4 24) : ∀ (o : Off) (x1 : Int32) (s0 : Int32) , wj_X4_require_26 post px o x1 s0 → G x g 2 1 6 (embW g A o) 26 [(0, .ref (A 0 0)), (1, .int x1)] [.int s0, .ref (A 0 0)] := by
  intro o x1 s0 h
  rw [wj_X4_require_26] at h
  refine g_ownVX hC hZ (ct_X4_requireArgument l g A o s0 _ _ h) gY_X4_requireArgument dX4_require_26 29 rfl ml_X4_305 [] rfl rfl rfl 0 8 rfl rfl ⟨Nat.le_of_ble_eq_true rfl, Nat.le_of_ble_eq_true rfl⟩ (Nat.le_of_ble_eq_true rfl) ⟨Nat.le_of_ble_eq_true rfl, Nat.le_of_ble_eq_true rfl⟩ ⟨Nat.le_of_ble_eq_true rfl, Nat.le_of_ble_eq_true rfl⟩ (fun o2 h => ?_)
  refine g_widen (k2 := 2) (n2 := 12) (Nat.le_of_ble_eq_true rfl) (Nat.le_of_ble_eq_true rfl) ?_
  refine g_aload_n hC dX4_require_29 30 rfl rfl 0 rfl ?_
  refine g_iload_n hC dX4_require_30 31 rfl rfl 1 rfl ?_
  refine g_bipush hC (-3 : Int32) dX4_require_31 33 rfl bipush_m3 ?_
  refine g_icmp_eq hC dX4_require_33 40 (by decide) 36 rfl (fun c => ?_) (fun c => ?_)
  · have h := h.1 c
    refine g_iconst hC (0 : Int32) dX4_require_40 41 rfl iconst_0 ?_
    exact jn_X4_require_41 hC hZ o2 x1 (0 : Int32) h
  · have h := h.2 c
    refine g_iconst hC (1 : Int32) dX4_require_36 37 rfl iconst_1 ?_
    refine g_goto hC dX4_require_37 41 (by decide) ?_
    exact jn_X4_require_41 hC hZ o2 x1 (1 : Int32) h
set_option maxRecDepth 100000 in
set_option maxHeartbeats 4000000 in
theorem jn_X4_require_11 {x : gX} {l : Launch} {g : gE} {A : Nat → Nat → Nat} {o0 : Off} {post : Off → Prop} {px : Nat → Off → Prop} (hC : gC x l cX4_require 2 RX4 g 7 113 4 24) (hZ : gZX x g none (embW g A o0) (pV (embW g A) post) (pX (embW g A) px) 4 24) : ∀ (o : Off) (x1 : Int32) (s0 : Int32) , wj_X4_require_11 post px o x1 s0 → G x g 2 0 0 (embW g A o) 11 [(0, .ref (A 0 0)), (1, .int x1)] [.int s0, .ref (A 0 0)] := by
  intro o x1 s0 h
  rw [wj_X4_require_11] at h
  refine g_ownVX hC hZ (ct_X4_requireIndex l g A o s0 _ _ h) gY_X4_requireIndex dX4_require_11 14 rfl ml_X4_299 [] rfl rfl rfl 0 8 rfl rfl ⟨Nat.le_of_ble_eq_true rfl, Nat.le_of_ble_eq_true rfl⟩ (Nat.le_of_ble_eq_true rfl) ⟨Nat.le_of_ble_eq_true rfl, Nat.le_of_ble_eq_true rfl⟩ ⟨Nat.le_of_ble_eq_true rfl, Nat.le_of_ble_eq_true rfl⟩ (fun o1 h => ?_)
  refine g_widen (k2 := 1) (n2 := 6) (Nat.le_of_ble_eq_true rfl) (Nat.le_of_ble_eq_true rfl) ?_
  refine g_aload_n hC dX4_require_14 15 rfl rfl 0 rfl ?_
  refine g_iload_n hC dX4_require_15 16 rfl rfl 1 rfl ?_
  refine g_bipush hC (-2 : Int32) dX4_require_16 18 rfl bipush_m2 ?_
  refine g_icmp_eq hC dX4_require_18 25 (by decide) 21 rfl (fun c => ?_) (fun c => ?_)
  · have h := h.1 c
    refine g_iconst hC (0 : Int32) dX4_require_25 26 rfl iconst_0 ?_
    exact jn_X4_require_26 hC hZ o1 x1 (0 : Int32) h
  · have h := h.2 c
    refine g_iconst hC (1 : Int32) dX4_require_21 22 rfl iconst_1 ?_
    refine g_goto hC dX4_require_22 26 (by decide) ?_
    exact jn_X4_require_26 hC hZ o1 x1 (1 : Int32) h
set_option maxRecDepth 100000 in
set_option maxHeartbeats 4000000 in
theorem ct_X4_require (l : Launch) (g : gE) (A : Nat → Nat → Nat) (o : Off) (p0 : Int32) (post : Off → Prop) (px : Nat → Off → Prop) (h : wp_X4_require post px o p0) : FnX l g yX4_require cX4_require 2 none 7 113 4 24 (embW g A o) [.ref (A 0 0), .int p0] (pV (embW g A) post) (pX (embW g A) px) := by
  refine FnX.of (by decide) (Nat.le_of_ble_eq_true rfl) (fun x hC hZ => ?_)
  rw [wp_X4_require] at h
  show G x g 2 0 0 (embW g A o) 0 [(0, .ref (A 0 0)), (1, .int p0)] []
  refine g_aload_n hC dX4_require_0 1 rfl rfl 0 rfl ?_
  refine g_iload_n hC dX4_require_1 2 rfl rfl 1 rfl ?_
  refine g_iconst hC (-1 : Int32) dX4_require_2 3 rfl iconst_m1 ?_
  refine g_icmp_eq hC dX4_require_3 10 (by decide) 6 rfl (fun c => ?_) (fun c => ?_)
  · have h := h.1 c
    refine g_iconst hC (0 : Int32) dX4_require_10 11 rfl iconst_0 ?_
    exact jn_X4_require_11 hC hZ o p0 (0 : Int32) h
  · have h := h.2 c
    refine g_iconst hC (1 : Int32) dX4_require_6 7 rfl iconst_1 ?_
    refine g_goto hC dX4_require_7 11 (by decide) ?_
    exact jn_X4_require_11 hC hZ o p0 (1 : Int32) h
def wp_X4_addSock (post : Int32 → Off → Prop) (px : Nat → Off → Prop) (o : Off) (p0 : Int32) (p1 : Int32) : Prop := wp_X0_adding (fun v3 o1 => (∀ o2 : Off, o2 = put o 0 13 o1 → wp_X4_require (fun o4 => (∃ i6 : Nat, i6 < 8 ∧ o4 60 2 = nI i6 ∧ (∀ o5 : Off, o5 = keepH o4 o4 i6 → wp_X3_add (fun v9 o7 => (∀ o8 : Off, o8 = put o5 0 12 o7 → post v9 o8)) o5 p0 p1))) px o2 v3)) o p0 p1
set_option maxRecDepth 100000 in
set_option maxHeartbeats 4000000 in
theorem ct_X4_addSock (l : Launch) (g : gE) (A : Nat → Nat → Nat) (o : Off) (p0 : Int32) (p1 : Int32) (post : Int32 → Off → Prop) (px : Nat → Off → Prop) (h : wp_X4_addSock post px o p0 p1) : FnX l g yX4_addSock cX4_addSock 3 (some .int) 8 363 4 24 (embW g A o) [.ref (A 0 0), .int p0, .int p1] (pI (embW g A) post) (pX (embW g A) px) := by
  refine FnX.of (by decide) (Nat.le_of_ble_eq_true rfl) (fun x hC hZ => ?_)
  rw [wp_X4_addSock] at h
  show G x g 3 0 0 (embW g A o) 0 [(0, .ref (A 0 0)), (1, .int p0), (2, .int p1)] []
  refine g_aload_n hC dX4_addSock_0 1 rfl rfl 0 rfl ?_
  refine g_aload_n hC dX4_addSock_1 2 rfl rfl 0 rfl ?_
  refine g_get hC fl_X4_10 dX4_addSock_2 5 rfl 0 rfl rfl ?_
  refine g_iload_n hC dX4_addSock_5 6 rfl rfl 1 rfl ?_
  refine g_iload_n hC dX4_addSock_6 7 rfl rfl 2 rfl ?_
  refine g_subI hC (ct_X0_adding l g (A 1 0) (A 2) o p0 p1 _ h) gY_X0_adding dX4_addSock_7 10 rfl ml_X4_61 (emb_chk g A o) (emb_chk1 g A o) [.ref (A 0 0)] rfl rfl rfl 0 4 rfl rfl ⟨Nat.le_of_ble_eq_true rfl, Nat.le_of_ble_eq_true rfl⟩ (Nat.le_of_ble_eq_true rfl) ⟨Nat.le_of_ble_eq_true rfl, Nat.le_of_ble_eq_true rfl⟩ (fun v3 o1 h => ?_)
  obtain ⟨o2, eo2⟩ : ∃ y : Off, y = put o 0 13 o1 := ⟨_, rfl⟩
  have h := h o2 eo2
  rw [← eo2]
  refine g_ownVX hC hZ (ct_X4_require l g A o2 v3 _ _ h) gY_X4_require dX4_addSock_10 13 rfl ml_X4_65 [] rfl rfl rfl 0 8 rfl rfl ⟨Nat.le_of_ble_eq_true rfl, Nat.le_of_ble_eq_true rfl⟩ (Nat.le_of_ble_eq_true rfl) ⟨Nat.le_of_ble_eq_true rfl, Nat.le_of_ble_eq_true rfl⟩ ⟨Nat.le_of_ble_eq_true rfl, Nat.le_of_ble_eq_true rfl⟩ (fun o4 h => ?_)
  refine g_widen (k2 := 4) (n2 := 24) (Nat.le_of_ble_eq_true rfl) (Nat.le_of_ble_eq_true rfl) ?_
  refine g_aload_n hC dX4_addSock_13 14 rfl rfl 0 rfl ?_
  refine g_get hC fl_X4_30 dX4_addSock_14 17 rfl 0 rfl rfl ?_
  refine g_aload_n hC dX4_addSock_17 18 rfl rfl 0 rfl ?_
  refine g_get hC fl_X4_20 dX4_addSock_18 21 rfl 0 rfl rfl ?_
  obtain ⟨i6, hi8, hi, h⟩ := h
  refine g_keepO hC hi8 hi dX4_addSock_21 24 rfl ⟨Nat.le_of_ble_eq_true rfl, Nat.le_of_ble_eq_true rfl⟩ (Nat.le_of_ble_eq_true rfl) ⟨Nat.le_of_ble_eq_true rfl, Nat.le_of_ble_eq_true rfl⟩ ?_
  obtain ⟨o5, eo5⟩ : ∃ y : Off, y = keepH o4 o4 i6 := ⟨_, rfl⟩
  have h := h o5 eo5
  rw [← eo5]
  refine g_aload_n hC dX4_addSock_24 25 rfl rfl 0 rfl ?_
  refine g_get hC fl_X4_20 dX4_addSock_25 28 rfl 0 rfl rfl ?_
  refine g_iload_n hC dX4_addSock_28 29 rfl rfl 1 rfl ?_
  refine g_iload_n hC dX4_addSock_29 30 rfl rfl 2 rfl ?_
  refine g_subI hC (ct_X3_add l g (A 2) o5 p0 p1 _ h) gY_X3_add dX4_addSock_30 33 rfl ml_X4_73 (emb_off g A o5) (emb_off1 g A o5) [] rfl rfl rfl 0 7 rfl rfl ⟨Nat.le_of_ble_eq_true rfl, Nat.le_of_ble_eq_true rfl⟩ (Nat.le_of_ble_eq_true rfl) ⟨Nat.le_of_ble_eq_true rfl, Nat.le_of_ble_eq_true rfl⟩ (fun v9 o7 h => ?_)
  obtain ⟨o8, eo8⟩ : ∃ y : Off, y = put o5 0 12 o7 := ⟨_, rfl⟩
  have h := h o8 eo8
  rw [← eo8]
  refine g_widen (k2 := 4) (n2 := 24) (Nat.le_of_ble_eq_true rfl) (Nat.le_of_ble_eq_true rfl) ?_
  exact g_rx hZ (g_iret (gXQ_C hC) (gXQ_Z hZ) dX4_addSock_33 ⟨_, _, rfl, rfl, h⟩)
def wp_X4_sockCount (post : Int32 → Off → Prop) (o : Off) : Prop := post (o 0 0) o
set_option maxRecDepth 100000 in
set_option maxHeartbeats 4000000 in
theorem ct_X4_sockCount (l : Launch) (g : gE) (A : Nat → Nat → Nat) (o : Off) (post : Int32 → Off → Prop) (h : wp_X4_sockCount post o ) : Fn l g yX4_sockCount cX4_sockCount 1 (some .int) 0 0 0 0 (embW g A o) [.ref (A 0 0)] (pI (embW g A) post) := by
  refine Fn.of (by decide) (Nat.le_of_ble_eq_true rfl) (fun x hC hZ => ?_)
  rw [wp_X4_sockCount] at h
  show G x g 1 0 0 (embW g A o) 0 [(0, .ref (A 0 0))] []
  refine g_aload_n hC dX4_sockCount_0 1 rfl rfl 0 rfl ?_
  refine g_get hC fl_X4_20 dX4_sockCount_1 4 rfl 0 rfl rfl ?_
  refine g_get hC fl_X4_76 dX4_sockCount_4 7 rfl 8 rfl rfl ?_
  exact g_iret hC hZ dX4_sockCount_7 ⟨_, _, rfl, rfl, h⟩
def wp_X4_requireSock (post : Off → Prop) (px : Nat → Off → Prop) (o : Off) (p0 : Int32) : Prop := wp_X3_isSock (fun v1 => wp_X4_requireIndex (fun o2 => post o2) px o v1) o p0
set_option maxRecDepth 100000 in
set_option maxHeartbeats 4000000 in
theorem ct_X4_requireSock (l : Launch) (g : gE) (A : Nat → Nat → Nat) (o : Off) (p0 : Int32) (post : Off → Prop) (px : Nat → Off → Prop) (h : wp_X4_requireSock post px o p0) : FnX l g yX4_requireSock cX4_requireSock 2 none 7 111 1 6 (embW g A o) [.ref (A 0 0), .int p0] (pV (embW g A) post) (pX (embW g A) px) := by
  refine FnX.of (by decide) (Nat.le_of_ble_eq_true rfl) (fun x hC hZ => ?_)
  rw [wp_X4_requireSock] at h
  show G x g 2 0 0 (embW g A o) 0 [(0, .ref (A 0 0)), (1, .int p0)] []
  refine g_aload_n hC dX4_requireSock_0 1 rfl rfl 0 rfl ?_
  refine g_aload_n hC dX4_requireSock_1 2 rfl rfl 0 rfl ?_
  refine g_get hC fl_X4_20 dX4_requireSock_2 5 rfl 0 rfl rfl ?_
  refine g_iload_n hC dX4_requireSock_5 6 rfl rfl 1 rfl ?_
  refine g_readV hC (ct_X3_isSock l g (A 2) o p0 _ h) gY_X3_isSock dX4_requireSock_6 9 rfl ml_X4_377 _ _ (emb_off g A o) [.ref (A 0 0)] rfl rfl rfl 0 7 rfl rfl ⟨Nat.le_of_ble_eq_true rfl, Nat.le_of_ble_eq_true rfl⟩ (Nat.le_of_ble_eq_true rfl) ⟨Nat.le_of_ble_eq_true rfl, Nat.le_of_ble_eq_true rfl⟩ (fun v1 h => ?_)
  refine g_ownVX hC hZ (ct_X4_requireIndex l g A o v1 _ _ h) gY_X4_requireIndex dX4_requireSock_9 12 rfl ml_X4_299 [] rfl rfl rfl 0 8 rfl rfl ⟨Nat.le_of_ble_eq_true rfl, Nat.le_of_ble_eq_true rfl⟩ (Nat.le_of_ble_eq_true rfl) ⟨Nat.le_of_ble_eq_true rfl, Nat.le_of_ble_eq_true rfl⟩ ⟨Nat.le_of_ble_eq_true rfl, Nat.le_of_ble_eq_true rfl⟩ (fun o2 h => ?_)
  refine g_widen (k2 := 1) (n2 := 6) (Nat.le_of_ble_eq_true rfl) (Nat.le_of_ble_eq_true rfl) ?_
  refine g_widen (k2 := 1) (n2 := 6) (Nat.le_of_ble_eq_true rfl) (Nat.le_of_ble_eq_true rfl) ?_
  exact g_rx hZ (g_vret (gXQ_C hC) (gXQ_Z hZ) dX4_requireSock_12 ⟨_, rfl, rfl, h⟩)
def wp_X4_colourOf (post : Int32 → Off → Prop) (px : Nat → Off → Prop) (o : Off) (p0 : Int32) : Prop := wp_X4_requireSock (fun o1 => wp_X3_colourAt (fun v2 => (isC v2 ∧ post v2 o1)) o1 p0) px o p0
set_option maxRecDepth 100000 in
set_option maxHeartbeats 4000000 in
theorem ct_X4_colourOf (l : Launch) (g : gE) (A : Nat → Nat → Nat) (o : Off) (p0 : Int32) (post : Int32 → Off → Prop) (px : Nat → Off → Prop) (h : wp_X4_colourOf post px o p0) : FnX l g yX4_colourOf cX4_colourOf 2 (some .char) 8 132 1 6 (embW g A o) [.ref (A 0 0), .int p0] (pI (embW g A) post) (pX (embW g A) px) := by
  refine FnX.of (by decide) (Nat.le_of_ble_eq_true rfl) (fun x hC hZ => ?_)
  rw [wp_X4_colourOf] at h
  show G x g 2 0 0 (embW g A o) 0 [(0, .ref (A 0 0)), (1, .int p0)] []
  refine g_aload_n hC dX4_colourOf_0 1 rfl rfl 0 rfl ?_
  refine g_iload_n hC dX4_colourOf_1 2 rfl rfl 1 rfl ?_
  refine g_ownVX hC hZ (ct_X4_requireSock l g A o p0 _ _ h) gY_X4_requireSock dX4_colourOf_2 5 rfl ml_X4_79 [] rfl rfl rfl 0 8 rfl rfl ⟨Nat.le_of_ble_eq_true rfl, Nat.le_of_ble_eq_true rfl⟩ (Nat.le_of_ble_eq_true rfl) ⟨Nat.le_of_ble_eq_true rfl, Nat.le_of_ble_eq_true rfl⟩ ⟨Nat.le_of_ble_eq_true rfl, Nat.le_of_ble_eq_true rfl⟩ (fun o1 h => ?_)
  refine g_widen (k2 := 1) (n2 := 6) (Nat.le_of_ble_eq_true rfl) (Nat.le_of_ble_eq_true rfl) ?_
  refine g_aload_n hC dX4_colourOf_5 6 rfl rfl 0 rfl ?_
  refine g_get hC fl_X4_20 dX4_colourOf_6 9 rfl 0 rfl rfl ?_
  refine g_iload_n hC dX4_colourOf_9 10 rfl rfl 1 rfl ?_
  refine g_readV hC (ct_X3_colourAt l g (A 2) o1 p0 _ h) gY_X3_colourAt dX4_colourOf_10 13 rfl ml_X4_82 _ _ (emb_off g A o1) [] rfl rfl rfl 0 7 rfl rfl ⟨Nat.le_of_ble_eq_true rfl, Nat.le_of_ble_eq_true rfl⟩ (Nat.le_of_ble_eq_true rfl) ⟨Nat.le_of_ble_eq_true rfl, Nat.le_of_ble_eq_true rfl⟩ (fun v2 h => ?_)
  refine g_widen (k2 := 1) (n2 := 6) (Nat.le_of_ble_eq_true rfl) (Nat.le_of_ble_eq_true rfl) ?_
  obtain ⟨hb, h⟩ := h
  exact g_rx hZ (g_zret (gXQ_C hC) (gXQ_Z hZ) (hb) dX4_colourOf_13 ⟨_, _, rfl, rfl, h⟩)
def wp_X4_sizeOf (post : Int32 → Off → Prop) (px : Nat → Off → Prop) (o : Off) (p0 : Int32) : Prop := wp_X4_requireSock (fun o1 => (vp_in p0 14 ∧ post (o1 2 p0.toNatClampNeg) o1)) px o p0
set_option maxRecDepth 100000 in
set_option maxHeartbeats 4000000 in
theorem ct_X4_sizeOf (l : Launch) (g : gE) (A : Nat → Nat → Nat) (o : Off) (p0 : Int32) (post : Int32 → Off → Prop) (px : Nat → Off → Prop) (h : wp_X4_sizeOf post px o p0) : FnX l g yX4_sizeOf cX4_sizeOf 2 (some .int) 8 132 1 6 (embW g A o) [.ref (A 0 0), .int p0] (pI (embW g A) post) (pX (embW g A) px) := by
  refine FnX.of (by decide) (Nat.le_of_ble_eq_true rfl) (fun x hC hZ => ?_)
  rw [wp_X4_sizeOf] at h
  show G x g 2 0 0 (embW g A o) 0 [(0, .ref (A 0 0)), (1, .int p0)] []
  refine g_aload_n hC dX4_sizeOf_0 1 rfl rfl 0 rfl ?_
  refine g_iload_n hC dX4_sizeOf_1 2 rfl rfl 1 rfl ?_
  refine g_ownVX hC hZ (ct_X4_requireSock l g A o p0 _ _ h) gY_X4_requireSock dX4_sizeOf_2 5 rfl ml_X4_79 [] rfl rfl rfl 0 8 rfl rfl ⟨Nat.le_of_ble_eq_true rfl, Nat.le_of_ble_eq_true rfl⟩ (Nat.le_of_ble_eq_true rfl) ⟨Nat.le_of_ble_eq_true rfl, Nat.le_of_ble_eq_true rfl⟩ ⟨Nat.le_of_ble_eq_true rfl, Nat.le_of_ble_eq_true rfl⟩ (fun o1 h => ?_)
  refine g_widen (k2 := 1) (n2 := 6) (Nat.le_of_ble_eq_true rfl) (Nat.le_of_ble_eq_true rfl) ?_
  refine g_aload_n hC dX4_sizeOf_5 6 rfl rfl 0 rfl ?_
  refine g_get hC fl_X4_20 dX4_sizeOf_6 9 rfl 0 rfl rfl ?_
  refine g_get hC fl_X4_86 dX4_sizeOf_9 12 rfl 8 rfl rfl ?_
  refine g_iload_n hC dX4_sizeOf_12 13 rfl rfl 1 rfl ?_
  obtain ⟨hi, h⟩ := h
  refine g_iald hC dX4_sizeOf_13 14 rfl 10 rfl hi ?_
  refine g_widen (k2 := 1) (n2 := 6) (Nat.le_of_ble_eq_true rfl) (Nat.le_of_ble_eq_true rfl) ?_
  exact g_rx hZ (g_iret (gXQ_C hC) (gXQ_Z hZ) dX4_sizeOf_14 ⟨_, _, rfl, rfl, h⟩)
def wp_X4_isAway (post : Int32 → Off → Prop) (px : Nat → Off → Prop) (o : Off) (p0 : Int32) : Prop := wp_X4_requireSock (fun o1 => (vp_in p0 14 ∧ ((¬ (o1 3 p0.toNatClampNeg) = 0 → post (0 : Int32) o1) ∧ ((o1 3 p0.toNatClampNeg) = 0 → post (1 : Int32) o1)))) px o p0
set_option maxRecDepth 100000 in
set_option maxHeartbeats 4000000 in
theorem ct_X4_isAway (l : Launch) (g : gE) (A : Nat → Nat → Nat) (o : Off) (p0 : Int32) (post : Int32 → Off → Prop) (px : Nat → Off → Prop) (h : wp_X4_isAway post px o p0) : FnX l g yX4_isAway cX4_isAway 2 (some .boolean) 8 132 1 6 (embW g A o) [.ref (A 0 0), .int p0] (pI (embW g A) post) (pX (embW g A) px) := by
  refine FnX.of (by decide) (Nat.le_of_ble_eq_true rfl) (fun x hC hZ => ?_)
  rw [wp_X4_isAway] at h
  show G x g 2 0 0 (embW g A o) 0 [(0, .ref (A 0 0)), (1, .int p0)] []
  refine g_aload_n hC dX4_isAway_0 1 rfl rfl 0 rfl ?_
  refine g_iload_n hC dX4_isAway_1 2 rfl rfl 1 rfl ?_
  refine g_ownVX hC hZ (ct_X4_requireSock l g A o p0 _ _ h) gY_X4_requireSock dX4_isAway_2 5 rfl ml_X4_79 [] rfl rfl rfl 0 8 rfl rfl ⟨Nat.le_of_ble_eq_true rfl, Nat.le_of_ble_eq_true rfl⟩ (Nat.le_of_ble_eq_true rfl) ⟨Nat.le_of_ble_eq_true rfl, Nat.le_of_ble_eq_true rfl⟩ ⟨Nat.le_of_ble_eq_true rfl, Nat.le_of_ble_eq_true rfl⟩ (fun o1 h => ?_)
  refine g_widen (k2 := 1) (n2 := 6) (Nat.le_of_ble_eq_true rfl) (Nat.le_of_ble_eq_true rfl) ?_
  refine g_aload_n hC dX4_isAway_5 6 rfl rfl 0 rfl ?_
  refine g_get hC fl_X4_20 dX4_isAway_6 9 rfl 0 rfl rfl ?_
  refine g_get hC fl_X4_90 dX4_isAway_9 12 rfl 8 rfl rfl ?_
  refine g_iload_n hC dX4_isAway_12 13 rfl rfl 1 rfl ?_
  obtain ⟨hi, h⟩ := h
  refine g_iald hC dX4_isAway_13 14 rfl 11 rfl hi ?_
  refine g_if_ne hC dX4_isAway_14 21 (by decide) 17 rfl (fun c => ?_) (fun c => ?_)
  · have h := h.1 c
    refine g_iconst hC (0 : Int32) dX4_isAway_21 22 rfl iconst_0 ?_
    refine g_widen (k2 := 1) (n2 := 6) (Nat.le_of_ble_eq_true rfl) (Nat.le_of_ble_eq_true rfl) ?_
    exact g_rx hZ (g_zret (gXQ_C hC) (gXQ_Z hZ) rfl dX4_isAway_22 ⟨_, _, rfl, rfl, h⟩)
  · have h := h.2 c
    refine g_iconst hC (1 : Int32) dX4_isAway_17 18 rfl iconst_1 ?_
    refine g_goto hC dX4_isAway_18 22 (by decide) ?_
    refine g_widen (k2 := 1) (n2 := 6) (Nat.le_of_ble_eq_true rfl) (Nat.le_of_ble_eq_true rfl) ?_
    exact g_rx hZ (g_zret (gXQ_C hC) (gXQ_Z hZ) rfl dX4_isAway_22 ⟨_, _, rfl, rfl, h⟩)
def wp_X4_isPending (post : Int32 → Off → Prop) (px : Nat → Off → Prop) (o : Off) (p0 : Int32) : Prop := wp_X4_requireSock (fun o1 => (vp_in p0 14 ∧ ((¬ (o1 3 p0.toNatClampNeg) = (1 : Int32) → post (0 : Int32) o1) ∧ ((o1 3 p0.toNatClampNeg) = (1 : Int32) → post (1 : Int32) o1)))) px o p0
set_option maxRecDepth 100000 in
set_option maxHeartbeats 4000000 in
theorem ct_X4_isPending (l : Launch) (g : gE) (A : Nat → Nat → Nat) (o : Off) (p0 : Int32) (post : Int32 → Off → Prop) (px : Nat → Off → Prop) (h : wp_X4_isPending post px o p0) : FnX l g yX4_isPending cX4_isPending 2 (some .boolean) 8 132 1 6 (embW g A o) [.ref (A 0 0), .int p0] (pI (embW g A) post) (pX (embW g A) px) := by
  refine FnX.of (by decide) (Nat.le_of_ble_eq_true rfl) (fun x hC hZ => ?_)
  rw [wp_X4_isPending] at h
  show G x g 2 0 0 (embW g A o) 0 [(0, .ref (A 0 0)), (1, .int p0)] []
  refine g_aload_n hC dX4_isPending_0 1 rfl rfl 0 rfl ?_
  refine g_iload_n hC dX4_isPending_1 2 rfl rfl 1 rfl ?_
  refine g_ownVX hC hZ (ct_X4_requireSock l g A o p0 _ _ h) gY_X4_requireSock dX4_isPending_2 5 rfl ml_X4_79 [] rfl rfl rfl 0 8 rfl rfl ⟨Nat.le_of_ble_eq_true rfl, Nat.le_of_ble_eq_true rfl⟩ (Nat.le_of_ble_eq_true rfl) ⟨Nat.le_of_ble_eq_true rfl, Nat.le_of_ble_eq_true rfl⟩ ⟨Nat.le_of_ble_eq_true rfl, Nat.le_of_ble_eq_true rfl⟩ (fun o1 h => ?_)
  refine g_widen (k2 := 1) (n2 := 6) (Nat.le_of_ble_eq_true rfl) (Nat.le_of_ble_eq_true rfl) ?_
  refine g_aload_n hC dX4_isPending_5 6 rfl rfl 0 rfl ?_
  refine g_get hC fl_X4_20 dX4_isPending_6 9 rfl 0 rfl rfl ?_
  refine g_get hC fl_X4_90 dX4_isPending_9 12 rfl 8 rfl rfl ?_
  refine g_iload_n hC dX4_isPending_12 13 rfl rfl 1 rfl ?_
  obtain ⟨hi, h⟩ := h
  refine g_iald hC dX4_isPending_13 14 rfl 11 rfl hi ?_
  refine g_iconst hC (1 : Int32) dX4_isPending_14 15 rfl iconst_1 ?_
  refine g_icmp_ne hC dX4_isPending_15 22 (by decide) 18 rfl (fun c => ?_) (fun c => ?_)
  · have h := h.1 c
    refine g_iconst hC (0 : Int32) dX4_isPending_22 23 rfl iconst_0 ?_
    refine g_widen (k2 := 1) (n2 := 6) (Nat.le_of_ble_eq_true rfl) (Nat.le_of_ble_eq_true rfl) ?_
    exact g_rx hZ (g_zret (gXQ_C hC) (gXQ_Z hZ) rfl dX4_isPending_23 ⟨_, _, rfl, rfl, h⟩)
  · have h := h.2 c
    refine g_iconst hC (1 : Int32) dX4_isPending_18 19 rfl iconst_1 ?_
    refine g_goto hC dX4_isPending_19 23 (by decide) ?_
    refine g_widen (k2 := 1) (n2 := 6) (Nat.le_of_ble_eq_true rfl) (Nat.le_of_ble_eq_true rfl) ?_
    exact g_rx hZ (g_zret (gXQ_C hC) (gXQ_Z hZ) rfl dX4_isPending_23 ⟨_, _, rfl, rfl, h⟩)
def wp_X4_isRefused (post : Int32 → Off → Prop) (px : Nat → Off → Prop) (o : Off) (p0 : Int32) : Prop := wp_X4_requireSock (fun o1 => (vp_in p0 14 ∧ ((¬ (o1 3 p0.toNatClampNeg) = (2 : Int32) → post (0 : Int32) o1) ∧ ((o1 3 p0.toNatClampNeg) = (2 : Int32) → post (1 : Int32) o1)))) px o p0
set_option maxRecDepth 100000 in
set_option maxHeartbeats 4000000 in
theorem ct_X4_isRefused (l : Launch) (g : gE) (A : Nat → Nat → Nat) (o : Off) (p0 : Int32) (post : Int32 → Off → Prop) (px : Nat → Off → Prop) (h : wp_X4_isRefused post px o p0) : FnX l g yX4_isRefused cX4_isRefused 2 (some .boolean) 8 132 1 6 (embW g A o) [.ref (A 0 0), .int p0] (pI (embW g A) post) (pX (embW g A) px) := by
  refine FnX.of (by decide) (Nat.le_of_ble_eq_true rfl) (fun x hC hZ => ?_)
  rw [wp_X4_isRefused] at h
  show G x g 2 0 0 (embW g A o) 0 [(0, .ref (A 0 0)), (1, .int p0)] []
  refine g_aload_n hC dX4_isRefused_0 1 rfl rfl 0 rfl ?_
  refine g_iload_n hC dX4_isRefused_1 2 rfl rfl 1 rfl ?_
  refine g_ownVX hC hZ (ct_X4_requireSock l g A o p0 _ _ h) gY_X4_requireSock dX4_isRefused_2 5 rfl ml_X4_79 [] rfl rfl rfl 0 8 rfl rfl ⟨Nat.le_of_ble_eq_true rfl, Nat.le_of_ble_eq_true rfl⟩ (Nat.le_of_ble_eq_true rfl) ⟨Nat.le_of_ble_eq_true rfl, Nat.le_of_ble_eq_true rfl⟩ ⟨Nat.le_of_ble_eq_true rfl, Nat.le_of_ble_eq_true rfl⟩ (fun o1 h => ?_)
  refine g_widen (k2 := 1) (n2 := 6) (Nat.le_of_ble_eq_true rfl) (Nat.le_of_ble_eq_true rfl) ?_
  refine g_aload_n hC dX4_isRefused_5 6 rfl rfl 0 rfl ?_
  refine g_get hC fl_X4_20 dX4_isRefused_6 9 rfl 0 rfl rfl ?_
  refine g_get hC fl_X4_90 dX4_isRefused_9 12 rfl 8 rfl rfl ?_
  refine g_iload_n hC dX4_isRefused_12 13 rfl rfl 1 rfl ?_
  obtain ⟨hi, h⟩ := h
  refine g_iald hC dX4_isRefused_13 14 rfl 11 rfl hi ?_
  refine g_iconst hC (2 : Int32) dX4_isRefused_14 15 rfl iconst_2 ?_
  refine g_icmp_ne hC dX4_isRefused_15 22 (by decide) 18 rfl (fun c => ?_) (fun c => ?_)
  · have h := h.1 c
    refine g_iconst hC (0 : Int32) dX4_isRefused_22 23 rfl iconst_0 ?_
    refine g_widen (k2 := 1) (n2 := 6) (Nat.le_of_ble_eq_true rfl) (Nat.le_of_ble_eq_true rfl) ?_
    exact g_rx hZ (g_zret (gXQ_C hC) (gXQ_Z hZ) rfl dX4_isRefused_23 ⟨_, _, rfl, rfl, h⟩)
  · have h := h.2 c
    refine g_iconst hC (1 : Int32) dX4_isRefused_18 19 rfl iconst_1 ?_
    refine g_goto hC dX4_isRefused_19 23 (by decide) ?_
    refine g_widen (k2 := 1) (n2 := 6) (Nat.le_of_ble_eq_true rfl) (Nat.le_of_ble_eq_true rfl) ?_
    exact g_rx hZ (g_zret (gXQ_C hC) (gXQ_Z hZ) rfl dX4_isRefused_23 ⟨_, _, rfl, rfl, h⟩)
def wp_X4_isResident (post : Int32 → Off → Prop) (px : Nat → Off → Prop) (o : Off) (p0 : Int32) : Prop := wp_X4_requireSock (fun o1 => (vp_in p0 14 ∧ ((¬ (o1 3 p0.toNatClampNeg) = (3 : Int32) → post (0 : Int32) o1) ∧ ((o1 3 p0.toNatClampNeg) = (3 : Int32) → post (1 : Int32) o1)))) px o p0
set_option maxRecDepth 100000 in
set_option maxHeartbeats 4000000 in
theorem ct_X4_isResident (l : Launch) (g : gE) (A : Nat → Nat → Nat) (o : Off) (p0 : Int32) (post : Int32 → Off → Prop) (px : Nat → Off → Prop) (h : wp_X4_isResident post px o p0) : FnX l g yX4_isResident cX4_isResident 2 (some .boolean) 8 132 1 6 (embW g A o) [.ref (A 0 0), .int p0] (pI (embW g A) post) (pX (embW g A) px) := by
  refine FnX.of (by decide) (Nat.le_of_ble_eq_true rfl) (fun x hC hZ => ?_)
  rw [wp_X4_isResident] at h
  show G x g 2 0 0 (embW g A o) 0 [(0, .ref (A 0 0)), (1, .int p0)] []
  refine g_aload_n hC dX4_isResident_0 1 rfl rfl 0 rfl ?_
  refine g_iload_n hC dX4_isResident_1 2 rfl rfl 1 rfl ?_
  refine g_ownVX hC hZ (ct_X4_requireSock l g A o p0 _ _ h) gY_X4_requireSock dX4_isResident_2 5 rfl ml_X4_79 [] rfl rfl rfl 0 8 rfl rfl ⟨Nat.le_of_ble_eq_true rfl, Nat.le_of_ble_eq_true rfl⟩ (Nat.le_of_ble_eq_true rfl) ⟨Nat.le_of_ble_eq_true rfl, Nat.le_of_ble_eq_true rfl⟩ ⟨Nat.le_of_ble_eq_true rfl, Nat.le_of_ble_eq_true rfl⟩ (fun o1 h => ?_)
  refine g_widen (k2 := 1) (n2 := 6) (Nat.le_of_ble_eq_true rfl) (Nat.le_of_ble_eq_true rfl) ?_
  refine g_aload_n hC dX4_isResident_5 6 rfl rfl 0 rfl ?_
  refine g_get hC fl_X4_20 dX4_isResident_6 9 rfl 0 rfl rfl ?_
  refine g_get hC fl_X4_90 dX4_isResident_9 12 rfl 8 rfl rfl ?_
  refine g_iload_n hC dX4_isResident_12 13 rfl rfl 1 rfl ?_
  obtain ⟨hi, h⟩ := h
  refine g_iald hC dX4_isResident_13 14 rfl 11 rfl hi ?_
  refine g_iconst hC (3 : Int32) dX4_isResident_14 15 rfl iconst_3 ?_
  refine g_icmp_ne hC dX4_isResident_15 22 (by decide) 18 rfl (fun c => ?_) (fun c => ?_)
  · have h := h.1 c
    refine g_iconst hC (0 : Int32) dX4_isResident_22 23 rfl iconst_0 ?_
    refine g_widen (k2 := 1) (n2 := 6) (Nat.le_of_ble_eq_true rfl) (Nat.le_of_ble_eq_true rfl) ?_
    exact g_rx hZ (g_zret (gXQ_C hC) (gXQ_Z hZ) rfl dX4_isResident_23 ⟨_, _, rfl, rfl, h⟩)
  · have h := h.2 c
    refine g_iconst hC (1 : Int32) dX4_isResident_18 19 rfl iconst_1 ?_
    refine g_goto hC dX4_isResident_19 23 (by decide) ?_
    refine g_widen (k2 := 1) (n2 := 6) (Nat.le_of_ble_eq_true rfl) (Nat.le_of_ble_eq_true rfl) ?_
    exact g_rx hZ (g_zret (gXQ_C hC) (gXQ_Z hZ) rfl dX4_isResident_23 ⟨_, _, rfl, rfl, h⟩)
def wj_X4_drawerOf_23 (post : Int32 → Off → Prop) (px : Nat → Off → Prop) (o : Off) (x1 : Int32) (s0 : Int32) : Prop := wp_X4_requireElement (fun o2 => (vp_in x1 14 ∧ post (o2 4 x1.toNatClampNeg) o2)) px o s0
def wp_X4_drawerOf (post : Int32 → Off → Prop) (px : Nat → Off → Prop) (o : Off) (p0 : Int32) : Prop := wp_X4_requireSock (fun o1 => (vp_in p0 14 ∧ (((o1 3 p0.toNatClampNeg) = 0 → wj_X4_drawerOf_23 post px o1 p0 (0 : Int32)) ∧ (¬ (o1 3 p0.toNatClampNeg) = 0 → wj_X4_drawerOf_23 post px o1 p0 (1 : Int32))))) px o p0
set_option maxRecDepth 100000 in
set_option maxHeartbeats 4000000 in
theorem jn_X4_drawerOf_23 {x : gX} {l : Launch} {g : gE} {A : Nat → Nat → Nat} {o0 : Off} {post : Int32 → Off → Prop} {px : Nat → Off → Prop} (hC : gC x l cX4_drawerOf 2 RX4 g 8 132 2 12) (hZ : gZX x g (some .int) (embW g A o0) (pI (embW g A) post) (pX (embW g A) px) 2 12) : ∀ (o : Off) (x1 : Int32) (s0 : Int32) , wj_X4_drawerOf_23 post px o x1 s0 → G x g 2 1 6 (embW g A o) 23 [(0, .ref (A 0 0)), (1, .int x1)] [.int s0, .ref (A 0 0)] := by
  intro o x1 s0 h
  rw [wj_X4_drawerOf_23] at h
  refine g_ownVX hC hZ (ct_X4_requireElement l g A o s0 _ _ h) gY_X4_requireElement dX4_drawerOf_23 26 rfl ml_X4_93 [] rfl rfl rfl 0 8 rfl rfl ⟨Nat.le_of_ble_eq_true rfl, Nat.le_of_ble_eq_true rfl⟩ (Nat.le_of_ble_eq_true rfl) ⟨Nat.le_of_ble_eq_true rfl, Nat.le_of_ble_eq_true rfl⟩ ⟨Nat.le_of_ble_eq_true rfl, Nat.le_of_ble_eq_true rfl⟩ (fun o2 h => ?_)
  refine g_widen (k2 := 2) (n2 := 12) (Nat.le_of_ble_eq_true rfl) (Nat.le_of_ble_eq_true rfl) ?_
  refine g_aload_n hC dX4_drawerOf_26 27 rfl rfl 0 rfl ?_
  refine g_get hC fl_X4_20 dX4_drawerOf_27 30 rfl 0 rfl rfl ?_
  refine g_get hC fl_X4_97 dX4_drawerOf_30 33 rfl 8 rfl rfl ?_
  refine g_iload_n hC dX4_drawerOf_33 34 rfl rfl 1 rfl ?_
  obtain ⟨hi, h⟩ := h
  refine g_iald hC dX4_drawerOf_34 35 rfl 12 rfl hi ?_
  refine g_widen (k2 := 2) (n2 := 12) (Nat.le_of_ble_eq_true rfl) (Nat.le_of_ble_eq_true rfl) ?_
  exact g_rx hZ (g_iret (gXQ_C hC) (gXQ_Z hZ) dX4_drawerOf_35 ⟨_, _, rfl, rfl, h⟩)
set_option maxRecDepth 100000 in
set_option maxHeartbeats 4000000 in
theorem ct_X4_drawerOf (l : Launch) (g : gE) (A : Nat → Nat → Nat) (o : Off) (p0 : Int32) (post : Int32 → Off → Prop) (px : Nat → Off → Prop) (h : wp_X4_drawerOf post px o p0) : FnX l g yX4_drawerOf cX4_drawerOf 2 (some .int) 8 132 2 12 (embW g A o) [.ref (A 0 0), .int p0] (pI (embW g A) post) (pX (embW g A) px) := by
  refine FnX.of (by decide) (Nat.le_of_ble_eq_true rfl) (fun x hC hZ => ?_)
  rw [wp_X4_drawerOf] at h
  show G x g 2 0 0 (embW g A o) 0 [(0, .ref (A 0 0)), (1, .int p0)] []
  refine g_aload_n hC dX4_drawerOf_0 1 rfl rfl 0 rfl ?_
  refine g_iload_n hC dX4_drawerOf_1 2 rfl rfl 1 rfl ?_
  refine g_ownVX hC hZ (ct_X4_requireSock l g A o p0 _ _ h) gY_X4_requireSock dX4_drawerOf_2 5 rfl ml_X4_79 [] rfl rfl rfl 0 8 rfl rfl ⟨Nat.le_of_ble_eq_true rfl, Nat.le_of_ble_eq_true rfl⟩ (Nat.le_of_ble_eq_true rfl) ⟨Nat.le_of_ble_eq_true rfl, Nat.le_of_ble_eq_true rfl⟩ ⟨Nat.le_of_ble_eq_true rfl, Nat.le_of_ble_eq_true rfl⟩ (fun o1 h => ?_)
  refine g_widen (k2 := 1) (n2 := 6) (Nat.le_of_ble_eq_true rfl) (Nat.le_of_ble_eq_true rfl) ?_
  refine g_aload_n hC dX4_drawerOf_5 6 rfl rfl 0 rfl ?_
  refine g_aload_n hC dX4_drawerOf_6 7 rfl rfl 0 rfl ?_
  refine g_get hC fl_X4_20 dX4_drawerOf_7 10 rfl 0 rfl rfl ?_
  refine g_get hC fl_X4_90 dX4_drawerOf_10 13 rfl 8 rfl rfl ?_
  refine g_iload_n hC dX4_drawerOf_13 14 rfl rfl 1 rfl ?_
  obtain ⟨hi, h⟩ := h
  refine g_iald hC dX4_drawerOf_14 15 rfl 11 rfl hi ?_
  refine g_if_eq hC dX4_drawerOf_15 22 (by decide) 18 rfl (fun c => ?_) (fun c => ?_)
  · have h := h.1 c
    refine g_iconst hC (0 : Int32) dX4_drawerOf_22 23 rfl iconst_0 ?_
    exact jn_X4_drawerOf_23 hC hZ o1 p0 (0 : Int32) h
  · have h := h.2 c
    refine g_iconst hC (1 : Int32) dX4_drawerOf_18 19 rfl iconst_1 ?_
    refine g_goto hC dX4_drawerOf_19 23 (by decide) ?_
    exact jn_X4_drawerOf_23 hC hZ o1 p0 (1 : Int32) h
def wp_X4_levelOf (post : Int32 → Off → Prop) (px : Nat → Off → Prop) (o : Off) (p0 : Int32) : Prop := wp_X4_requireSock (fun o1 => wp_X3_hasApplication (fun v2 => wp_X4_requireElement (fun o3 => (vp_in p0 14 ∧ post (o3 5 p0.toNatClampNeg) o3)) px o1 v2) o1 p0) px o p0
set_option maxRecDepth 100000 in
set_option maxHeartbeats 4000000 in
theorem ct_X4_levelOf (l : Launch) (g : gE) (A : Nat → Nat → Nat) (o : Off) (p0 : Int32) (post : Int32 → Off → Prop) (px : Nat → Off → Prop) (h : wp_X4_levelOf post px o p0) : FnX l g yX4_levelOf cX4_levelOf 2 (some .int) 8 132 2 12 (embW g A o) [.ref (A 0 0), .int p0] (pI (embW g A) post) (pX (embW g A) px) := by
  refine FnX.of (by decide) (Nat.le_of_ble_eq_true rfl) (fun x hC hZ => ?_)
  rw [wp_X4_levelOf] at h
  show G x g 2 0 0 (embW g A o) 0 [(0, .ref (A 0 0)), (1, .int p0)] []
  refine g_aload_n hC dX4_levelOf_0 1 rfl rfl 0 rfl ?_
  refine g_iload_n hC dX4_levelOf_1 2 rfl rfl 1 rfl ?_
  refine g_ownVX hC hZ (ct_X4_requireSock l g A o p0 _ _ h) gY_X4_requireSock dX4_levelOf_2 5 rfl ml_X4_79 [] rfl rfl rfl 0 8 rfl rfl ⟨Nat.le_of_ble_eq_true rfl, Nat.le_of_ble_eq_true rfl⟩ (Nat.le_of_ble_eq_true rfl) ⟨Nat.le_of_ble_eq_true rfl, Nat.le_of_ble_eq_true rfl⟩ ⟨Nat.le_of_ble_eq_true rfl, Nat.le_of_ble_eq_true rfl⟩ (fun o1 h => ?_)
  refine g_widen (k2 := 1) (n2 := 6) (Nat.le_of_ble_eq_true rfl) (Nat.le_of_ble_eq_true rfl) ?_
  refine g_aload_n hC dX4_levelOf_5 6 rfl rfl 0 rfl ?_
  refine g_aload_n hC dX4_levelOf_6 7 rfl rfl 0 rfl ?_
  refine g_get hC fl_X4_20 dX4_levelOf_7 10 rfl 0 rfl rfl ?_
  refine g_iload_n hC dX4_levelOf_10 11 rfl rfl 1 rfl ?_
  refine g_readV hC (ct_X3_hasApplication l g (A 2) o1 p0 _ h) gY_X3_hasApplication dX4_levelOf_11 14 rfl ml_X4_100 _ _ (emb_off g A o1) [.ref (A 0 0)] rfl rfl rfl 0 7 rfl rfl ⟨Nat.le_of_ble_eq_true rfl, Nat.le_of_ble_eq_true rfl⟩ (Nat.le_of_ble_eq_true rfl) ⟨Nat.le_of_ble_eq_true rfl, Nat.le_of_ble_eq_true rfl⟩ (fun v2 h => ?_)
  refine g_ownVX hC hZ (ct_X4_requireElement l g A o1 v2 _ _ h) gY_X4_requireElement dX4_levelOf_14 17 rfl ml_X4_93 [] rfl rfl rfl 0 8 rfl rfl ⟨Nat.le_of_ble_eq_true rfl, Nat.le_of_ble_eq_true rfl⟩ (Nat.le_of_ble_eq_true rfl) ⟨Nat.le_of_ble_eq_true rfl, Nat.le_of_ble_eq_true rfl⟩ ⟨Nat.le_of_ble_eq_true rfl, Nat.le_of_ble_eq_true rfl⟩ (fun o3 h => ?_)
  refine g_widen (k2 := 2) (n2 := 12) (Nat.le_of_ble_eq_true rfl) (Nat.le_of_ble_eq_true rfl) ?_
  refine g_aload_n hC dX4_levelOf_17 18 rfl rfl 0 rfl ?_
  refine g_get hC fl_X4_20 dX4_levelOf_18 21 rfl 0 rfl rfl ?_
  refine g_get hC fl_X4_104 dX4_levelOf_21 24 rfl 8 rfl rfl ?_
  refine g_iload_n hC dX4_levelOf_24 25 rfl rfl 1 rfl ?_
  obtain ⟨hi, h⟩ := h
  refine g_iald hC dX4_levelOf_25 26 rfl 13 rfl hi ?_
  refine g_widen (k2 := 2) (n2 := 12) (Nat.le_of_ble_eq_true rfl) (Nat.le_of_ble_eq_true rfl) ?_
  exact g_rx hZ (g_iret (gXQ_C hC) (gXQ_Z hZ) dX4_levelOf_26 ⟨_, _, rfl, rfl, h⟩)
def wj_X4_visaDay_24 (post : Int32 → Off → Prop) (px : Nat → Off → Prop) (o : Off) (x1 : Int32) (s0 : Int32) : Prop := wp_X4_requireElement (fun o2 => (vp_in x1 14 ∧ post (o2 7 x1.toNatClampNeg) o2)) px o s0
def wp_X4_visaDay (post : Int32 → Off → Prop) (px : Nat → Off → Prop) (o : Off) (p0 : Int32) : Prop := wp_X4_requireSock (fun o1 => (vp_in p0 14 ∧ ((¬ (o1 3 p0.toNatClampNeg) = (3 : Int32) → wj_X4_visaDay_24 post px o1 p0 (0 : Int32)) ∧ ((o1 3 p0.toNatClampNeg) = (3 : Int32) → wj_X4_visaDay_24 post px o1 p0 (1 : Int32))))) px o p0
set_option maxRecDepth 100000 in
set_option maxHeartbeats 4000000 in
theorem jn_X4_visaDay_24 {x : gX} {l : Launch} {g : gE} {A : Nat → Nat → Nat} {o0 : Off} {post : Int32 → Off → Prop} {px : Nat → Off → Prop} (hC : gC x l cX4_visaDay 2 RX4 g 8 132 2 12) (hZ : gZX x g (some .int) (embW g A o0) (pI (embW g A) post) (pX (embW g A) px) 2 12) : ∀ (o : Off) (x1 : Int32) (s0 : Int32) , wj_X4_visaDay_24 post px o x1 s0 → G x g 2 1 6 (embW g A o) 24 [(0, .ref (A 0 0)), (1, .int x1)] [.int s0, .ref (A 0 0)] := by
  intro o x1 s0 h
  rw [wj_X4_visaDay_24] at h
  refine g_ownVX hC hZ (ct_X4_requireElement l g A o s0 _ _ h) gY_X4_requireElement dX4_visaDay_24 27 rfl ml_X4_93 [] rfl rfl rfl 0 8 rfl rfl ⟨Nat.le_of_ble_eq_true rfl, Nat.le_of_ble_eq_true rfl⟩ (Nat.le_of_ble_eq_true rfl) ⟨Nat.le_of_ble_eq_true rfl, Nat.le_of_ble_eq_true rfl⟩ ⟨Nat.le_of_ble_eq_true rfl, Nat.le_of_ble_eq_true rfl⟩ (fun o2 h => ?_)
  refine g_widen (k2 := 2) (n2 := 12) (Nat.le_of_ble_eq_true rfl) (Nat.le_of_ble_eq_true rfl) ?_
  refine g_aload_n hC dX4_visaDay_27 28 rfl rfl 0 rfl ?_
  refine g_get hC fl_X4_20 dX4_visaDay_28 31 rfl 0 rfl rfl ?_
  refine g_get hC fl_X4_107 dX4_visaDay_31 34 rfl 8 rfl rfl ?_
  refine g_iload_n hC dX4_visaDay_34 35 rfl rfl 1 rfl ?_
  obtain ⟨hi, h⟩ := h
  refine g_iald hC dX4_visaDay_35 36 rfl 15 rfl hi ?_
  refine g_widen (k2 := 2) (n2 := 12) (Nat.le_of_ble_eq_true rfl) (Nat.le_of_ble_eq_true rfl) ?_
  exact g_rx hZ (g_iret (gXQ_C hC) (gXQ_Z hZ) dX4_visaDay_36 ⟨_, _, rfl, rfl, h⟩)
set_option maxRecDepth 100000 in
set_option maxHeartbeats 4000000 in
theorem ct_X4_visaDay (l : Launch) (g : gE) (A : Nat → Nat → Nat) (o : Off) (p0 : Int32) (post : Int32 → Off → Prop) (px : Nat → Off → Prop) (h : wp_X4_visaDay post px o p0) : FnX l g yX4_visaDay cX4_visaDay 2 (some .int) 8 132 2 12 (embW g A o) [.ref (A 0 0), .int p0] (pI (embW g A) post) (pX (embW g A) px) := by
  refine FnX.of (by decide) (Nat.le_of_ble_eq_true rfl) (fun x hC hZ => ?_)
  rw [wp_X4_visaDay] at h
  show G x g 2 0 0 (embW g A o) 0 [(0, .ref (A 0 0)), (1, .int p0)] []
  refine g_aload_n hC dX4_visaDay_0 1 rfl rfl 0 rfl ?_
  refine g_iload_n hC dX4_visaDay_1 2 rfl rfl 1 rfl ?_
  refine g_ownVX hC hZ (ct_X4_requireSock l g A o p0 _ _ h) gY_X4_requireSock dX4_visaDay_2 5 rfl ml_X4_79 [] rfl rfl rfl 0 8 rfl rfl ⟨Nat.le_of_ble_eq_true rfl, Nat.le_of_ble_eq_true rfl⟩ (Nat.le_of_ble_eq_true rfl) ⟨Nat.le_of_ble_eq_true rfl, Nat.le_of_ble_eq_true rfl⟩ ⟨Nat.le_of_ble_eq_true rfl, Nat.le_of_ble_eq_true rfl⟩ (fun o1 h => ?_)
  refine g_widen (k2 := 1) (n2 := 6) (Nat.le_of_ble_eq_true rfl) (Nat.le_of_ble_eq_true rfl) ?_
  refine g_aload_n hC dX4_visaDay_5 6 rfl rfl 0 rfl ?_
  refine g_aload_n hC dX4_visaDay_6 7 rfl rfl 0 rfl ?_
  refine g_get hC fl_X4_20 dX4_visaDay_7 10 rfl 0 rfl rfl ?_
  refine g_get hC fl_X4_90 dX4_visaDay_10 13 rfl 8 rfl rfl ?_
  refine g_iload_n hC dX4_visaDay_13 14 rfl rfl 1 rfl ?_
  obtain ⟨hi, h⟩ := h
  refine g_iald hC dX4_visaDay_14 15 rfl 11 rfl hi ?_
  refine g_iconst hC (3 : Int32) dX4_visaDay_15 16 rfl iconst_3 ?_
  refine g_icmp_ne hC dX4_visaDay_16 23 (by decide) 19 rfl (fun c => ?_) (fun c => ?_)
  · have h := h.1 c
    refine g_iconst hC (0 : Int32) dX4_visaDay_23 24 rfl iconst_0 ?_
    exact jn_X4_visaDay_24 hC hZ o1 p0 (0 : Int32) h
  · have h := h.2 c
    refine g_iconst hC (1 : Int32) dX4_visaDay_19 20 rfl iconst_1 ?_
    refine g_goto hC dX4_visaDay_20 24 (by decide) ?_
    exact jn_X4_visaDay_24 hC hZ o1 p0 (1 : Int32) h
def wj_X4_partnerOf_24 (post : Int32 → Off → Prop) (px : Nat → Off → Prop) (o : Off) (x1 : Int32) (s0 : Int32) : Prop := wp_X4_requireElement (fun o2 => (vp_in x1 14 ∧ post (o2 8 x1.toNatClampNeg) o2)) px o s0
def wp_X4_partnerOf (post : Int32 → Off → Prop) (px : Nat → Off → Prop) (o : Off) (p0 : Int32) : Prop := wp_X4_requireSock (fun o1 => (vp_in p0 14 ∧ (((o1 8 p0.toNatClampNeg) = (-1 : Int32) → wj_X4_partnerOf_24 post px o1 p0 (0 : Int32)) ∧ (¬ (o1 8 p0.toNatClampNeg) = (-1 : Int32) → wj_X4_partnerOf_24 post px o1 p0 (1 : Int32))))) px o p0
set_option maxRecDepth 100000 in
set_option maxHeartbeats 4000000 in
theorem jn_X4_partnerOf_24 {x : gX} {l : Launch} {g : gE} {A : Nat → Nat → Nat} {o0 : Off} {post : Int32 → Off → Prop} {px : Nat → Off → Prop} (hC : gC x l cX4_partnerOf 2 RX4 g 8 132 2 12) (hZ : gZX x g (some .int) (embW g A o0) (pI (embW g A) post) (pX (embW g A) px) 2 12) : ∀ (o : Off) (x1 : Int32) (s0 : Int32) , wj_X4_partnerOf_24 post px o x1 s0 → G x g 2 1 6 (embW g A o) 24 [(0, .ref (A 0 0)), (1, .int x1)] [.int s0, .ref (A 0 0)] := by
  intro o x1 s0 h
  rw [wj_X4_partnerOf_24] at h
  refine g_ownVX hC hZ (ct_X4_requireElement l g A o s0 _ _ h) gY_X4_requireElement dX4_partnerOf_24 27 rfl ml_X4_93 [] rfl rfl rfl 0 8 rfl rfl ⟨Nat.le_of_ble_eq_true rfl, Nat.le_of_ble_eq_true rfl⟩ (Nat.le_of_ble_eq_true rfl) ⟨Nat.le_of_ble_eq_true rfl, Nat.le_of_ble_eq_true rfl⟩ ⟨Nat.le_of_ble_eq_true rfl, Nat.le_of_ble_eq_true rfl⟩ (fun o2 h => ?_)
  refine g_widen (k2 := 2) (n2 := 12) (Nat.le_of_ble_eq_true rfl) (Nat.le_of_ble_eq_true rfl) ?_
  refine g_aload_n hC dX4_partnerOf_27 28 rfl rfl 0 rfl ?_
  refine g_get hC fl_X4_20 dX4_partnerOf_28 31 rfl 0 rfl rfl ?_
  refine g_get hC fl_X4_110 dX4_partnerOf_31 34 rfl 8 rfl rfl ?_
  refine g_iload_n hC dX4_partnerOf_34 35 rfl rfl 1 rfl ?_
  obtain ⟨hi, h⟩ := h
  refine g_iald hC dX4_partnerOf_35 36 rfl 16 rfl hi ?_
  refine g_widen (k2 := 2) (n2 := 12) (Nat.le_of_ble_eq_true rfl) (Nat.le_of_ble_eq_true rfl) ?_
  exact g_rx hZ (g_iret (gXQ_C hC) (gXQ_Z hZ) dX4_partnerOf_36 ⟨_, _, rfl, rfl, h⟩)
set_option maxRecDepth 100000 in
set_option maxHeartbeats 4000000 in
theorem ct_X4_partnerOf (l : Launch) (g : gE) (A : Nat → Nat → Nat) (o : Off) (p0 : Int32) (post : Int32 → Off → Prop) (px : Nat → Off → Prop) (h : wp_X4_partnerOf post px o p0) : FnX l g yX4_partnerOf cX4_partnerOf 2 (some .int) 8 132 2 12 (embW g A o) [.ref (A 0 0), .int p0] (pI (embW g A) post) (pX (embW g A) px) := by
  refine FnX.of (by decide) (Nat.le_of_ble_eq_true rfl) (fun x hC hZ => ?_)
  rw [wp_X4_partnerOf] at h
  show G x g 2 0 0 (embW g A o) 0 [(0, .ref (A 0 0)), (1, .int p0)] []
  refine g_aload_n hC dX4_partnerOf_0 1 rfl rfl 0 rfl ?_
  refine g_iload_n hC dX4_partnerOf_1 2 rfl rfl 1 rfl ?_
  refine g_ownVX hC hZ (ct_X4_requireSock l g A o p0 _ _ h) gY_X4_requireSock dX4_partnerOf_2 5 rfl ml_X4_79 [] rfl rfl rfl 0 8 rfl rfl ⟨Nat.le_of_ble_eq_true rfl, Nat.le_of_ble_eq_true rfl⟩ (Nat.le_of_ble_eq_true rfl) ⟨Nat.le_of_ble_eq_true rfl, Nat.le_of_ble_eq_true rfl⟩ ⟨Nat.le_of_ble_eq_true rfl, Nat.le_of_ble_eq_true rfl⟩ (fun o1 h => ?_)
  refine g_widen (k2 := 1) (n2 := 6) (Nat.le_of_ble_eq_true rfl) (Nat.le_of_ble_eq_true rfl) ?_
  refine g_aload_n hC dX4_partnerOf_5 6 rfl rfl 0 rfl ?_
  refine g_aload_n hC dX4_partnerOf_6 7 rfl rfl 0 rfl ?_
  refine g_get hC fl_X4_20 dX4_partnerOf_7 10 rfl 0 rfl rfl ?_
  refine g_get hC fl_X4_110 dX4_partnerOf_10 13 rfl 8 rfl rfl ?_
  refine g_iload_n hC dX4_partnerOf_13 14 rfl rfl 1 rfl ?_
  obtain ⟨hi, h⟩ := h
  refine g_iald hC dX4_partnerOf_14 15 rfl 16 rfl hi ?_
  refine g_iconst hC (-1 : Int32) dX4_partnerOf_15 16 rfl iconst_m1 ?_
  refine g_icmp_eq hC dX4_partnerOf_16 23 (by decide) 19 rfl (fun c => ?_) (fun c => ?_)
  · have h := h.1 c
    refine g_iconst hC (0 : Int32) dX4_partnerOf_23 24 rfl iconst_0 ?_
    exact jn_X4_partnerOf_24 hC hZ o1 p0 (0 : Int32) h
  · have h := h.2 c
    refine g_iconst hC (1 : Int32) dX4_partnerOf_19 20 rfl iconst_1 ?_
    refine g_goto hC dX4_partnerOf_20 24 (by decide) ?_
    exact jn_X4_partnerOf_24 hC hZ o1 p0 (1 : Int32) h
def wp_X4_matches (post : Int32 → Off → Prop) (px : Nat → Off → Prop) (o : Off) (p0 : Int32) (p1 : Int32) : Prop := wp_X4_requireSock (fun o1 => wp_X4_requireSock (fun o2 => wp_X3_match (fun v3 => (isB v3 ∧ post v3 o2)) o2 p0 p1) px o1 p1) px o p0
set_option maxRecDepth 100000 in
set_option maxHeartbeats 4000000 in
theorem ct_X4_matches (l : Launch) (g : gE) (A : Nat → Nat → Nat) (o : Off) (p0 : Int32) (p1 : Int32) (post : Int32 → Off → Prop) (px : Nat → Off → Prop) (h : wp_X4_matches post px o p0 p1) : FnX l g yX4_matches cX4_matches 3 (some .boolean) 8 132 2 12 (embW g A o) [.ref (A 0 0), .int p0, .int p1] (pI (embW g A) post) (pX (embW g A) px) := by
  refine FnX.of (by decide) (Nat.le_of_ble_eq_true rfl) (fun x hC hZ => ?_)
  rw [wp_X4_matches] at h
  show G x g 3 0 0 (embW g A o) 0 [(0, .ref (A 0 0)), (1, .int p0), (2, .int p1)] []
  refine g_aload_n hC dX4_matches_0 1 rfl rfl 0 rfl ?_
  refine g_iload_n hC dX4_matches_1 2 rfl rfl 1 rfl ?_
  refine g_ownVX hC hZ (ct_X4_requireSock l g A o p0 _ _ h) gY_X4_requireSock dX4_matches_2 5 rfl ml_X4_79 [] rfl rfl rfl 0 8 rfl rfl ⟨Nat.le_of_ble_eq_true rfl, Nat.le_of_ble_eq_true rfl⟩ (Nat.le_of_ble_eq_true rfl) ⟨Nat.le_of_ble_eq_true rfl, Nat.le_of_ble_eq_true rfl⟩ ⟨Nat.le_of_ble_eq_true rfl, Nat.le_of_ble_eq_true rfl⟩ (fun o1 h => ?_)
  refine g_widen (k2 := 1) (n2 := 6) (Nat.le_of_ble_eq_true rfl) (Nat.le_of_ble_eq_true rfl) ?_
  refine g_aload_n hC dX4_matches_5 6 rfl rfl 0 rfl ?_
  refine g_iload_n hC dX4_matches_6 7 rfl rfl 2 rfl ?_
  refine g_ownVX hC hZ (ct_X4_requireSock l g A o1 p1 _ _ h) gY_X4_requireSock dX4_matches_7 10 rfl ml_X4_79 [] rfl rfl rfl 0 8 rfl rfl ⟨Nat.le_of_ble_eq_true rfl, Nat.le_of_ble_eq_true rfl⟩ (Nat.le_of_ble_eq_true rfl) ⟨Nat.le_of_ble_eq_true rfl, Nat.le_of_ble_eq_true rfl⟩ ⟨Nat.le_of_ble_eq_true rfl, Nat.le_of_ble_eq_true rfl⟩ (fun o2 h => ?_)
  refine g_widen (k2 := 2) (n2 := 12) (Nat.le_of_ble_eq_true rfl) (Nat.le_of_ble_eq_true rfl) ?_
  refine g_aload_n hC dX4_matches_10 11 rfl rfl 0 rfl ?_
  refine g_get hC fl_X4_20 dX4_matches_11 14 rfl 0 rfl rfl ?_
  refine g_iload_n hC dX4_matches_14 15 rfl rfl 1 rfl ?_
  refine g_iload_n hC dX4_matches_15 16 rfl rfl 2 rfl ?_
  refine g_readV hC (ct_X3_match l g (A 2) o2 p0 p1 _ h) gY_X3_match dX4_matches_16 19 rfl ml_X4_113 _ _ (emb_off g A o2) [] rfl rfl rfl 0 7 rfl rfl ⟨Nat.le_of_ble_eq_true rfl, Nat.le_of_ble_eq_true rfl⟩ (Nat.le_of_ble_eq_true rfl) ⟨Nat.le_of_ble_eq_true rfl, Nat.le_of_ble_eq_true rfl⟩ (fun v3 h => ?_)
  refine g_widen (k2 := 2) (n2 := 12) (Nat.le_of_ble_eq_true rfl) (Nat.le_of_ble_eq_true rfl) ?_
  obtain ⟨hb, h⟩ := h
  exact g_rx hZ (g_zret (gXQ_C hC) (gXQ_Z hZ) (isB_n hb) dX4_matches_19 ⟨_, _, rfl, rfl, h⟩)
def wp_X4_apply (post : Int32 → Off → Prop) (px : Nat → Off → Prop) (o : Off) (p0 : Int32) (p1 : Int32) : Prop := wp_X0_applying (fun v3 o1 => (∀ o2 : Off, o2 = put o 0 13 o1 → wp_X4_require (fun o4 => (∃ i6 : Nat, i6 < 8 ∧ o4 60 2 = nI i6 ∧ (∀ o5 : Off, o5 = keepH o4 o4 i6 → wp_X3_file (fun v9 o7 => (∀ o8 : Off, o8 = put o5 0 12 o7 → post v9 o8)) o5 p0 p1))) px o2 v3)) o p0 p1
set_option maxRecDepth 100000 in
set_option maxHeartbeats 4000000 in
theorem ct_X4_apply (l : Launch) (g : gE) (A : Nat → Nat → Nat) (o : Off) (p0 : Int32) (p1 : Int32) (post : Int32 → Off → Prop) (px : Nat → Off → Prop) (h : wp_X4_apply post px o p0 p1) : FnX l g yX4_apply cX4_apply 3 (some .int) 8 363 4 24 (embW g A o) [.ref (A 0 0), .int p0, .int p1] (pI (embW g A) post) (pX (embW g A) px) := by
  refine FnX.of (by decide) (Nat.le_of_ble_eq_true rfl) (fun x hC hZ => ?_)
  rw [wp_X4_apply] at h
  show G x g 3 0 0 (embW g A o) 0 [(0, .ref (A 0 0)), (1, .int p0), (2, .int p1)] []
  refine g_aload_n hC dX4_apply_0 1 rfl rfl 0 rfl ?_
  refine g_aload_n hC dX4_apply_1 2 rfl rfl 0 rfl ?_
  refine g_get hC fl_X4_10 dX4_apply_2 5 rfl 0 rfl rfl ?_
  refine g_iload_n hC dX4_apply_5 6 rfl rfl 1 rfl ?_
  refine g_iload_n hC dX4_apply_6 7 rfl rfl 2 rfl ?_
  refine g_subI hC (ct_X0_applying l g (A 1 0) (A 2) o p0 p1 _ h) gY_X0_applying dX4_apply_7 10 rfl ml_X4_117 (emb_chk g A o) (emb_chk1 g A o) [.ref (A 0 0)] rfl rfl rfl 0 4 rfl rfl ⟨Nat.le_of_ble_eq_true rfl, Nat.le_of_ble_eq_true rfl⟩ (Nat.le_of_ble_eq_true rfl) ⟨Nat.le_of_ble_eq_true rfl, Nat.le_of_ble_eq_true rfl⟩ (fun v3 o1 h => ?_)
  obtain ⟨o2, eo2⟩ : ∃ y : Off, y = put o 0 13 o1 := ⟨_, rfl⟩
  have h := h o2 eo2
  rw [← eo2]
  refine g_ownVX hC hZ (ct_X4_require l g A o2 v3 _ _ h) gY_X4_require dX4_apply_10 13 rfl ml_X4_65 [] rfl rfl rfl 0 8 rfl rfl ⟨Nat.le_of_ble_eq_true rfl, Nat.le_of_ble_eq_true rfl⟩ (Nat.le_of_ble_eq_true rfl) ⟨Nat.le_of_ble_eq_true rfl, Nat.le_of_ble_eq_true rfl⟩ ⟨Nat.le_of_ble_eq_true rfl, Nat.le_of_ble_eq_true rfl⟩ (fun o4 h => ?_)
  refine g_widen (k2 := 4) (n2 := 24) (Nat.le_of_ble_eq_true rfl) (Nat.le_of_ble_eq_true rfl) ?_
  refine g_aload_n hC dX4_apply_13 14 rfl rfl 0 rfl ?_
  refine g_get hC fl_X4_30 dX4_apply_14 17 rfl 0 rfl rfl ?_
  refine g_aload_n hC dX4_apply_17 18 rfl rfl 0 rfl ?_
  refine g_get hC fl_X4_20 dX4_apply_18 21 rfl 0 rfl rfl ?_
  obtain ⟨i6, hi8, hi, h⟩ := h
  refine g_keepO hC hi8 hi dX4_apply_21 24 rfl ⟨Nat.le_of_ble_eq_true rfl, Nat.le_of_ble_eq_true rfl⟩ (Nat.le_of_ble_eq_true rfl) ⟨Nat.le_of_ble_eq_true rfl, Nat.le_of_ble_eq_true rfl⟩ ?_
  obtain ⟨o5, eo5⟩ : ∃ y : Off, y = keepH o4 o4 i6 := ⟨_, rfl⟩
  have h := h o5 eo5
  rw [← eo5]
  refine g_aload_n hC dX4_apply_24 25 rfl rfl 0 rfl ?_
  refine g_get hC fl_X4_20 dX4_apply_25 28 rfl 0 rfl rfl ?_
  refine g_iload_n hC dX4_apply_28 29 rfl rfl 1 rfl ?_
  refine g_iload_n hC dX4_apply_29 30 rfl rfl 2 rfl ?_
  refine g_subI hC (ct_X3_file l g (A 2) o5 p0 p1 _ h) gY_X3_file dX4_apply_30 33 rfl ml_X4_121 (emb_off g A o5) (emb_off1 g A o5) [] rfl rfl rfl 0 7 rfl rfl ⟨Nat.le_of_ble_eq_true rfl, Nat.le_of_ble_eq_true rfl⟩ (Nat.le_of_ble_eq_true rfl) ⟨Nat.le_of_ble_eq_true rfl, Nat.le_of_ble_eq_true rfl⟩ (fun v9 o7 h => ?_)
  obtain ⟨o8, eo8⟩ : ∃ y : Off, y = put o5 0 12 o7 := ⟨_, rfl⟩
  have h := h o8 eo8
  rw [← eo8]
  refine g_widen (k2 := 4) (n2 := 24) (Nat.le_of_ble_eq_true rfl) (Nat.le_of_ble_eq_true rfl) ?_
  exact g_rx hZ (g_iret (gXQ_C hC) (gXQ_Z hZ) dX4_apply_33 ⟨_, _, rfl, rfl, h⟩)
def wp_X4_withdraw (post : Int32 → Off → Prop) (px : Nat → Off → Prop) (o : Off) (p0 : Int32) : Prop := wp_X0_withdrawing (fun v3 o1 => (∀ o2 : Off, o2 = put o 0 13 o1 → wp_X4_require (fun o4 => (∃ i6 : Nat, i6 < 8 ∧ o4 60 2 = nI i6 ∧ (∀ o5 : Off, o5 = keepH o4 o4 i6 → wp_X3_dropApplication (fun v9 o7 => (∀ o8 : Off, o8 = put o5 0 12 o7 → post v9 o8)) o5 p0))) px o2 v3)) o p0
set_option maxRecDepth 100000 in
set_option maxHeartbeats 4000000 in
theorem ct_X4_withdraw (l : Launch) (g : gE) (A : Nat → Nat → Nat) (o : Off) (p0 : Int32) (post : Int32 → Off → Prop) (px : Nat → Off → Prop) (h : wp_X4_withdraw post px o p0) : FnX l g yX4_withdraw cX4_withdraw 2 (some .int) 8 363 4 24 (embW g A o) [.ref (A 0 0), .int p0] (pI (embW g A) post) (pX (embW g A) px) := by
  refine FnX.of (by decide) (Nat.le_of_ble_eq_true rfl) (fun x hC hZ => ?_)
  rw [wp_X4_withdraw] at h
  show G x g 2 0 0 (embW g A o) 0 [(0, .ref (A 0 0)), (1, .int p0)] []
  refine g_aload_n hC dX4_withdraw_0 1 rfl rfl 0 rfl ?_
  refine g_aload_n hC dX4_withdraw_1 2 rfl rfl 0 rfl ?_
  refine g_get hC fl_X4_10 dX4_withdraw_2 5 rfl 0 rfl rfl ?_
  refine g_iload_n hC dX4_withdraw_5 6 rfl rfl 1 rfl ?_
  refine g_subI hC (ct_X0_withdrawing l g (A 1 0) (A 2) o p0 _ h) gY_X0_withdrawing dX4_withdraw_6 9 rfl ml_X4_124 (emb_chk g A o) (emb_chk1 g A o) [.ref (A 0 0)] rfl rfl rfl 0 4 rfl rfl ⟨Nat.le_of_ble_eq_true rfl, Nat.le_of_ble_eq_true rfl⟩ (Nat.le_of_ble_eq_true rfl) ⟨Nat.le_of_ble_eq_true rfl, Nat.le_of_ble_eq_true rfl⟩ (fun v3 o1 h => ?_)
  obtain ⟨o2, eo2⟩ : ∃ y : Off, y = put o 0 13 o1 := ⟨_, rfl⟩
  have h := h o2 eo2
  rw [← eo2]
  refine g_ownVX hC hZ (ct_X4_require l g A o2 v3 _ _ h) gY_X4_require dX4_withdraw_9 12 rfl ml_X4_65 [] rfl rfl rfl 0 8 rfl rfl ⟨Nat.le_of_ble_eq_true rfl, Nat.le_of_ble_eq_true rfl⟩ (Nat.le_of_ble_eq_true rfl) ⟨Nat.le_of_ble_eq_true rfl, Nat.le_of_ble_eq_true rfl⟩ ⟨Nat.le_of_ble_eq_true rfl, Nat.le_of_ble_eq_true rfl⟩ (fun o4 h => ?_)
  refine g_widen (k2 := 4) (n2 := 24) (Nat.le_of_ble_eq_true rfl) (Nat.le_of_ble_eq_true rfl) ?_
  refine g_aload_n hC dX4_withdraw_12 13 rfl rfl 0 rfl ?_
  refine g_get hC fl_X4_30 dX4_withdraw_13 16 rfl 0 rfl rfl ?_
  refine g_aload_n hC dX4_withdraw_16 17 rfl rfl 0 rfl ?_
  refine g_get hC fl_X4_20 dX4_withdraw_17 20 rfl 0 rfl rfl ?_
  obtain ⟨i6, hi8, hi, h⟩ := h
  refine g_keepO hC hi8 hi dX4_withdraw_20 23 rfl ⟨Nat.le_of_ble_eq_true rfl, Nat.le_of_ble_eq_true rfl⟩ (Nat.le_of_ble_eq_true rfl) ⟨Nat.le_of_ble_eq_true rfl, Nat.le_of_ble_eq_true rfl⟩ ?_
  obtain ⟨o5, eo5⟩ : ∃ y : Off, y = keepH o4 o4 i6 := ⟨_, rfl⟩
  have h := h o5 eo5
  rw [← eo5]
  refine g_aload_n hC dX4_withdraw_23 24 rfl rfl 0 rfl ?_
  refine g_get hC fl_X4_20 dX4_withdraw_24 27 rfl 0 rfl rfl ?_
  refine g_iload_n hC dX4_withdraw_27 28 rfl rfl 1 rfl ?_
  refine g_subI hC (ct_X3_dropApplication l g (A 2) o5 p0 _ h) gY_X3_dropApplication dX4_withdraw_28 31 rfl ml_X4_128 (emb_off g A o5) (emb_off1 g A o5) [] rfl rfl rfl 0 7 rfl rfl ⟨Nat.le_of_ble_eq_true rfl, Nat.le_of_ble_eq_true rfl⟩ (Nat.le_of_ble_eq_true rfl) ⟨Nat.le_of_ble_eq_true rfl, Nat.le_of_ble_eq_true rfl⟩ (fun v9 o7 h => ?_)
  obtain ⟨o8, eo8⟩ : ∃ y : Off, y = put o5 0 12 o7 := ⟨_, rfl⟩
  have h := h o8 eo8
  rw [← eo8]
  refine g_widen (k2 := 4) (n2 := 24) (Nat.le_of_ble_eq_true rfl) (Nat.le_of_ble_eq_true rfl) ?_
  exact g_rx hZ (g_iret (gXQ_C hC) (gXQ_Z hZ) dX4_withdraw_31 ⟨_, _, rfl, rfl, h⟩)
def wp_X4_appeal (post : Int32 → Off → Prop) (px : Nat → Off → Prop) (o : Off) (p0 : Int32) : Prop := wp_X0_appealing (fun v3 o1 => (∀ o2 : Off, o2 = put o 0 13 o1 → wp_X4_require (fun o4 => (∃ i6 : Nat, i6 < 8 ∧ o4 60 2 = nI i6 ∧ (∀ o5 : Off, o5 = keepH o4 o4 i6 → wp_X3_raise (fun v9 o7 => (∀ o8 : Off, o8 = put o5 0 12 o7 → post v9 o8)) o5 p0))) px o2 v3)) o p0
set_option maxRecDepth 100000 in
set_option maxHeartbeats 4000000 in
theorem ct_X4_appeal (l : Launch) (g : gE) (A : Nat → Nat → Nat) (o : Off) (p0 : Int32) (post : Int32 → Off → Prop) (px : Nat → Off → Prop) (h : wp_X4_appeal post px o p0) : FnX l g yX4_appeal cX4_appeal 2 (some .int) 8 363 4 24 (embW g A o) [.ref (A 0 0), .int p0] (pI (embW g A) post) (pX (embW g A) px) := by
  refine FnX.of (by decide) (Nat.le_of_ble_eq_true rfl) (fun x hC hZ => ?_)
  rw [wp_X4_appeal] at h
  show G x g 2 0 0 (embW g A o) 0 [(0, .ref (A 0 0)), (1, .int p0)] []
  refine g_aload_n hC dX4_appeal_0 1 rfl rfl 0 rfl ?_
  refine g_aload_n hC dX4_appeal_1 2 rfl rfl 0 rfl ?_
  refine g_get hC fl_X4_10 dX4_appeal_2 5 rfl 0 rfl rfl ?_
  refine g_iload_n hC dX4_appeal_5 6 rfl rfl 1 rfl ?_
  refine g_subI hC (ct_X0_appealing l g (A 1 0) (A 2) o p0 _ h) gY_X0_appealing dX4_appeal_6 9 rfl ml_X4_131 (emb_chk g A o) (emb_chk1 g A o) [.ref (A 0 0)] rfl rfl rfl 0 4 rfl rfl ⟨Nat.le_of_ble_eq_true rfl, Nat.le_of_ble_eq_true rfl⟩ (Nat.le_of_ble_eq_true rfl) ⟨Nat.le_of_ble_eq_true rfl, Nat.le_of_ble_eq_true rfl⟩ (fun v3 o1 h => ?_)
  obtain ⟨o2, eo2⟩ : ∃ y : Off, y = put o 0 13 o1 := ⟨_, rfl⟩
  have h := h o2 eo2
  rw [← eo2]
  refine g_ownVX hC hZ (ct_X4_require l g A o2 v3 _ _ h) gY_X4_require dX4_appeal_9 12 rfl ml_X4_65 [] rfl rfl rfl 0 8 rfl rfl ⟨Nat.le_of_ble_eq_true rfl, Nat.le_of_ble_eq_true rfl⟩ (Nat.le_of_ble_eq_true rfl) ⟨Nat.le_of_ble_eq_true rfl, Nat.le_of_ble_eq_true rfl⟩ ⟨Nat.le_of_ble_eq_true rfl, Nat.le_of_ble_eq_true rfl⟩ (fun o4 h => ?_)
  refine g_widen (k2 := 4) (n2 := 24) (Nat.le_of_ble_eq_true rfl) (Nat.le_of_ble_eq_true rfl) ?_
  refine g_aload_n hC dX4_appeal_12 13 rfl rfl 0 rfl ?_
  refine g_get hC fl_X4_30 dX4_appeal_13 16 rfl 0 rfl rfl ?_
  refine g_aload_n hC dX4_appeal_16 17 rfl rfl 0 rfl ?_
  refine g_get hC fl_X4_20 dX4_appeal_17 20 rfl 0 rfl rfl ?_
  obtain ⟨i6, hi8, hi, h⟩ := h
  refine g_keepO hC hi8 hi dX4_appeal_20 23 rfl ⟨Nat.le_of_ble_eq_true rfl, Nat.le_of_ble_eq_true rfl⟩ (Nat.le_of_ble_eq_true rfl) ⟨Nat.le_of_ble_eq_true rfl, Nat.le_of_ble_eq_true rfl⟩ ?_
  obtain ⟨o5, eo5⟩ : ∃ y : Off, y = keepH o4 o4 i6 := ⟨_, rfl⟩
  have h := h o5 eo5
  rw [← eo5]
  refine g_aload_n hC dX4_appeal_23 24 rfl rfl 0 rfl ?_
  refine g_get hC fl_X4_20 dX4_appeal_24 27 rfl 0 rfl rfl ?_
  refine g_iload_n hC dX4_appeal_27 28 rfl rfl 1 rfl ?_
  refine g_subI hC (ct_X3_raise l g (A 2) o5 p0 _ h) gY_X3_raise dX4_appeal_28 31 rfl ml_X4_134 (emb_off g A o5) (emb_off1 g A o5) [] rfl rfl rfl 0 7 rfl rfl ⟨Nat.le_of_ble_eq_true rfl, Nat.le_of_ble_eq_true rfl⟩ (Nat.le_of_ble_eq_true rfl) ⟨Nat.le_of_ble_eq_true rfl, Nat.le_of_ble_eq_true rfl⟩ (fun v9 o7 h => ?_)
  obtain ⟨o8, eo8⟩ : ∃ y : Off, y = put o5 0 12 o7 := ⟨_, rfl⟩
  have h := h o8 eo8
  rw [← eo8]
  refine g_widen (k2 := 4) (n2 := 24) (Nat.le_of_ble_eq_true rfl) (Nat.le_of_ble_eq_true rfl) ?_
  exact g_rx hZ (g_iret (gXQ_C hC) (gXQ_Z hZ) dX4_appeal_31 ⟨_, _, rfl, rfl, h⟩)
def wp_X4_decide (post : Int32 → Off → Prop) (px : Nat → Off → Prop) (o : Off) (p0 : Int32) : Prop := wp_X0_deciding (fun v1 => wp_X4_require (fun o2 => (∃ i4 : Nat, i4 < 8 ∧ o2 60 2 = nI i4 ∧ (∀ o3 : Off, o3 = keepH o2 o2 i4 → wp_X3_decideAll (fun v7 o5 => (∀ o6 : Off, o6 = put o3 0 12 o5 → post v7 o6)) o3 p0))) px o v1) o p0
set_option maxRecDepth 100000 in
set_option maxHeartbeats 4000000 in
theorem ct_X4_decide (l : Launch) (g : gE) (A : Nat → Nat → Nat) (o : Off) (p0 : Int32) (post : Int32 → Off → Prop) (px : Nat → Off → Prop) (h : wp_X4_decide post px o p0) : FnX l g yX4_decide cX4_decide 2 (some .int) 8 363 4 24 (embW g A o) [.ref (A 0 0), .int p0] (pI (embW g A) post) (pX (embW g A) px) := by
  refine FnX.of (by decide) (Nat.le_of_ble_eq_true rfl) (fun x hC hZ => ?_)
  rw [wp_X4_decide] at h
  show G x g 2 0 0 (embW g A o) 0 [(0, .ref (A 0 0)), (1, .int p0)] []
  refine g_aload_n hC dX4_decide_0 1 rfl rfl 0 rfl ?_
  refine g_aload_n hC dX4_decide_1 2 rfl rfl 0 rfl ?_
  refine g_get hC fl_X4_10 dX4_decide_2 5 rfl 0 rfl rfl ?_
  refine g_iload_n hC dX4_decide_5 6 rfl rfl 1 rfl ?_
  refine g_readV hC (ct_X0_deciding l g (A 1 0) (A 2) o p0 _ h) gY_X0_deciding dX4_decide_6 9 rfl ml_X4_137 _ _ (emb_chk g A o) [.ref (A 0 0)] rfl rfl rfl 0 4 rfl rfl ⟨Nat.le_of_ble_eq_true rfl, Nat.le_of_ble_eq_true rfl⟩ (Nat.le_of_ble_eq_true rfl) ⟨Nat.le_of_ble_eq_true rfl, Nat.le_of_ble_eq_true rfl⟩ (fun v1 h => ?_)
  refine g_ownVX hC hZ (ct_X4_require l g A o v1 _ _ h) gY_X4_require dX4_decide_9 12 rfl ml_X4_65 [] rfl rfl rfl 0 8 rfl rfl ⟨Nat.le_of_ble_eq_true rfl, Nat.le_of_ble_eq_true rfl⟩ (Nat.le_of_ble_eq_true rfl) ⟨Nat.le_of_ble_eq_true rfl, Nat.le_of_ble_eq_true rfl⟩ ⟨Nat.le_of_ble_eq_true rfl, Nat.le_of_ble_eq_true rfl⟩ (fun o2 h => ?_)
  refine g_widen (k2 := 4) (n2 := 24) (Nat.le_of_ble_eq_true rfl) (Nat.le_of_ble_eq_true rfl) ?_
  refine g_aload_n hC dX4_decide_12 13 rfl rfl 0 rfl ?_
  refine g_get hC fl_X4_30 dX4_decide_13 16 rfl 0 rfl rfl ?_
  refine g_aload_n hC dX4_decide_16 17 rfl rfl 0 rfl ?_
  refine g_get hC fl_X4_20 dX4_decide_17 20 rfl 0 rfl rfl ?_
  obtain ⟨i4, hi8, hi, h⟩ := h
  refine g_keepO hC hi8 hi dX4_decide_20 23 rfl ⟨Nat.le_of_ble_eq_true rfl, Nat.le_of_ble_eq_true rfl⟩ (Nat.le_of_ble_eq_true rfl) ⟨Nat.le_of_ble_eq_true rfl, Nat.le_of_ble_eq_true rfl⟩ ?_
  obtain ⟨o3, eo3⟩ : ∃ y : Off, y = keepH o2 o2 i4 := ⟨_, rfl⟩
  have h := h o3 eo3
  rw [← eo3]
  refine g_aload_n hC dX4_decide_23 24 rfl rfl 0 rfl ?_
  refine g_get hC fl_X4_20 dX4_decide_24 27 rfl 0 rfl rfl ?_
  refine g_iload_n hC dX4_decide_27 28 rfl rfl 1 rfl ?_
  refine g_subI hC (ct_X3_decideAll l g (A 2) o3 p0 _ h) gY_X3_decideAll dX4_decide_28 31 rfl ml_X4_140 (emb_off g A o3) (emb_off1 g A o3) [] rfl rfl rfl 0 7 rfl rfl ⟨Nat.le_of_ble_eq_true rfl, Nat.le_of_ble_eq_true rfl⟩ (Nat.le_of_ble_eq_true rfl) ⟨Nat.le_of_ble_eq_true rfl, Nat.le_of_ble_eq_true rfl⟩ (fun v7 o5 h => ?_)
  obtain ⟨o6, eo6⟩ : ∃ y : Off, y = put o3 0 12 o5 := ⟨_, rfl⟩
  have h := h o6 eo6
  rw [← eo6]
  refine g_widen (k2 := 4) (n2 := 24) (Nat.le_of_ble_eq_true rfl) (Nat.le_of_ble_eq_true rfl) ?_
  exact g_rx hZ (g_iret (gXQ_C hC) (gXQ_Z hZ) dX4_decide_31 ⟨_, _, rfl, rfl, h⟩)
def wp_X4_requireDrawer (post : Off → Prop) (px : Nat → Off → Prop) (o : Off) (p0 : Int32) : Prop := wp_X3_isDrawer (fun v1 => wp_X4_requireIndex (fun o2 => post o2) px o v1) p0
set_option maxRecDepth 100000 in
set_option maxHeartbeats 4000000 in
theorem ct_X4_requireDrawer (l : Launch) (g : gE) (A : Nat → Nat → Nat) (o : Off) (p0 : Int32) (post : Off → Prop) (px : Nat → Off → Prop) (h : wp_X4_requireDrawer post px o p0) : FnX l g yX4_requireDrawer cX4_requireDrawer 2 none 7 111 1 6 (embW g A o) [.ref (A 0 0), .int p0] (pV (embW g A) post) (pX (embW g A) px) := by
  refine FnX.of (by decide) (Nat.le_of_ble_eq_true rfl) (fun x hC hZ => ?_)
  rw [wp_X4_requireDrawer] at h
  show G x g 2 0 0 (embW g A o) 0 [(0, .ref (A 0 0)), (1, .int p0)] []
  refine g_aload_n hC dX4_requireDrawer_0 1 rfl rfl 0 rfl ?_
  refine g_iload_n hC dX4_requireDrawer_1 2 rfl rfl 1 rfl ?_
  refine g_readS hC (ct_X3_isDrawer l g p0 _ h) gY_X3_isDrawer dX4_requireDrawer_2 5 rfl ml_X4_380 [] _ rfl [.ref (A 0 0)] rfl rfl ⟨Nat.le_of_ble_eq_true rfl, Nat.le_of_ble_eq_true rfl⟩ (Nat.le_of_ble_eq_true rfl) ⟨Nat.le_of_ble_eq_true rfl, Nat.le_of_ble_eq_true rfl⟩ (fun v1 h => ?_)
  refine g_ownVX hC hZ (ct_X4_requireIndex l g A o v1 _ _ h) gY_X4_requireIndex dX4_requireDrawer_5 8 rfl ml_X4_299 [] rfl rfl rfl 0 8 rfl rfl ⟨Nat.le_of_ble_eq_true rfl, Nat.le_of_ble_eq_true rfl⟩ (Nat.le_of_ble_eq_true rfl) ⟨Nat.le_of_ble_eq_true rfl, Nat.le_of_ble_eq_true rfl⟩ ⟨Nat.le_of_ble_eq_true rfl, Nat.le_of_ble_eq_true rfl⟩ (fun o2 h => ?_)
  refine g_widen (k2 := 1) (n2 := 6) (Nat.le_of_ble_eq_true rfl) (Nat.le_of_ble_eq_true rfl) ?_
  refine g_widen (k2 := 1) (n2 := 6) (Nat.le_of_ble_eq_true rfl) (Nat.le_of_ble_eq_true rfl) ?_
  exact g_rx hZ (g_vret (gXQ_C hC) (gXQ_Z hZ) dX4_requireDrawer_8 ⟨_, rfl, rfl, h⟩)
def wp_X4_wouldAdmit (post : Int32 → Off → Prop) (px : Nat → Off → Prop) (o : Off) (p0 : Int32) : Prop := wp_X4_requireDrawer (fun o1 => wp_X3_admissible (fun v2 => post v2 o1) o1 p0) px o p0
set_option maxRecDepth 100000 in
set_option maxHeartbeats 4000000 in
theorem ct_X4_wouldAdmit (l : Launch) (g : gE) (A : Nat → Nat → Nat) (o : Off) (p0 : Int32) (post : Int32 → Off → Prop) (px : Nat → Off → Prop) (h : wp_X4_wouldAdmit post px o p0) : FnX l g yX4_wouldAdmit cX4_wouldAdmit 2 (some .int) 8 136 1 6 (embW g A o) [.ref (A 0 0), .int p0] (pI (embW g A) post) (pX (embW g A) px) := by
  refine FnX.of (by decide) (Nat.le_of_ble_eq_true rfl) (fun x hC hZ => ?_)
  rw [wp_X4_wouldAdmit] at h
  show G x g 2 0 0 (embW g A o) 0 [(0, .ref (A 0 0)), (1, .int p0)] []
  refine g_aload_n hC dX4_wouldAdmit_0 1 rfl rfl 0 rfl ?_
  refine g_iload_n hC dX4_wouldAdmit_1 2 rfl rfl 1 rfl ?_
  refine g_ownVX hC hZ (ct_X4_requireDrawer l g A o p0 _ _ h) gY_X4_requireDrawer dX4_wouldAdmit_2 5 rfl ml_X4_143 [] rfl rfl rfl 0 8 rfl rfl ⟨Nat.le_of_ble_eq_true rfl, Nat.le_of_ble_eq_true rfl⟩ (Nat.le_of_ble_eq_true rfl) ⟨Nat.le_of_ble_eq_true rfl, Nat.le_of_ble_eq_true rfl⟩ ⟨Nat.le_of_ble_eq_true rfl, Nat.le_of_ble_eq_true rfl⟩ (fun o1 h => ?_)
  refine g_widen (k2 := 1) (n2 := 6) (Nat.le_of_ble_eq_true rfl) (Nat.le_of_ble_eq_true rfl) ?_
  refine g_aload_n hC dX4_wouldAdmit_5 6 rfl rfl 0 rfl ?_
  refine g_get hC fl_X4_20 dX4_wouldAdmit_6 9 rfl 0 rfl rfl ?_
  refine g_iload_n hC dX4_wouldAdmit_9 10 rfl rfl 1 rfl ?_
  refine g_readV hC (ct_X3_admissible l g (A 2) o1 p0 _ h) gY_X3_admissible dX4_wouldAdmit_10 13 rfl ml_X4_146 _ _ (emb_off g A o1) [] rfl rfl rfl 0 7 rfl rfl ⟨Nat.le_of_ble_eq_true rfl, Nat.le_of_ble_eq_true rfl⟩ (Nat.le_of_ble_eq_true rfl) ⟨Nat.le_of_ble_eq_true rfl, Nat.le_of_ble_eq_true rfl⟩ (fun v2 h => ?_)
  refine g_widen (k2 := 1) (n2 := 6) (Nat.le_of_ble_eq_true rfl) (Nat.le_of_ble_eq_true rfl) ?_
  exact g_rx hZ (g_iret (gXQ_C hC) (gXQ_Z hZ) dX4_wouldAdmit_13 ⟨_, _, rfl, rfl, h⟩)
def wj_X4_queueAt_26 (post : Int32 → Off → Prop) (px : Nat → Off → Prop) (o : Off) (x3 : Int32) (s0 : Int32) : Prop := wp_X4_requireElement (fun o3 => post x3 o3) px o s0
def wp_X4_queueAt (post : Int32 → Off → Prop) (px : Nat → Off → Prop) (o : Off) (p0 : Int32) (p1 : Int32) : Prop := wp_X4_requireDrawer (fun o1 => wp_X3_queued (fun v2 => ((v2 = (-1 : Int32) → wj_X4_queueAt_26 post px o1 v2 (0 : Int32)) ∧ (¬ v2 = (-1 : Int32) → wj_X4_queueAt_26 post px o1 v2 (1 : Int32)))) o1 p0 p1) px o p0
set_option maxRecDepth 100000 in
set_option maxHeartbeats 4000000 in
theorem jn_X4_queueAt_26 {x : gX} {l : Launch} {g : gE} {A : Nat → Nat → Nat} {o0 : Off} {post : Int32 → Off → Prop} {px : Nat → Off → Prop} (hC : gC x l cX4_queueAt 4 RX4 g 8 132 2 12) (hZ : gZX x g (some .int) (embW g A o0) (pI (embW g A) post) (pX (embW g A) px) 2 12) : ∀ (o : Off) (x3 : Int32) (s0 : Int32) , wj_X4_queueAt_26 post px o x3 s0 → G x g 4 1 6 (embW g A o) 26 [(3, .int x3)] [.int s0, .ref (A 0 0)] := by
  intro o x3 s0 h
  rw [wj_X4_queueAt_26] at h
  refine g_ownVX hC hZ (ct_X4_requireElement l g A o s0 _ _ h) gY_X4_requireElement dX4_queueAt_26 29 rfl ml_X4_93 [] rfl rfl rfl 0 8 rfl rfl ⟨Nat.le_of_ble_eq_true rfl, Nat.le_of_ble_eq_true rfl⟩ (Nat.le_of_ble_eq_true rfl) ⟨Nat.le_of_ble_eq_true rfl, Nat.le_of_ble_eq_true rfl⟩ ⟨Nat.le_of_ble_eq_true rfl, Nat.le_of_ble_eq_true rfl⟩ (fun o3 h => ?_)
  refine g_widen (k2 := 2) (n2 := 12) (Nat.le_of_ble_eq_true rfl) (Nat.le_of_ble_eq_true rfl) ?_
  refine g_iload_n hC dX4_queueAt_29 30 rfl rfl 0 rfl ?_
  refine g_widen (k2 := 2) (n2 := 12) (Nat.le_of_ble_eq_true rfl) (Nat.le_of_ble_eq_true rfl) ?_
  exact g_rx hZ (g_iret (gXQ_C hC) (gXQ_Z hZ) dX4_queueAt_30 ⟨_, _, rfl, rfl, h⟩)
set_option maxRecDepth 100000 in
set_option maxHeartbeats 4000000 in
theorem ct_X4_queueAt (l : Launch) (g : gE) (A : Nat → Nat → Nat) (o : Off) (p0 : Int32) (p1 : Int32) (post : Int32 → Off → Prop) (px : Nat → Off → Prop) (h : wp_X4_queueAt post px o p0 p1) : FnX l g yX4_queueAt cX4_queueAt 4 (some .int) 8 132 2 12 (embW g A o) [.ref (A 0 0), .int p0, .int p1] (pI (embW g A) post) (pX (embW g A) px) := by
  refine FnX.of (by decide) (Nat.le_of_ble_eq_true rfl) (fun x hC hZ => ?_)
  rw [wp_X4_queueAt] at h
  show G x g 4 0 0 (embW g A o) 0 [(0, .ref (A 0 0)), (1, .int p0), (2, .int p1)] []
  refine g_aload_n hC dX4_queueAt_0 1 rfl rfl 0 rfl ?_
  refine g_iload_n hC dX4_queueAt_1 2 rfl rfl 1 rfl ?_
  refine g_ownVX hC hZ (ct_X4_requireDrawer l g A o p0 _ _ h) gY_X4_requireDrawer dX4_queueAt_2 5 rfl ml_X4_143 [] rfl rfl rfl 0 8 rfl rfl ⟨Nat.le_of_ble_eq_true rfl, Nat.le_of_ble_eq_true rfl⟩ (Nat.le_of_ble_eq_true rfl) ⟨Nat.le_of_ble_eq_true rfl, Nat.le_of_ble_eq_true rfl⟩ ⟨Nat.le_of_ble_eq_true rfl, Nat.le_of_ble_eq_true rfl⟩ (fun o1 h => ?_)
  refine g_widen (k2 := 1) (n2 := 6) (Nat.le_of_ble_eq_true rfl) (Nat.le_of_ble_eq_true rfl) ?_
  refine g_aload_n hC dX4_queueAt_5 6 rfl rfl 0 rfl ?_
  refine g_get hC fl_X4_20 dX4_queueAt_6 9 rfl 0 rfl rfl ?_
  refine g_iload_n hC dX4_queueAt_9 10 rfl rfl 1 rfl ?_
  refine g_iload_n hC dX4_queueAt_10 11 rfl rfl 2 rfl ?_
  refine g_readV hC (ct_X3_queued l g (A 2) o1 p0 p1 _ h) gY_X3_queued dX4_queueAt_11 14 rfl ml_X4_149 _ _ (emb_off g A o1) [] rfl rfl rfl 0 7 rfl rfl ⟨Nat.le_of_ble_eq_true rfl, Nat.le_of_ble_eq_true rfl⟩ (Nat.le_of_ble_eq_true rfl) ⟨Nat.le_of_ble_eq_true rfl, Nat.le_of_ble_eq_true rfl⟩ (fun v2 h => ?_)
  refine g_istore_n (lv2 := [(3, .int v2), (0, .ref (A 0 0)), (1, .int p0), (2, .int p1)]) hC dX4_queueAt_14 15 rfl rfl (by decide) rfl ?_
  refine g_aload_n hC dX4_queueAt_15 16 rfl rfl 1 rfl ?_
  refine g_iload_n hC dX4_queueAt_16 17 rfl rfl 0 rfl ?_
  refine g_iconst hC (-1 : Int32) dX4_queueAt_17 18 rfl iconst_m1 ?_
  refine g_icmp_eq hC dX4_queueAt_18 25 (by decide) 21 rfl (fun c => ?_) (fun c => ?_)
  · have h := h.1 c
    refine g_iconst hC (0 : Int32) dX4_queueAt_25 26 rfl iconst_0 ?_
    refine g_lv (lv2 := [(3, .int v2)]) [0] rfl ?_
    exact jn_X4_queueAt_26 hC hZ o1 v2 (0 : Int32) h
  · have h := h.2 c
    refine g_iconst hC (1 : Int32) dX4_queueAt_21 22 rfl iconst_1 ?_
    refine g_goto hC dX4_queueAt_22 26 (by decide) ?_
    refine g_lv (lv2 := [(3, .int v2)]) [0] rfl ?_
    exact jn_X4_queueAt_26 hC hZ o1 v2 (1 : Int32) h
def wp_X4_pendingCount (post : Int32 → Off → Prop) (px : Nat → Off → Prop) (o : Off) (p0 : Int32) : Prop := wp_X4_requireDrawer (fun o1 => wp_X3_countOf (fun v2 => post v2 o1) o1 (1 : Int32) p0) px o p0
set_option maxRecDepth 100000 in
set_option maxHeartbeats 4000000 in
theorem ct_X4_pendingCount (l : Launch) (g : gE) (A : Nat → Nat → Nat) (o : Off) (p0 : Int32) (post : Int32 → Off → Prop) (px : Nat → Off → Prop) (h : wp_X4_pendingCount post px o p0) : FnX l g yX4_pendingCount cX4_pendingCount 2 (some .int) 8 132 1 6 (embW g A o) [.ref (A 0 0), .int p0] (pI (embW g A) post) (pX (embW g A) px) := by
  refine FnX.of (by decide) (Nat.le_of_ble_eq_true rfl) (fun x hC hZ => ?_)
  rw [wp_X4_pendingCount] at h
  show G x g 2 0 0 (embW g A o) 0 [(0, .ref (A 0 0)), (1, .int p0)] []
  refine g_aload_n hC dX4_pendingCount_0 1 rfl rfl 0 rfl ?_
  refine g_iload_n hC dX4_pendingCount_1 2 rfl rfl 1 rfl ?_
  refine g_ownVX hC hZ (ct_X4_requireDrawer l g A o p0 _ _ h) gY_X4_requireDrawer dX4_pendingCount_2 5 rfl ml_X4_143 [] rfl rfl rfl 0 8 rfl rfl ⟨Nat.le_of_ble_eq_true rfl, Nat.le_of_ble_eq_true rfl⟩ (Nat.le_of_ble_eq_true rfl) ⟨Nat.le_of_ble_eq_true rfl, Nat.le_of_ble_eq_true rfl⟩ ⟨Nat.le_of_ble_eq_true rfl, Nat.le_of_ble_eq_true rfl⟩ (fun o1 h => ?_)
  refine g_widen (k2 := 1) (n2 := 6) (Nat.le_of_ble_eq_true rfl) (Nat.le_of_ble_eq_true rfl) ?_
  refine g_aload_n hC dX4_pendingCount_5 6 rfl rfl 0 rfl ?_
  refine g_get hC fl_X4_20 dX4_pendingCount_6 9 rfl 0 rfl rfl ?_
  refine g_iconst hC (1 : Int32) dX4_pendingCount_9 10 rfl iconst_1 ?_
  refine g_iload_n hC dX4_pendingCount_10 11 rfl rfl 1 rfl ?_
  refine g_readV hC (ct_X3_countOf l g (A 2) o1 (1 : Int32) p0 _ h) gY_X3_countOf dX4_pendingCount_11 14 rfl ml_X4_152 _ _ (emb_off g A o1) [] rfl rfl rfl 0 7 rfl rfl ⟨Nat.le_of_ble_eq_true rfl, Nat.le_of_ble_eq_true rfl⟩ (Nat.le_of_ble_eq_true rfl) ⟨Nat.le_of_ble_eq_true rfl, Nat.le_of_ble_eq_true rfl⟩ (fun v2 h => ?_)
  refine g_widen (k2 := 1) (n2 := 6) (Nat.le_of_ble_eq_true rfl) (Nat.le_of_ble_eq_true rfl) ?_
  exact g_rx hZ (g_iret (gXQ_C hC) (gXQ_Z hZ) dX4_pendingCount_14 ⟨_, _, rfl, rfl, h⟩)
def wp_X4_renew (post : Int32 → Off → Prop) (px : Nat → Off → Prop) (o : Off) (p0 : Int32) (p1 : Int32) : Prop := wp_X0_renewing (fun v3 o1 => (∀ o2 : Off, o2 = put o 0 13 o1 → wp_X4_require (fun o4 => (∃ i6 : Nat, i6 < 8 ∧ o4 60 2 = nI i6 ∧ (∀ o5 : Off, o5 = keepH o4 o4 i6 → wp_X3_extend (fun v9 o7 => (∀ o8 : Off, o8 = put o5 0 12 o7 → post v9 o8)) o5 p0 p1))) px o2 v3)) o p0 p1
set_option maxRecDepth 100000 in
set_option maxHeartbeats 4000000 in
theorem ct_X4_renew (l : Launch) (g : gE) (A : Nat → Nat → Nat) (o : Off) (p0 : Int32) (p1 : Int32) (post : Int32 → Off → Prop) (px : Nat → Off → Prop) (h : wp_X4_renew post px o p0 p1) : FnX l g yX4_renew cX4_renew 3 (some .int) 8 363 4 24 (embW g A o) [.ref (A 0 0), .int p0, .int p1] (pI (embW g A) post) (pX (embW g A) px) := by
  refine FnX.of (by decide) (Nat.le_of_ble_eq_true rfl) (fun x hC hZ => ?_)
  rw [wp_X4_renew] at h
  show G x g 3 0 0 (embW g A o) 0 [(0, .ref (A 0 0)), (1, .int p0), (2, .int p1)] []
  refine g_aload_n hC dX4_renew_0 1 rfl rfl 0 rfl ?_
  refine g_aload_n hC dX4_renew_1 2 rfl rfl 0 rfl ?_
  refine g_get hC fl_X4_10 dX4_renew_2 5 rfl 0 rfl rfl ?_
  refine g_iload_n hC dX4_renew_5 6 rfl rfl 1 rfl ?_
  refine g_iload_n hC dX4_renew_6 7 rfl rfl 2 rfl ?_
  refine g_subI hC (ct_X0_renewing l g (A 1 0) (A 2) o p0 p1 _ h) gY_X0_renewing dX4_renew_7 10 rfl ml_X4_155 (emb_chk g A o) (emb_chk1 g A o) [.ref (A 0 0)] rfl rfl rfl 0 4 rfl rfl ⟨Nat.le_of_ble_eq_true rfl, Nat.le_of_ble_eq_true rfl⟩ (Nat.le_of_ble_eq_true rfl) ⟨Nat.le_of_ble_eq_true rfl, Nat.le_of_ble_eq_true rfl⟩ (fun v3 o1 h => ?_)
  obtain ⟨o2, eo2⟩ : ∃ y : Off, y = put o 0 13 o1 := ⟨_, rfl⟩
  have h := h o2 eo2
  rw [← eo2]
  refine g_ownVX hC hZ (ct_X4_require l g A o2 v3 _ _ h) gY_X4_require dX4_renew_10 13 rfl ml_X4_65 [] rfl rfl rfl 0 8 rfl rfl ⟨Nat.le_of_ble_eq_true rfl, Nat.le_of_ble_eq_true rfl⟩ (Nat.le_of_ble_eq_true rfl) ⟨Nat.le_of_ble_eq_true rfl, Nat.le_of_ble_eq_true rfl⟩ ⟨Nat.le_of_ble_eq_true rfl, Nat.le_of_ble_eq_true rfl⟩ (fun o4 h => ?_)
  refine g_widen (k2 := 4) (n2 := 24) (Nat.le_of_ble_eq_true rfl) (Nat.le_of_ble_eq_true rfl) ?_
  refine g_aload_n hC dX4_renew_13 14 rfl rfl 0 rfl ?_
  refine g_get hC fl_X4_30 dX4_renew_14 17 rfl 0 rfl rfl ?_
  refine g_aload_n hC dX4_renew_17 18 rfl rfl 0 rfl ?_
  refine g_get hC fl_X4_20 dX4_renew_18 21 rfl 0 rfl rfl ?_
  obtain ⟨i6, hi8, hi, h⟩ := h
  refine g_keepO hC hi8 hi dX4_renew_21 24 rfl ⟨Nat.le_of_ble_eq_true rfl, Nat.le_of_ble_eq_true rfl⟩ (Nat.le_of_ble_eq_true rfl) ⟨Nat.le_of_ble_eq_true rfl, Nat.le_of_ble_eq_true rfl⟩ ?_
  obtain ⟨o5, eo5⟩ : ∃ y : Off, y = keepH o4 o4 i6 := ⟨_, rfl⟩
  have h := h o5 eo5
  rw [← eo5]
  refine g_aload_n hC dX4_renew_24 25 rfl rfl 0 rfl ?_
  refine g_get hC fl_X4_20 dX4_renew_25 28 rfl 0 rfl rfl ?_
  refine g_iload_n hC dX4_renew_28 29 rfl rfl 1 rfl ?_
  refine g_iload_n hC dX4_renew_29 30 rfl rfl 2 rfl ?_
  refine g_subI hC (ct_X3_extend l g (A 2) o5 p0 p1 _ h) gY_X3_extend dX4_renew_30 33 rfl ml_X4_158 (emb_off g A o5) (emb_off1 g A o5) [] rfl rfl rfl 0 7 rfl rfl ⟨Nat.le_of_ble_eq_true rfl, Nat.le_of_ble_eq_true rfl⟩ (Nat.le_of_ble_eq_true rfl) ⟨Nat.le_of_ble_eq_true rfl, Nat.le_of_ble_eq_true rfl⟩ (fun v9 o7 h => ?_)
  obtain ⟨o8, eo8⟩ : ∃ y : Off, y = put o5 0 12 o7 := ⟨_, rfl⟩
  have h := h o8 eo8
  rw [← eo8]
  refine g_widen (k2 := 4) (n2 := 24) (Nat.le_of_ble_eq_true rfl) (Nat.le_of_ble_eq_true rfl) ?_
  exact g_rx hZ (g_iret (gXQ_C hC) (gXQ_Z hZ) dX4_renew_33 ⟨_, _, rfl, rfl, h⟩)
def wp_X4_leave (post : Int32 → Off → Prop) (px : Nat → Off → Prop) (o : Off) (p0 : Int32) : Prop := wp_X0_leaving (fun v3 o1 => (∀ o2 : Off, o2 = put o 0 13 o1 → wp_X4_require (fun o4 => (∃ i6 : Nat, i6 < 8 ∧ o4 60 2 = nI i6 ∧ (∀ o5 : Off, o5 = keepH o4 o4 i6 → wp_X3_release (fun v9 o7 => (∀ o8 : Off, o8 = put o5 0 12 o7 → post v9 o8)) o5 p0))) px o2 v3)) o p0
set_option maxRecDepth 100000 in
set_option maxHeartbeats 4000000 in
theorem ct_X4_leave (l : Launch) (g : gE) (A : Nat → Nat → Nat) (o : Off) (p0 : Int32) (post : Int32 → Off → Prop) (px : Nat → Off → Prop) (h : wp_X4_leave post px o p0) : FnX l g yX4_leave cX4_leave 2 (some .int) 8 363 4 24 (embW g A o) [.ref (A 0 0), .int p0] (pI (embW g A) post) (pX (embW g A) px) := by
  refine FnX.of (by decide) (Nat.le_of_ble_eq_true rfl) (fun x hC hZ => ?_)
  rw [wp_X4_leave] at h
  show G x g 2 0 0 (embW g A o) 0 [(0, .ref (A 0 0)), (1, .int p0)] []
  refine g_aload_n hC dX4_leave_0 1 rfl rfl 0 rfl ?_
  refine g_aload_n hC dX4_leave_1 2 rfl rfl 0 rfl ?_
  refine g_get hC fl_X4_10 dX4_leave_2 5 rfl 0 rfl rfl ?_
  refine g_iload_n hC dX4_leave_5 6 rfl rfl 1 rfl ?_
  refine g_subI hC (ct_X0_leaving l g (A 1 0) (A 2) o p0 _ h) gY_X0_leaving dX4_leave_6 9 rfl ml_X4_161 (emb_chk g A o) (emb_chk1 g A o) [.ref (A 0 0)] rfl rfl rfl 0 4 rfl rfl ⟨Nat.le_of_ble_eq_true rfl, Nat.le_of_ble_eq_true rfl⟩ (Nat.le_of_ble_eq_true rfl) ⟨Nat.le_of_ble_eq_true rfl, Nat.le_of_ble_eq_true rfl⟩ (fun v3 o1 h => ?_)
  obtain ⟨o2, eo2⟩ : ∃ y : Off, y = put o 0 13 o1 := ⟨_, rfl⟩
  have h := h o2 eo2
  rw [← eo2]
  refine g_ownVX hC hZ (ct_X4_require l g A o2 v3 _ _ h) gY_X4_require dX4_leave_9 12 rfl ml_X4_65 [] rfl rfl rfl 0 8 rfl rfl ⟨Nat.le_of_ble_eq_true rfl, Nat.le_of_ble_eq_true rfl⟩ (Nat.le_of_ble_eq_true rfl) ⟨Nat.le_of_ble_eq_true rfl, Nat.le_of_ble_eq_true rfl⟩ ⟨Nat.le_of_ble_eq_true rfl, Nat.le_of_ble_eq_true rfl⟩ (fun o4 h => ?_)
  refine g_widen (k2 := 4) (n2 := 24) (Nat.le_of_ble_eq_true rfl) (Nat.le_of_ble_eq_true rfl) ?_
  refine g_aload_n hC dX4_leave_12 13 rfl rfl 0 rfl ?_
  refine g_get hC fl_X4_30 dX4_leave_13 16 rfl 0 rfl rfl ?_
  refine g_aload_n hC dX4_leave_16 17 rfl rfl 0 rfl ?_
  refine g_get hC fl_X4_20 dX4_leave_17 20 rfl 0 rfl rfl ?_
  obtain ⟨i6, hi8, hi, h⟩ := h
  refine g_keepO hC hi8 hi dX4_leave_20 23 rfl ⟨Nat.le_of_ble_eq_true rfl, Nat.le_of_ble_eq_true rfl⟩ (Nat.le_of_ble_eq_true rfl) ⟨Nat.le_of_ble_eq_true rfl, Nat.le_of_ble_eq_true rfl⟩ ?_
  obtain ⟨o5, eo5⟩ : ∃ y : Off, y = keepH o4 o4 i6 := ⟨_, rfl⟩
  have h := h o5 eo5
  rw [← eo5]
  refine g_aload_n hC dX4_leave_23 24 rfl rfl 0 rfl ?_
  refine g_get hC fl_X4_20 dX4_leave_24 27 rfl 0 rfl rfl ?_
  refine g_iload_n hC dX4_leave_27 28 rfl rfl 1 rfl ?_
  refine g_subI hC (ct_X3_release l g (A 2) o5 p0 _ h) gY_X3_release dX4_leave_28 31 rfl ml_X4_164 (emb_off g A o5) (emb_off1 g A o5) [] rfl rfl rfl 0 7 rfl rfl ⟨Nat.le_of_ble_eq_true rfl, Nat.le_of_ble_eq_true rfl⟩ (Nat.le_of_ble_eq_true rfl) ⟨Nat.le_of_ble_eq_true rfl, Nat.le_of_ble_eq_true rfl⟩ (fun v9 o7 h => ?_)
  obtain ⟨o8, eo8⟩ : ∃ y : Off, y = put o5 0 12 o7 := ⟨_, rfl⟩
  have h := h o8 eo8
  rw [← eo8]
  refine g_widen (k2 := 4) (n2 := 24) (Nat.le_of_ble_eq_true rfl) (Nat.le_of_ble_eq_true rfl) ?_
  exact g_rx hZ (g_iret (gXQ_C hC) (gXQ_Z hZ) dX4_leave_31 ⟨_, _, rfl, rfl, h⟩)
def wp_X4_move (post : Int32 → Off → Prop) (px : Nat → Off → Prop) (o : Off) (p0 : Int32) (p1 : Int32) : Prop := wp_X0_moving (fun v3 o1 => (∀ o2 : Off, o2 = put o 0 13 o1 → wp_X4_require (fun o4 => (∃ i6 : Nat, i6 < 8 ∧ o4 60 2 = nI i6 ∧ (∀ o5 : Off, o5 = keepH o4 o4 i6 → wp_X3_transfer (fun v9 o7 => (∀ o8 : Off, o8 = put o5 0 12 o7 → post v9 o8)) o5 p0 p1))) px o2 v3)) o p0 p1
set_option maxRecDepth 100000 in
set_option maxHeartbeats 4000000 in
theorem ct_X4_move (l : Launch) (g : gE) (A : Nat → Nat → Nat) (o : Off) (p0 : Int32) (p1 : Int32) (post : Int32 → Off → Prop) (px : Nat → Off → Prop) (h : wp_X4_move post px o p0 p1) : FnX l g yX4_move cX4_move 3 (some .int) 8 363 4 24 (embW g A o) [.ref (A 0 0), .int p0, .int p1] (pI (embW g A) post) (pX (embW g A) px) := by
  refine FnX.of (by decide) (Nat.le_of_ble_eq_true rfl) (fun x hC hZ => ?_)
  rw [wp_X4_move] at h
  show G x g 3 0 0 (embW g A o) 0 [(0, .ref (A 0 0)), (1, .int p0), (2, .int p1)] []
  refine g_aload_n hC dX4_move_0 1 rfl rfl 0 rfl ?_
  refine g_aload_n hC dX4_move_1 2 rfl rfl 0 rfl ?_
  refine g_get hC fl_X4_10 dX4_move_2 5 rfl 0 rfl rfl ?_
  refine g_iload_n hC dX4_move_5 6 rfl rfl 1 rfl ?_
  refine g_iload_n hC dX4_move_6 7 rfl rfl 2 rfl ?_
  refine g_subI hC (ct_X0_moving l g (A 1 0) (A 2) o p0 p1 _ h) gY_X0_moving dX4_move_7 10 rfl ml_X4_167 (emb_chk g A o) (emb_chk1 g A o) [.ref (A 0 0)] rfl rfl rfl 0 4 rfl rfl ⟨Nat.le_of_ble_eq_true rfl, Nat.le_of_ble_eq_true rfl⟩ (Nat.le_of_ble_eq_true rfl) ⟨Nat.le_of_ble_eq_true rfl, Nat.le_of_ble_eq_true rfl⟩ (fun v3 o1 h => ?_)
  obtain ⟨o2, eo2⟩ : ∃ y : Off, y = put o 0 13 o1 := ⟨_, rfl⟩
  have h := h o2 eo2
  rw [← eo2]
  refine g_ownVX hC hZ (ct_X4_require l g A o2 v3 _ _ h) gY_X4_require dX4_move_10 13 rfl ml_X4_65 [] rfl rfl rfl 0 8 rfl rfl ⟨Nat.le_of_ble_eq_true rfl, Nat.le_of_ble_eq_true rfl⟩ (Nat.le_of_ble_eq_true rfl) ⟨Nat.le_of_ble_eq_true rfl, Nat.le_of_ble_eq_true rfl⟩ ⟨Nat.le_of_ble_eq_true rfl, Nat.le_of_ble_eq_true rfl⟩ (fun o4 h => ?_)
  refine g_widen (k2 := 4) (n2 := 24) (Nat.le_of_ble_eq_true rfl) (Nat.le_of_ble_eq_true rfl) ?_
  refine g_aload_n hC dX4_move_13 14 rfl rfl 0 rfl ?_
  refine g_get hC fl_X4_30 dX4_move_14 17 rfl 0 rfl rfl ?_
  refine g_aload_n hC dX4_move_17 18 rfl rfl 0 rfl ?_
  refine g_get hC fl_X4_20 dX4_move_18 21 rfl 0 rfl rfl ?_
  obtain ⟨i6, hi8, hi, h⟩ := h
  refine g_keepO hC hi8 hi dX4_move_21 24 rfl ⟨Nat.le_of_ble_eq_true rfl, Nat.le_of_ble_eq_true rfl⟩ (Nat.le_of_ble_eq_true rfl) ⟨Nat.le_of_ble_eq_true rfl, Nat.le_of_ble_eq_true rfl⟩ ?_
  obtain ⟨o5, eo5⟩ : ∃ y : Off, y = keepH o4 o4 i6 := ⟨_, rfl⟩
  have h := h o5 eo5
  rw [← eo5]
  refine g_aload_n hC dX4_move_24 25 rfl rfl 0 rfl ?_
  refine g_get hC fl_X4_20 dX4_move_25 28 rfl 0 rfl rfl ?_
  refine g_iload_n hC dX4_move_28 29 rfl rfl 1 rfl ?_
  refine g_iload_n hC dX4_move_29 30 rfl rfl 2 rfl ?_
  refine g_subI hC (ct_X3_transfer l g (A 2) o5 p0 p1 _ h) gY_X3_transfer dX4_move_30 33 rfl ml_X4_170 (emb_off g A o5) (emb_off1 g A o5) [] rfl rfl rfl 0 7 rfl rfl ⟨Nat.le_of_ble_eq_true rfl, Nat.le_of_ble_eq_true rfl⟩ (Nat.le_of_ble_eq_true rfl) ⟨Nat.le_of_ble_eq_true rfl, Nat.le_of_ble_eq_true rfl⟩ (fun v9 o7 h => ?_)
  obtain ⟨o8, eo8⟩ : ∃ y : Off, y = put o5 0 12 o7 := ⟨_, rfl⟩
  have h := h o8 eo8
  rw [← eo8]
  refine g_widen (k2 := 4) (n2 := 24) (Nat.le_of_ble_eq_true rfl) (Nat.le_of_ble_eq_true rfl) ?_
  exact g_rx hZ (g_iret (gXQ_C hC) (gXQ_Z hZ) dX4_move_33 ⟨_, _, rfl, rfl, h⟩)
def wp_X4_pair (post : Int32 → Off → Prop) (px : Nat → Off → Prop) (o : Off) (p0 : Int32) (p1 : Int32) : Prop := wp_X0_pairing (fun v3 o1 => (∀ o2 : Off, o2 = put o 0 13 o1 → wp_X4_require (fun o4 => (∃ i6 : Nat, i6 < 8 ∧ o4 60 2 = nI i6 ∧ (∀ o5 : Off, o5 = keepH o4 o4 i6 → wp_X3_join (fun v9 o7 => (∀ o8 : Off, o8 = put o5 0 12 o7 → post v9 o8)) o5 p0 p1))) px o2 v3)) o p0 p1
set_option maxRecDepth 100000 in
set_option maxHeartbeats 4000000 in
theorem ct_X4_pair (l : Launch) (g : gE) (A : Nat → Nat → Nat) (o : Off) (p0 : Int32) (p1 : Int32) (post : Int32 → Off → Prop) (px : Nat → Off → Prop) (h : wp_X4_pair post px o p0 p1) : FnX l g yX4_pair cX4_pair 3 (some .int) 8 363 4 24 (embW g A o) [.ref (A 0 0), .int p0, .int p1] (pI (embW g A) post) (pX (embW g A) px) := by
  refine FnX.of (by decide) (Nat.le_of_ble_eq_true rfl) (fun x hC hZ => ?_)
  rw [wp_X4_pair] at h
  show G x g 3 0 0 (embW g A o) 0 [(0, .ref (A 0 0)), (1, .int p0), (2, .int p1)] []
  refine g_aload_n hC dX4_pair_0 1 rfl rfl 0 rfl ?_
  refine g_aload_n hC dX4_pair_1 2 rfl rfl 0 rfl ?_
  refine g_get hC fl_X4_10 dX4_pair_2 5 rfl 0 rfl rfl ?_
  refine g_iload_n hC dX4_pair_5 6 rfl rfl 1 rfl ?_
  refine g_iload_n hC dX4_pair_6 7 rfl rfl 2 rfl ?_
  refine g_subI hC (ct_X0_pairing l g (A 1 0) (A 2) o p0 p1 _ h) gY_X0_pairing dX4_pair_7 10 rfl ml_X4_173 (emb_chk g A o) (emb_chk1 g A o) [.ref (A 0 0)] rfl rfl rfl 0 4 rfl rfl ⟨Nat.le_of_ble_eq_true rfl, Nat.le_of_ble_eq_true rfl⟩ (Nat.le_of_ble_eq_true rfl) ⟨Nat.le_of_ble_eq_true rfl, Nat.le_of_ble_eq_true rfl⟩ (fun v3 o1 h => ?_)
  obtain ⟨o2, eo2⟩ : ∃ y : Off, y = put o 0 13 o1 := ⟨_, rfl⟩
  have h := h o2 eo2
  rw [← eo2]
  refine g_ownVX hC hZ (ct_X4_require l g A o2 v3 _ _ h) gY_X4_require dX4_pair_10 13 rfl ml_X4_65 [] rfl rfl rfl 0 8 rfl rfl ⟨Nat.le_of_ble_eq_true rfl, Nat.le_of_ble_eq_true rfl⟩ (Nat.le_of_ble_eq_true rfl) ⟨Nat.le_of_ble_eq_true rfl, Nat.le_of_ble_eq_true rfl⟩ ⟨Nat.le_of_ble_eq_true rfl, Nat.le_of_ble_eq_true rfl⟩ (fun o4 h => ?_)
  refine g_widen (k2 := 4) (n2 := 24) (Nat.le_of_ble_eq_true rfl) (Nat.le_of_ble_eq_true rfl) ?_
  refine g_aload_n hC dX4_pair_13 14 rfl rfl 0 rfl ?_
  refine g_get hC fl_X4_30 dX4_pair_14 17 rfl 0 rfl rfl ?_
  refine g_aload_n hC dX4_pair_17 18 rfl rfl 0 rfl ?_
  refine g_get hC fl_X4_20 dX4_pair_18 21 rfl 0 rfl rfl ?_
  obtain ⟨i6, hi8, hi, h⟩ := h
  refine g_keepO hC hi8 hi dX4_pair_21 24 rfl ⟨Nat.le_of_ble_eq_true rfl, Nat.le_of_ble_eq_true rfl⟩ (Nat.le_of_ble_eq_true rfl) ⟨Nat.le_of_ble_eq_true rfl, Nat.le_of_ble_eq_true rfl⟩ ?_
  obtain ⟨o5, eo5⟩ : ∃ y : Off, y = keepH o4 o4 i6 := ⟨_, rfl⟩
  have h := h o5 eo5
  rw [← eo5]
  refine g_aload_n hC dX4_pair_24 25 rfl rfl 0 rfl ?_
  refine g_get hC fl_X4_20 dX4_pair_25 28 rfl 0 rfl rfl ?_
  refine g_iload_n hC dX4_pair_28 29 rfl rfl 1 rfl ?_
  refine g_iload_n hC dX4_pair_29 30 rfl rfl 2 rfl ?_
  refine g_subI hC (ct_X3_join l g (A 2) o5 p0 p1 _ h) gY_X3_join dX4_pair_30 33 rfl ml_X4_176 (emb_off g A o5) (emb_off1 g A o5) [] rfl rfl rfl 0 7 rfl rfl ⟨Nat.le_of_ble_eq_true rfl, Nat.le_of_ble_eq_true rfl⟩ (Nat.le_of_ble_eq_true rfl) ⟨Nat.le_of_ble_eq_true rfl, Nat.le_of_ble_eq_true rfl⟩ (fun v9 o7 h => ?_)
  obtain ⟨o8, eo8⟩ : ∃ y : Off, y = put o5 0 12 o7 := ⟨_, rfl⟩
  have h := h o8 eo8
  rw [← eo8]
  refine g_widen (k2 := 4) (n2 := 24) (Nat.le_of_ble_eq_true rfl) (Nat.le_of_ble_eq_true rfl) ?_
  exact g_rx hZ (g_iret (gXQ_C hC) (gXQ_Z hZ) dX4_pair_33 ⟨_, _, rfl, rfl, h⟩)
def wp_X4_separate (post : Int32 → Off → Prop) (px : Nat → Off → Prop) (o : Off) (p0 : Int32) : Prop := wp_X0_separating (fun v3 o1 => (∀ o2 : Off, o2 = put o 0 13 o1 → wp_X4_require (fun o4 => (∃ i6 : Nat, i6 < 8 ∧ o4 60 2 = nI i6 ∧ (∀ o5 : Off, o5 = keepH o4 o4 i6 → wp_X3_part (fun v9 o7 => (∀ o8 : Off, o8 = put o5 0 12 o7 → post v9 o8)) o5 p0))) px o2 v3)) o p0
set_option maxRecDepth 100000 in
set_option maxHeartbeats 4000000 in
theorem ct_X4_separate (l : Launch) (g : gE) (A : Nat → Nat → Nat) (o : Off) (p0 : Int32) (post : Int32 → Off → Prop) (px : Nat → Off → Prop) (h : wp_X4_separate post px o p0) : FnX l g yX4_separate cX4_separate 2 (some .int) 8 363 4 24 (embW g A o) [.ref (A 0 0), .int p0] (pI (embW g A) post) (pX (embW g A) px) := by
  refine FnX.of (by decide) (Nat.le_of_ble_eq_true rfl) (fun x hC hZ => ?_)
  rw [wp_X4_separate] at h
  show G x g 2 0 0 (embW g A o) 0 [(0, .ref (A 0 0)), (1, .int p0)] []
  refine g_aload_n hC dX4_separate_0 1 rfl rfl 0 rfl ?_
  refine g_aload_n hC dX4_separate_1 2 rfl rfl 0 rfl ?_
  refine g_get hC fl_X4_10 dX4_separate_2 5 rfl 0 rfl rfl ?_
  refine g_iload_n hC dX4_separate_5 6 rfl rfl 1 rfl ?_
  refine g_subI hC (ct_X0_separating l g (A 1 0) (A 2) o p0 _ h) gY_X0_separating dX4_separate_6 9 rfl ml_X4_179 (emb_chk g A o) (emb_chk1 g A o) [.ref (A 0 0)] rfl rfl rfl 0 4 rfl rfl ⟨Nat.le_of_ble_eq_true rfl, Nat.le_of_ble_eq_true rfl⟩ (Nat.le_of_ble_eq_true rfl) ⟨Nat.le_of_ble_eq_true rfl, Nat.le_of_ble_eq_true rfl⟩ (fun v3 o1 h => ?_)
  obtain ⟨o2, eo2⟩ : ∃ y : Off, y = put o 0 13 o1 := ⟨_, rfl⟩
  have h := h o2 eo2
  rw [← eo2]
  refine g_ownVX hC hZ (ct_X4_require l g A o2 v3 _ _ h) gY_X4_require dX4_separate_9 12 rfl ml_X4_65 [] rfl rfl rfl 0 8 rfl rfl ⟨Nat.le_of_ble_eq_true rfl, Nat.le_of_ble_eq_true rfl⟩ (Nat.le_of_ble_eq_true rfl) ⟨Nat.le_of_ble_eq_true rfl, Nat.le_of_ble_eq_true rfl⟩ ⟨Nat.le_of_ble_eq_true rfl, Nat.le_of_ble_eq_true rfl⟩ (fun o4 h => ?_)
  refine g_widen (k2 := 4) (n2 := 24) (Nat.le_of_ble_eq_true rfl) (Nat.le_of_ble_eq_true rfl) ?_
  refine g_aload_n hC dX4_separate_12 13 rfl rfl 0 rfl ?_
  refine g_get hC fl_X4_30 dX4_separate_13 16 rfl 0 rfl rfl ?_
  refine g_aload_n hC dX4_separate_16 17 rfl rfl 0 rfl ?_
  refine g_get hC fl_X4_20 dX4_separate_17 20 rfl 0 rfl rfl ?_
  obtain ⟨i6, hi8, hi, h⟩ := h
  refine g_keepO hC hi8 hi dX4_separate_20 23 rfl ⟨Nat.le_of_ble_eq_true rfl, Nat.le_of_ble_eq_true rfl⟩ (Nat.le_of_ble_eq_true rfl) ⟨Nat.le_of_ble_eq_true rfl, Nat.le_of_ble_eq_true rfl⟩ ?_
  obtain ⟨o5, eo5⟩ : ∃ y : Off, y = keepH o4 o4 i6 := ⟨_, rfl⟩
  have h := h o5 eo5
  rw [← eo5]
  refine g_aload_n hC dX4_separate_23 24 rfl rfl 0 rfl ?_
  refine g_get hC fl_X4_20 dX4_separate_24 27 rfl 0 rfl rfl ?_
  refine g_iload_n hC dX4_separate_27 28 rfl rfl 1 rfl ?_
  refine g_subI hC (ct_X3_part l g (A 2) o5 p0 _ h) gY_X3_part dX4_separate_28 31 rfl ml_X4_182 (emb_off g A o5) (emb_off1 g A o5) [] rfl rfl rfl 0 7 rfl rfl ⟨Nat.le_of_ble_eq_true rfl, Nat.le_of_ble_eq_true rfl⟩ (Nat.le_of_ble_eq_true rfl) ⟨Nat.le_of_ble_eq_true rfl, Nat.le_of_ble_eq_true rfl⟩ (fun v9 o7 h => ?_)
  obtain ⟨o8, eo8⟩ : ∃ y : Off, y = put o5 0 12 o7 := ⟨_, rfl⟩
  have h := h o8 eo8
  rw [← eo8]
  refine g_widen (k2 := 4) (n2 := 24) (Nat.le_of_ble_eq_true rfl) (Nat.le_of_ble_eq_true rfl) ?_
  exact g_rx hZ (g_iret (gXQ_C hC) (gXQ_Z hZ) dX4_separate_31 ⟨_, _, rfl, rfl, h⟩)
def wp_X4_pairCount (post : Int32 → Off → Prop) (px : Nat → Off → Prop) (o : Off) (p0 : Int32) : Prop := wp_X4_requireDrawer (fun o1 => wp_X3_pairsIn (fun v2 => post v2 o1) o1 p0) px o p0
set_option maxRecDepth 100000 in
set_option maxHeartbeats 4000000 in
theorem ct_X4_pairCount (l : Launch) (g : gE) (A : Nat → Nat → Nat) (o : Off) (p0 : Int32) (post : Int32 → Off → Prop) (px : Nat → Off → Prop) (h : wp_X4_pairCount post px o p0) : FnX l g yX4_pairCount cX4_pairCount 2 (some .int) 8 132 1 6 (embW g A o) [.ref (A 0 0), .int p0] (pI (embW g A) post) (pX (embW g A) px) := by
  refine FnX.of (by decide) (Nat.le_of_ble_eq_true rfl) (fun x hC hZ => ?_)
  rw [wp_X4_pairCount] at h
  show G x g 2 0 0 (embW g A o) 0 [(0, .ref (A 0 0)), (1, .int p0)] []
  refine g_aload_n hC dX4_pairCount_0 1 rfl rfl 0 rfl ?_
  refine g_iload_n hC dX4_pairCount_1 2 rfl rfl 1 rfl ?_
  refine g_ownVX hC hZ (ct_X4_requireDrawer l g A o p0 _ _ h) gY_X4_requireDrawer dX4_pairCount_2 5 rfl ml_X4_143 [] rfl rfl rfl 0 8 rfl rfl ⟨Nat.le_of_ble_eq_true rfl, Nat.le_of_ble_eq_true rfl⟩ (Nat.le_of_ble_eq_true rfl) ⟨Nat.le_of_ble_eq_true rfl, Nat.le_of_ble_eq_true rfl⟩ ⟨Nat.le_of_ble_eq_true rfl, Nat.le_of_ble_eq_true rfl⟩ (fun o1 h => ?_)
  refine g_widen (k2 := 1) (n2 := 6) (Nat.le_of_ble_eq_true rfl) (Nat.le_of_ble_eq_true rfl) ?_
  refine g_aload_n hC dX4_pairCount_5 6 rfl rfl 0 rfl ?_
  refine g_get hC fl_X4_20 dX4_pairCount_6 9 rfl 0 rfl rfl ?_
  refine g_iload_n hC dX4_pairCount_9 10 rfl rfl 1 rfl ?_
  refine g_readV hC (ct_X3_pairsIn l g (A 2) o1 p0 _ h) gY_X3_pairsIn dX4_pairCount_10 13 rfl ml_X4_185 _ _ (emb_off g A o1) [] rfl rfl rfl 0 7 rfl rfl ⟨Nat.le_of_ble_eq_true rfl, Nat.le_of_ble_eq_true rfl⟩ (Nat.le_of_ble_eq_true rfl) ⟨Nat.le_of_ble_eq_true rfl, Nat.le_of_ble_eq_true rfl⟩ (fun v2 h => ?_)
  refine g_widen (k2 := 1) (n2 := 6) (Nat.le_of_ble_eq_true rfl) (Nat.le_of_ble_eq_true rfl) ?_
  exact g_rx hZ (g_iret (gXQ_C hC) (gXQ_Z hZ) dX4_pairCount_13 ⟨_, _, rfl, rfl, h⟩)
def wp_X4_possiblePairs (post : Int32 → Off → Prop) (px : Nat → Off → Prop) (o : Off) (p0 : Int32) : Prop := wp_X4_requireDrawer (fun o1 => wp_X3_pairsByTrying (fun v2 => post v2 o1) o1 p0) px o p0
set_option maxRecDepth 100000 in
set_option maxHeartbeats 4000000 in
theorem ct_X4_possiblePairs (l : Launch) (g : gE) (A : Nat → Nat → Nat) (o : Off) (p0 : Int32) (post : Int32 → Off → Prop) (px : Nat → Off → Prop) (h : wp_X4_possiblePairs post px o p0) : FnX l g yX4_possiblePairs cX4_possiblePairs 2 (some .int) 18 689 1 6 (embW g A o) [.ref (A 0 0), .int p0] (pI (embW g A) post) (pX (embW g A) px) := by
  refine FnX.of (by decide) (Nat.le_of_ble_eq_true rfl) (fun x hC hZ => ?_)
  rw [wp_X4_possiblePairs] at h
  show G x g 2 0 0 (embW g A o) 0 [(0, .ref (A 0 0)), (1, .int p0)] []
  refine g_aload_n hC dX4_possiblePairs_0 1 rfl rfl 0 rfl ?_
  refine g_iload_n hC dX4_possiblePairs_1 2 rfl rfl 1 rfl ?_
  refine g_ownVX hC hZ (ct_X4_requireDrawer l g A o p0 _ _ h) gY_X4_requireDrawer dX4_possiblePairs_2 5 rfl ml_X4_143 [] rfl rfl rfl 0 8 rfl rfl ⟨Nat.le_of_ble_eq_true rfl, Nat.le_of_ble_eq_true rfl⟩ (Nat.le_of_ble_eq_true rfl) ⟨Nat.le_of_ble_eq_true rfl, Nat.le_of_ble_eq_true rfl⟩ ⟨Nat.le_of_ble_eq_true rfl, Nat.le_of_ble_eq_true rfl⟩ (fun o1 h => ?_)
  refine g_widen (k2 := 1) (n2 := 6) (Nat.le_of_ble_eq_true rfl) (Nat.le_of_ble_eq_true rfl) ?_
  refine g_aload_n hC dX4_possiblePairs_5 6 rfl rfl 0 rfl ?_
  refine g_get hC fl_X4_20 dX4_possiblePairs_6 9 rfl 0 rfl rfl ?_
  refine g_iload_n hC dX4_possiblePairs_9 10 rfl rfl 1 rfl ?_
  refine g_readV hC (ct_X3_pairsByTrying l g (A 2) o1 p0 _ h) gY_X3_pairsByTrying dX4_possiblePairs_10 13 rfl ml_X4_188 _ _ (emb_off g A o1) [] rfl rfl rfl 0 7 rfl rfl ⟨Nat.le_of_ble_eq_true rfl, Nat.le_of_ble_eq_true rfl⟩ (Nat.le_of_ble_eq_true rfl) ⟨Nat.le_of_ble_eq_true rfl, Nat.le_of_ble_eq_true rfl⟩ (fun v2 h => ?_)
  refine g_widen (k2 := 1) (n2 := 6) (Nat.le_of_ble_eq_true rfl) (Nat.le_of_ble_eq_true rfl) ?_
  exact g_rx hZ (g_iret (gXQ_C hC) (gXQ_Z hZ) dX4_possiblePairs_13 ⟨_, _, rfl, rfl, h⟩)
def wp_X4_possiblePairsByColours (post : Int32 → Off → Prop) (px : Nat → Off → Prop) (o : Off) (p0 : Int32) : Prop := wp_X4_requireDrawer (fun o1 => wp_X3_pairsByCounting (fun v2 => post v2 o1) o1 p0) px o p0
set_option maxRecDepth 100000 in
set_option maxHeartbeats 4000000 in
theorem ct_X4_possiblePairsByColours (l : Launch) (g : gE) (A : Nat → Nat → Nat) (o : Off) (p0 : Int32) (post : Int32 → Off → Prop) (px : Nat → Off → Prop) (h : wp_X4_possiblePairsByColours post px o p0) : FnX l g yX4_possiblePairsByColours cX4_possiblePairsByColours 2 (some .int) 8 134 1 6 (embW g A o) [.ref (A 0 0), .int p0] (pI (embW g A) post) (pX (embW g A) px) := by
  refine FnX.of (by decide) (Nat.le_of_ble_eq_true rfl) (fun x hC hZ => ?_)
  rw [wp_X4_possiblePairsByColours] at h
  show G x g 2 0 0 (embW g A o) 0 [(0, .ref (A 0 0)), (1, .int p0)] []
  refine g_aload_n hC dX4_possiblePairsByColours_0 1 rfl rfl 0 rfl ?_
  refine g_iload_n hC dX4_possiblePairsByColours_1 2 rfl rfl 1 rfl ?_
  refine g_ownVX hC hZ (ct_X4_requireDrawer l g A o p0 _ _ h) gY_X4_requireDrawer dX4_possiblePairsByColours_2 5 rfl ml_X4_143 [] rfl rfl rfl 0 8 rfl rfl ⟨Nat.le_of_ble_eq_true rfl, Nat.le_of_ble_eq_true rfl⟩ (Nat.le_of_ble_eq_true rfl) ⟨Nat.le_of_ble_eq_true rfl, Nat.le_of_ble_eq_true rfl⟩ ⟨Nat.le_of_ble_eq_true rfl, Nat.le_of_ble_eq_true rfl⟩ (fun o1 h => ?_)
  refine g_widen (k2 := 1) (n2 := 6) (Nat.le_of_ble_eq_true rfl) (Nat.le_of_ble_eq_true rfl) ?_
  refine g_aload_n hC dX4_possiblePairsByColours_5 6 rfl rfl 0 rfl ?_
  refine g_get hC fl_X4_20 dX4_possiblePairsByColours_6 9 rfl 0 rfl rfl ?_
  refine g_iload_n hC dX4_possiblePairsByColours_9 10 rfl rfl 1 rfl ?_
  refine g_readV hC (ct_X3_pairsByCounting l g (A 2) o1 p0 _ h) gY_X3_pairsByCounting dX4_possiblePairsByColours_10 13 rfl ml_X4_191 _ _ (emb_off g A o1) [] rfl rfl rfl 0 7 rfl rfl ⟨Nat.le_of_ble_eq_true rfl, Nat.le_of_ble_eq_true rfl⟩ (Nat.le_of_ble_eq_true rfl) ⟨Nat.le_of_ble_eq_true rfl, Nat.le_of_ble_eq_true rfl⟩ (fun v2 h => ?_)
  refine g_widen (k2 := 1) (n2 := 6) (Nat.le_of_ble_eq_true rfl) (Nat.le_of_ble_eq_true rfl) ?_
  exact g_rx hZ (g_iret (gXQ_C hC) (gXQ_Z hZ) dX4_possiblePairsByColours_13 ⟨_, _, rfl, rfl, h⟩)
def wp_X4_setQuota (post : Int32 → Off → Prop) (px : Nat → Off → Prop) (o : Off) (p0 : Int32) (p1 : Int32) : Prop := wp_X0_settingQuota (fun v1 => wp_X4_require (fun o2 => (∃ i4 : Nat, i4 < 8 ∧ o2 60 2 = nI i4 ∧ (∀ o3 : Off, o3 = keepH o2 o2 i4 → wp_X3_changeQuota (fun v7 o5 => (∀ o6 : Off, o6 = put o3 0 12 o5 → post v7 o6)) o3 p0 p1))) px o v1) o p0 p1
set_option maxRecDepth 100000 in
set_option maxHeartbeats 4000000 in
theorem ct_X4_setQuota (l : Launch) (g : gE) (A : Nat → Nat → Nat) (o : Off) (p0 : Int32) (p1 : Int32) (post : Int32 → Off → Prop) (px : Nat → Off → Prop) (h : wp_X4_setQuota post px o p0 p1) : FnX l g yX4_setQuota cX4_setQuota 3 (some .int) 8 363 4 24 (embW g A o) [.ref (A 0 0), .int p0, .int p1] (pI (embW g A) post) (pX (embW g A) px) := by
  refine FnX.of (by decide) (Nat.le_of_ble_eq_true rfl) (fun x hC hZ => ?_)
  rw [wp_X4_setQuota] at h
  show G x g 3 0 0 (embW g A o) 0 [(0, .ref (A 0 0)), (1, .int p0), (2, .int p1)] []
  refine g_aload_n hC dX4_setQuota_0 1 rfl rfl 0 rfl ?_
  refine g_aload_n hC dX4_setQuota_1 2 rfl rfl 0 rfl ?_
  refine g_get hC fl_X4_10 dX4_setQuota_2 5 rfl 0 rfl rfl ?_
  refine g_iload_n hC dX4_setQuota_5 6 rfl rfl 1 rfl ?_
  refine g_iload_n hC dX4_setQuota_6 7 rfl rfl 2 rfl ?_
  refine g_readV hC (ct_X0_settingQuota l g (A 1 0) (A 2) o p0 p1 _ h) gY_X0_settingQuota dX4_setQuota_7 10 rfl ml_X4_194 _ _ (emb_chk g A o) [.ref (A 0 0)] rfl rfl rfl 0 4 rfl rfl ⟨Nat.le_of_ble_eq_true rfl, Nat.le_of_ble_eq_true rfl⟩ (Nat.le_of_ble_eq_true rfl) ⟨Nat.le_of_ble_eq_true rfl, Nat.le_of_ble_eq_true rfl⟩ (fun v1 h => ?_)
  refine g_ownVX hC hZ (ct_X4_require l g A o v1 _ _ h) gY_X4_require dX4_setQuota_10 13 rfl ml_X4_65 [] rfl rfl rfl 0 8 rfl rfl ⟨Nat.le_of_ble_eq_true rfl, Nat.le_of_ble_eq_true rfl⟩ (Nat.le_of_ble_eq_true rfl) ⟨Nat.le_of_ble_eq_true rfl, Nat.le_of_ble_eq_true rfl⟩ ⟨Nat.le_of_ble_eq_true rfl, Nat.le_of_ble_eq_true rfl⟩ (fun o2 h => ?_)
  refine g_widen (k2 := 4) (n2 := 24) (Nat.le_of_ble_eq_true rfl) (Nat.le_of_ble_eq_true rfl) ?_
  refine g_aload_n hC dX4_setQuota_13 14 rfl rfl 0 rfl ?_
  refine g_get hC fl_X4_30 dX4_setQuota_14 17 rfl 0 rfl rfl ?_
  refine g_aload_n hC dX4_setQuota_17 18 rfl rfl 0 rfl ?_
  refine g_get hC fl_X4_20 dX4_setQuota_18 21 rfl 0 rfl rfl ?_
  obtain ⟨i4, hi8, hi, h⟩ := h
  refine g_keepO hC hi8 hi dX4_setQuota_21 24 rfl ⟨Nat.le_of_ble_eq_true rfl, Nat.le_of_ble_eq_true rfl⟩ (Nat.le_of_ble_eq_true rfl) ⟨Nat.le_of_ble_eq_true rfl, Nat.le_of_ble_eq_true rfl⟩ ?_
  obtain ⟨o3, eo3⟩ : ∃ y : Off, y = keepH o2 o2 i4 := ⟨_, rfl⟩
  have h := h o3 eo3
  rw [← eo3]
  refine g_aload_n hC dX4_setQuota_24 25 rfl rfl 0 rfl ?_
  refine g_get hC fl_X4_20 dX4_setQuota_25 28 rfl 0 rfl rfl ?_
  refine g_iload_n hC dX4_setQuota_28 29 rfl rfl 1 rfl ?_
  refine g_iload_n hC dX4_setQuota_29 30 rfl rfl 2 rfl ?_
  refine g_subI hC (ct_X3_changeQuota l g (A 2) o3 p0 p1 _ h) gY_X3_changeQuota dX4_setQuota_30 33 rfl ml_X4_197 (emb_off g A o3) (emb_off1 g A o3) [] rfl rfl rfl 0 7 rfl rfl ⟨Nat.le_of_ble_eq_true rfl, Nat.le_of_ble_eq_true rfl⟩ (Nat.le_of_ble_eq_true rfl) ⟨Nat.le_of_ble_eq_true rfl, Nat.le_of_ble_eq_true rfl⟩ (fun v7 o5 h => ?_)
  obtain ⟨o6, eo6⟩ : ∃ y : Off, y = put o3 0 12 o5 := ⟨_, rfl⟩
  have h := h o6 eo6
  rw [← eo6]
  refine g_widen (k2 := 4) (n2 := 24) (Nat.le_of_ble_eq_true rfl) (Nat.le_of_ble_eq_true rfl) ?_
  exact g_rx hZ (g_iret (gXQ_C hC) (gXQ_Z hZ) dX4_setQuota_33 ⟨_, _, rfl, rfl, h⟩)
def wp_X4_ban (post : Int32 → Off → Prop) (px : Nat → Off → Prop) (o : Off) (p0 : Int32) (p1 : Int32) : Prop := wp_X0_banning (fun v1 => wp_X4_require (fun o2 => (∃ i4 : Nat, i4 < 8 ∧ o2 60 2 = nI i4 ∧ (∀ o3 : Off, o3 = keepH o2 o2 i4 → wp_X3_forbid (fun v7 o5 => (∀ o6 : Off, o6 = put o3 0 12 o5 → (isB v7 ∧ post v7 o6))) o3 p0 p1))) px o v1) o p0 p1
set_option maxRecDepth 100000 in
set_option maxHeartbeats 4000000 in
theorem ct_X4_ban (l : Launch) (g : gE) (A : Nat → Nat → Nat) (o : Off) (p0 : Int32) (p1 : Int32) (post : Int32 → Off → Prop) (px : Nat → Off → Prop) (h : wp_X4_ban post px o p0 p1) : FnX l g yX4_ban cX4_ban 3 (some .boolean) 8 363 4 24 (embW g A o) [.ref (A 0 0), .int p0, .int p1] (pI (embW g A) post) (pX (embW g A) px) := by
  refine FnX.of (by decide) (Nat.le_of_ble_eq_true rfl) (fun x hC hZ => ?_)
  rw [wp_X4_ban] at h
  show G x g 3 0 0 (embW g A o) 0 [(0, .ref (A 0 0)), (1, .int p0), (2, .int p1)] []
  refine g_aload_n hC dX4_ban_0 1 rfl rfl 0 rfl ?_
  refine g_aload_n hC dX4_ban_1 2 rfl rfl 0 rfl ?_
  refine g_get hC fl_X4_10 dX4_ban_2 5 rfl 0 rfl rfl ?_
  refine g_iload_n hC dX4_ban_5 6 rfl rfl 1 rfl ?_
  refine g_iload_n hC dX4_ban_6 7 rfl rfl 2 rfl ?_
  refine g_readV hC (ct_X0_banning l g (A 1 0) (A 2) o p0 p1 _ h) gY_X0_banning dX4_ban_7 10 rfl ml_X4_200 _ _ (emb_chk g A o) [.ref (A 0 0)] rfl rfl rfl 0 4 rfl rfl ⟨Nat.le_of_ble_eq_true rfl, Nat.le_of_ble_eq_true rfl⟩ (Nat.le_of_ble_eq_true rfl) ⟨Nat.le_of_ble_eq_true rfl, Nat.le_of_ble_eq_true rfl⟩ (fun v1 h => ?_)
  refine g_ownVX hC hZ (ct_X4_require l g A o v1 _ _ h) gY_X4_require dX4_ban_10 13 rfl ml_X4_65 [] rfl rfl rfl 0 8 rfl rfl ⟨Nat.le_of_ble_eq_true rfl, Nat.le_of_ble_eq_true rfl⟩ (Nat.le_of_ble_eq_true rfl) ⟨Nat.le_of_ble_eq_true rfl, Nat.le_of_ble_eq_true rfl⟩ ⟨Nat.le_of_ble_eq_true rfl, Nat.le_of_ble_eq_true rfl⟩ (fun o2 h => ?_)
  refine g_widen (k2 := 4) (n2 := 24) (Nat.le_of_ble_eq_true rfl) (Nat.le_of_ble_eq_true rfl) ?_
  refine g_aload_n hC dX4_ban_13 14 rfl rfl 0 rfl ?_
  refine g_get hC fl_X4_30 dX4_ban_14 17 rfl 0 rfl rfl ?_
  refine g_aload_n hC dX4_ban_17 18 rfl rfl 0 rfl ?_
  refine g_get hC fl_X4_20 dX4_ban_18 21 rfl 0 rfl rfl ?_
  obtain ⟨i4, hi8, hi, h⟩ := h
  refine g_keepO hC hi8 hi dX4_ban_21 24 rfl ⟨Nat.le_of_ble_eq_true rfl, Nat.le_of_ble_eq_true rfl⟩ (Nat.le_of_ble_eq_true rfl) ⟨Nat.le_of_ble_eq_true rfl, Nat.le_of_ble_eq_true rfl⟩ ?_
  obtain ⟨o3, eo3⟩ : ∃ y : Off, y = keepH o2 o2 i4 := ⟨_, rfl⟩
  have h := h o3 eo3
  rw [← eo3]
  refine g_aload_n hC dX4_ban_24 25 rfl rfl 0 rfl ?_
  refine g_get hC fl_X4_20 dX4_ban_25 28 rfl 0 rfl rfl ?_
  refine g_iload_n hC dX4_ban_28 29 rfl rfl 1 rfl ?_
  refine g_iload_n hC dX4_ban_29 30 rfl rfl 2 rfl ?_
  refine g_subI hC (ct_X3_forbid l g (A 2) o3 p0 p1 _ h) gY_X3_forbid dX4_ban_30 33 rfl ml_X4_204 (emb_off g A o3) (emb_off1 g A o3) [] rfl rfl rfl 0 7 rfl rfl ⟨Nat.le_of_ble_eq_true rfl, Nat.le_of_ble_eq_true rfl⟩ (Nat.le_of_ble_eq_true rfl) ⟨Nat.le_of_ble_eq_true rfl, Nat.le_of_ble_eq_true rfl⟩ (fun v7 o5 h => ?_)
  obtain ⟨o6, eo6⟩ : ∃ y : Off, y = put o3 0 12 o5 := ⟨_, rfl⟩
  have h := h o6 eo6
  rw [← eo6]
  refine g_widen (k2 := 4) (n2 := 24) (Nat.le_of_ble_eq_true rfl) (Nat.le_of_ble_eq_true rfl) ?_
  obtain ⟨hb, h⟩ := h
  exact g_rx hZ (g_zret (gXQ_C hC) (gXQ_Z hZ) (isB_n hb) dX4_ban_33 ⟨_, _, rfl, rfl, h⟩)
def wp_X4_unban (post : Int32 → Off → Prop) (px : Nat → Off → Prop) (o : Off) (p0 : Int32) (p1 : Int32) : Prop := wp_X0_banning (fun v1 => wp_X4_require (fun o2 => (∃ i4 : Nat, i4 < 8 ∧ o2 60 2 = nI i4 ∧ (∀ o3 : Off, o3 = keepH o2 o2 i4 → wp_X3_permit (fun v7 o5 => (∀ o6 : Off, o6 = put o3 0 12 o5 → (isB v7 ∧ post v7 o6))) o3 p0 p1))) px o v1) o p0 p1
set_option maxRecDepth 100000 in
set_option maxHeartbeats 4000000 in
theorem ct_X4_unban (l : Launch) (g : gE) (A : Nat → Nat → Nat) (o : Off) (p0 : Int32) (p1 : Int32) (post : Int32 → Off → Prop) (px : Nat → Off → Prop) (h : wp_X4_unban post px o p0 p1) : FnX l g yX4_unban cX4_unban 3 (some .boolean) 8 363 4 24 (embW g A o) [.ref (A 0 0), .int p0, .int p1] (pI (embW g A) post) (pX (embW g A) px) := by
  refine FnX.of (by decide) (Nat.le_of_ble_eq_true rfl) (fun x hC hZ => ?_)
  rw [wp_X4_unban] at h
  show G x g 3 0 0 (embW g A o) 0 [(0, .ref (A 0 0)), (1, .int p0), (2, .int p1)] []
  refine g_aload_n hC dX4_unban_0 1 rfl rfl 0 rfl ?_
  refine g_aload_n hC dX4_unban_1 2 rfl rfl 0 rfl ?_
  refine g_get hC fl_X4_10 dX4_unban_2 5 rfl 0 rfl rfl ?_
  refine g_iload_n hC dX4_unban_5 6 rfl rfl 1 rfl ?_
  refine g_iload_n hC dX4_unban_6 7 rfl rfl 2 rfl ?_
  refine g_readV hC (ct_X0_banning l g (A 1 0) (A 2) o p0 p1 _ h) gY_X0_banning dX4_unban_7 10 rfl ml_X4_200 _ _ (emb_chk g A o) [.ref (A 0 0)] rfl rfl rfl 0 4 rfl rfl ⟨Nat.le_of_ble_eq_true rfl, Nat.le_of_ble_eq_true rfl⟩ (Nat.le_of_ble_eq_true rfl) ⟨Nat.le_of_ble_eq_true rfl, Nat.le_of_ble_eq_true rfl⟩ (fun v1 h => ?_)
  refine g_ownVX hC hZ (ct_X4_require l g A o v1 _ _ h) gY_X4_require dX4_unban_10 13 rfl ml_X4_65 [] rfl rfl rfl 0 8 rfl rfl ⟨Nat.le_of_ble_eq_true rfl, Nat.le_of_ble_eq_true rfl⟩ (Nat.le_of_ble_eq_true rfl) ⟨Nat.le_of_ble_eq_true rfl, Nat.le_of_ble_eq_true rfl⟩ ⟨Nat.le_of_ble_eq_true rfl, Nat.le_of_ble_eq_true rfl⟩ (fun o2 h => ?_)
  refine g_widen (k2 := 4) (n2 := 24) (Nat.le_of_ble_eq_true rfl) (Nat.le_of_ble_eq_true rfl) ?_
  refine g_aload_n hC dX4_unban_13 14 rfl rfl 0 rfl ?_
  refine g_get hC fl_X4_30 dX4_unban_14 17 rfl 0 rfl rfl ?_
  refine g_aload_n hC dX4_unban_17 18 rfl rfl 0 rfl ?_
  refine g_get hC fl_X4_20 dX4_unban_18 21 rfl 0 rfl rfl ?_
  obtain ⟨i4, hi8, hi, h⟩ := h
  refine g_keepO hC hi8 hi dX4_unban_21 24 rfl ⟨Nat.le_of_ble_eq_true rfl, Nat.le_of_ble_eq_true rfl⟩ (Nat.le_of_ble_eq_true rfl) ⟨Nat.le_of_ble_eq_true rfl, Nat.le_of_ble_eq_true rfl⟩ ?_
  obtain ⟨o3, eo3⟩ : ∃ y : Off, y = keepH o2 o2 i4 := ⟨_, rfl⟩
  have h := h o3 eo3
  rw [← eo3]
  refine g_aload_n hC dX4_unban_24 25 rfl rfl 0 rfl ?_
  refine g_get hC fl_X4_20 dX4_unban_25 28 rfl 0 rfl rfl ?_
  refine g_iload_n hC dX4_unban_28 29 rfl rfl 1 rfl ?_
  refine g_iload_n hC dX4_unban_29 30 rfl rfl 2 rfl ?_
  refine g_subI hC (ct_X3_permit l g (A 2) o3 p0 p1 _ h) gY_X3_permit dX4_unban_30 33 rfl ml_X4_208 (emb_off g A o3) (emb_off1 g A o3) [] rfl rfl rfl 0 7 rfl rfl ⟨Nat.le_of_ble_eq_true rfl, Nat.le_of_ble_eq_true rfl⟩ (Nat.le_of_ble_eq_true rfl) ⟨Nat.le_of_ble_eq_true rfl, Nat.le_of_ble_eq_true rfl⟩ (fun v7 o5 h => ?_)
  obtain ⟨o6, eo6⟩ : ∃ y : Off, y = put o3 0 12 o5 := ⟨_, rfl⟩
  have h := h o6 eo6
  rw [← eo6]
  refine g_widen (k2 := 4) (n2 := 24) (Nat.le_of_ble_eq_true rfl) (Nat.le_of_ble_eq_true rfl) ?_
  obtain ⟨hb, h⟩ := h
  exact g_rx hZ (g_zret (gXQ_C hC) (gXQ_Z hZ) (isB_n hb) dX4_unban_33 ⟨_, _, rfl, rfl, h⟩)
def wp_X4_signTreaty (post : Int32 → Off → Prop) (px : Nat → Off → Prop) (o : Off) (p0 : Int32) (p1 : Int32) (p2 : Int32) : Prop := wp_X0_signing (fun v3 o1 => (∀ o2 : Off, o2 = put o 0 13 o1 → wp_X4_require (fun o4 => (∃ i6 : Nat, i6 < 8 ∧ o4 60 2 = nI i6 ∧ (∀ o5 : Off, o5 = keepH o4 o4 i6 → wp_X3_sign (fun v9 o7 => (∀ o8 : Off, o8 = put o5 0 12 o7 → post v9 o8)) o5 p0 p1 p2))) px o2 v3)) o p0 p1 p2
set_option maxRecDepth 100000 in
set_option maxHeartbeats 4000000 in
theorem ct_X4_signTreaty (l : Launch) (g : gE) (A : Nat → Nat → Nat) (o : Off) (p0 : Int32) (p1 : Int32) (p2 : Int32) (post : Int32 → Off → Prop) (px : Nat → Off → Prop) (h : wp_X4_signTreaty post px o p0 p1 p2) : FnX l g yX4_signTreaty cX4_signTreaty 4 (some .int) 8 363 4 24 (embW g A o) [.ref (A 0 0), .int p0, .int p1, .int p2] (pI (embW g A) post) (pX (embW g A) px) := by
  refine FnX.of (by decide) (Nat.le_of_ble_eq_true rfl) (fun x hC hZ => ?_)
  rw [wp_X4_signTreaty] at h
  show G x g 4 0 0 (embW g A o) 0 [(0, .ref (A 0 0)), (1, .int p0), (2, .int p1), (3, .int p2)] []
  refine g_aload_n hC dX4_signTreaty_0 1 rfl rfl 0 rfl ?_
  refine g_aload_n hC dX4_signTreaty_1 2 rfl rfl 0 rfl ?_
  refine g_get hC fl_X4_10 dX4_signTreaty_2 5 rfl 0 rfl rfl ?_
  refine g_iload_n hC dX4_signTreaty_5 6 rfl rfl 1 rfl ?_
  refine g_iload_n hC dX4_signTreaty_6 7 rfl rfl 2 rfl ?_
  refine g_iload_n hC dX4_signTreaty_7 8 rfl rfl 3 rfl ?_
  refine g_subI hC (ct_X0_signing l g (A 1 0) (A 2) o p0 p1 p2 _ h) gY_X0_signing dX4_signTreaty_8 11 rfl ml_X4_211 (emb_chk g A o) (emb_chk1 g A o) [.ref (A 0 0)] rfl rfl rfl 0 4 rfl rfl ⟨Nat.le_of_ble_eq_true rfl, Nat.le_of_ble_eq_true rfl⟩ (Nat.le_of_ble_eq_true rfl) ⟨Nat.le_of_ble_eq_true rfl, Nat.le_of_ble_eq_true rfl⟩ (fun v3 o1 h => ?_)
  obtain ⟨o2, eo2⟩ : ∃ y : Off, y = put o 0 13 o1 := ⟨_, rfl⟩
  have h := h o2 eo2
  rw [← eo2]
  refine g_ownVX hC hZ (ct_X4_require l g A o2 v3 _ _ h) gY_X4_require dX4_signTreaty_11 14 rfl ml_X4_65 [] rfl rfl rfl 0 8 rfl rfl ⟨Nat.le_of_ble_eq_true rfl, Nat.le_of_ble_eq_true rfl⟩ (Nat.le_of_ble_eq_true rfl) ⟨Nat.le_of_ble_eq_true rfl, Nat.le_of_ble_eq_true rfl⟩ ⟨Nat.le_of_ble_eq_true rfl, Nat.le_of_ble_eq_true rfl⟩ (fun o4 h => ?_)
  refine g_widen (k2 := 4) (n2 := 24) (Nat.le_of_ble_eq_true rfl) (Nat.le_of_ble_eq_true rfl) ?_
  refine g_aload_n hC dX4_signTreaty_14 15 rfl rfl 0 rfl ?_
  refine g_get hC fl_X4_30 dX4_signTreaty_15 18 rfl 0 rfl rfl ?_
  refine g_aload_n hC dX4_signTreaty_18 19 rfl rfl 0 rfl ?_
  refine g_get hC fl_X4_20 dX4_signTreaty_19 22 rfl 0 rfl rfl ?_
  obtain ⟨i6, hi8, hi, h⟩ := h
  refine g_keepO hC hi8 hi dX4_signTreaty_22 25 rfl ⟨Nat.le_of_ble_eq_true rfl, Nat.le_of_ble_eq_true rfl⟩ (Nat.le_of_ble_eq_true rfl) ⟨Nat.le_of_ble_eq_true rfl, Nat.le_of_ble_eq_true rfl⟩ ?_
  obtain ⟨o5, eo5⟩ : ∃ y : Off, y = keepH o4 o4 i6 := ⟨_, rfl⟩
  have h := h o5 eo5
  rw [← eo5]
  refine g_aload_n hC dX4_signTreaty_25 26 rfl rfl 0 rfl ?_
  refine g_get hC fl_X4_20 dX4_signTreaty_26 29 rfl 0 rfl rfl ?_
  refine g_iload_n hC dX4_signTreaty_29 30 rfl rfl 1 rfl ?_
  refine g_iload_n hC dX4_signTreaty_30 31 rfl rfl 2 rfl ?_
  refine g_iload_n hC dX4_signTreaty_31 32 rfl rfl 3 rfl ?_
  refine g_subI hC (ct_X3_sign l g (A 2) o5 p0 p1 p2 _ h) gY_X3_sign dX4_signTreaty_32 35 rfl ml_X4_215 (emb_off g A o5) (emb_off1 g A o5) [] rfl rfl rfl 0 7 rfl rfl ⟨Nat.le_of_ble_eq_true rfl, Nat.le_of_ble_eq_true rfl⟩ (Nat.le_of_ble_eq_true rfl) ⟨Nat.le_of_ble_eq_true rfl, Nat.le_of_ble_eq_true rfl⟩ (fun v9 o7 h => ?_)
  obtain ⟨o8, eo8⟩ : ∃ y : Off, y = put o5 0 12 o7 := ⟨_, rfl⟩
  have h := h o8 eo8
  rw [← eo8]
  refine g_widen (k2 := 4) (n2 := 24) (Nat.le_of_ble_eq_true rfl) (Nat.le_of_ble_eq_true rfl) ?_
  exact g_rx hZ (g_iret (gXQ_C hC) (gXQ_Z hZ) dX4_signTreaty_35 ⟨_, _, rfl, rfl, h⟩)
def wp_X4_endTreaty (post : Int32 → Off → Prop) (px : Nat → Off → Prop) (o : Off) (p0 : Int32) (p1 : Int32) : Prop := wp_X0_endingTreaty (fun v1 => wp_X4_require (fun o2 => (∃ i4 : Nat, i4 < 8 ∧ o2 60 2 = nI i4 ∧ (∀ o3 : Off, o3 = keepH o2 o2 i4 → wp_X3_cancel (fun v7 o5 => (∀ o6 : Off, o6 = put o3 0 12 o5 → post v7 o6)) o3 p0 p1))) px o v1) o p0 p1
set_option maxRecDepth 100000 in
set_option maxHeartbeats 4000000 in
theorem ct_X4_endTreaty (l : Launch) (g : gE) (A : Nat → Nat → Nat) (o : Off) (p0 : Int32) (p1 : Int32) (post : Int32 → Off → Prop) (px : Nat → Off → Prop) (h : wp_X4_endTreaty post px o p0 p1) : FnX l g yX4_endTreaty cX4_endTreaty 3 (some .int) 8 363 4 24 (embW g A o) [.ref (A 0 0), .int p0, .int p1] (pI (embW g A) post) (pX (embW g A) px) := by
  refine FnX.of (by decide) (Nat.le_of_ble_eq_true rfl) (fun x hC hZ => ?_)
  rw [wp_X4_endTreaty] at h
  show G x g 3 0 0 (embW g A o) 0 [(0, .ref (A 0 0)), (1, .int p0), (2, .int p1)] []
  refine g_aload_n hC dX4_endTreaty_0 1 rfl rfl 0 rfl ?_
  refine g_aload_n hC dX4_endTreaty_1 2 rfl rfl 0 rfl ?_
  refine g_get hC fl_X4_10 dX4_endTreaty_2 5 rfl 0 rfl rfl ?_
  refine g_iload_n hC dX4_endTreaty_5 6 rfl rfl 1 rfl ?_
  refine g_iload_n hC dX4_endTreaty_6 7 rfl rfl 2 rfl ?_
  refine g_readV hC (ct_X0_endingTreaty l g (A 1 0) (A 2) o p0 p1 _ h) gY_X0_endingTreaty dX4_endTreaty_7 10 rfl ml_X4_218 _ _ (emb_chk g A o) [.ref (A 0 0)] rfl rfl rfl 0 4 rfl rfl ⟨Nat.le_of_ble_eq_true rfl, Nat.le_of_ble_eq_true rfl⟩ (Nat.le_of_ble_eq_true rfl) ⟨Nat.le_of_ble_eq_true rfl, Nat.le_of_ble_eq_true rfl⟩ (fun v1 h => ?_)
  refine g_ownVX hC hZ (ct_X4_require l g A o v1 _ _ h) gY_X4_require dX4_endTreaty_10 13 rfl ml_X4_65 [] rfl rfl rfl 0 8 rfl rfl ⟨Nat.le_of_ble_eq_true rfl, Nat.le_of_ble_eq_true rfl⟩ (Nat.le_of_ble_eq_true rfl) ⟨Nat.le_of_ble_eq_true rfl, Nat.le_of_ble_eq_true rfl⟩ ⟨Nat.le_of_ble_eq_true rfl, Nat.le_of_ble_eq_true rfl⟩ (fun o2 h => ?_)
  refine g_widen (k2 := 4) (n2 := 24) (Nat.le_of_ble_eq_true rfl) (Nat.le_of_ble_eq_true rfl) ?_
  refine g_aload_n hC dX4_endTreaty_13 14 rfl rfl 0 rfl ?_
  refine g_get hC fl_X4_30 dX4_endTreaty_14 17 rfl 0 rfl rfl ?_
  refine g_aload_n hC dX4_endTreaty_17 18 rfl rfl 0 rfl ?_
  refine g_get hC fl_X4_20 dX4_endTreaty_18 21 rfl 0 rfl rfl ?_
  obtain ⟨i4, hi8, hi, h⟩ := h
  refine g_keepO hC hi8 hi dX4_endTreaty_21 24 rfl ⟨Nat.le_of_ble_eq_true rfl, Nat.le_of_ble_eq_true rfl⟩ (Nat.le_of_ble_eq_true rfl) ⟨Nat.le_of_ble_eq_true rfl, Nat.le_of_ble_eq_true rfl⟩ ?_
  obtain ⟨o3, eo3⟩ : ∃ y : Off, y = keepH o2 o2 i4 := ⟨_, rfl⟩
  have h := h o3 eo3
  rw [← eo3]
  refine g_aload_n hC dX4_endTreaty_24 25 rfl rfl 0 rfl ?_
  refine g_get hC fl_X4_20 dX4_endTreaty_25 28 rfl 0 rfl rfl ?_
  refine g_iload_n hC dX4_endTreaty_28 29 rfl rfl 1 rfl ?_
  refine g_iload_n hC dX4_endTreaty_29 30 rfl rfl 2 rfl ?_
  refine g_subI hC (ct_X3_cancel l g (A 2) o3 p0 p1 _ h) gY_X3_cancel dX4_endTreaty_30 33 rfl ml_X4_221 (emb_off g A o3) (emb_off1 g A o3) [] rfl rfl rfl 0 7 rfl rfl ⟨Nat.le_of_ble_eq_true rfl, Nat.le_of_ble_eq_true rfl⟩ (Nat.le_of_ble_eq_true rfl) ⟨Nat.le_of_ble_eq_true rfl, Nat.le_of_ble_eq_true rfl⟩ (fun v7 o5 h => ?_)
  obtain ⟨o6, eo6⟩ : ∃ y : Off, y = put o3 0 12 o5 := ⟨_, rfl⟩
  have h := h o6 eo6
  rw [← eo6]
  refine g_widen (k2 := 4) (n2 := 24) (Nat.le_of_ble_eq_true rfl) (Nat.le_of_ble_eq_true rfl) ?_
  exact g_rx hZ (g_iret (gXQ_C hC) (gXQ_Z hZ) dX4_endTreaty_33 ⟨_, _, rfl, rfl, h⟩)
def wp_X4_clauseOf (post : Int32 → Off → Prop) (px : Nat → Off → Prop) (o : Off) (p0 : Int32) (p1 : Int32) : Prop := wp_X4_requireDrawer (fun o1 => wp_X4_requireDrawer (fun o2 => wp_X3_hasTreaty (fun v3 => wp_X4_requireElement (fun o4 => wp_X3_clauseBetween (fun v5 => (isC (((v5).toUInt32 % 65536).toInt32) ∧ post (((v5).toUInt32 % 65536).toInt32) o4)) o4 p0 p1) px o2 v3) o2 p0 p1) px o1 p1) px o p0
set_option maxRecDepth 100000 in
set_option maxHeartbeats 4000000 in
theorem ct_X4_clauseOf (l : Launch) (g : gE) (A : Nat → Nat → Nat) (o : Off) (p0 : Int32) (p1 : Int32) (post : Int32 → Off → Prop) (px : Nat → Off → Prop) (h : wp_X4_clauseOf post px o p0 p1) : FnX l g yX4_clauseOf cX4_clauseOf 3 (some .char) 8 132 3 18 (embW g A o) [.ref (A 0 0), .int p0, .int p1] (pI (embW g A) post) (pX (embW g A) px) := by
  refine FnX.of (by decide) (Nat.le_of_ble_eq_true rfl) (fun x hC hZ => ?_)
  rw [wp_X4_clauseOf] at h
  show G x g 3 0 0 (embW g A o) 0 [(0, .ref (A 0 0)), (1, .int p0), (2, .int p1)] []
  refine g_aload_n hC dX4_clauseOf_0 1 rfl rfl 0 rfl ?_
  refine g_iload_n hC dX4_clauseOf_1 2 rfl rfl 1 rfl ?_
  refine g_ownVX hC hZ (ct_X4_requireDrawer l g A o p0 _ _ h) gY_X4_requireDrawer dX4_clauseOf_2 5 rfl ml_X4_143 [] rfl rfl rfl 0 8 rfl rfl ⟨Nat.le_of_ble_eq_true rfl, Nat.le_of_ble_eq_true rfl⟩ (Nat.le_of_ble_eq_true rfl) ⟨Nat.le_of_ble_eq_true rfl, Nat.le_of_ble_eq_true rfl⟩ ⟨Nat.le_of_ble_eq_true rfl, Nat.le_of_ble_eq_true rfl⟩ (fun o1 h => ?_)
  refine g_widen (k2 := 1) (n2 := 6) (Nat.le_of_ble_eq_true rfl) (Nat.le_of_ble_eq_true rfl) ?_
  refine g_aload_n hC dX4_clauseOf_5 6 rfl rfl 0 rfl ?_
  refine g_iload_n hC dX4_clauseOf_6 7 rfl rfl 2 rfl ?_
  refine g_ownVX hC hZ (ct_X4_requireDrawer l g A o1 p1 _ _ h) gY_X4_requireDrawer dX4_clauseOf_7 10 rfl ml_X4_143 [] rfl rfl rfl 0 8 rfl rfl ⟨Nat.le_of_ble_eq_true rfl, Nat.le_of_ble_eq_true rfl⟩ (Nat.le_of_ble_eq_true rfl) ⟨Nat.le_of_ble_eq_true rfl, Nat.le_of_ble_eq_true rfl⟩ ⟨Nat.le_of_ble_eq_true rfl, Nat.le_of_ble_eq_true rfl⟩ (fun o2 h => ?_)
  refine g_widen (k2 := 2) (n2 := 12) (Nat.le_of_ble_eq_true rfl) (Nat.le_of_ble_eq_true rfl) ?_
  refine g_aload_n hC dX4_clauseOf_10 11 rfl rfl 0 rfl ?_
  refine g_aload_n hC dX4_clauseOf_11 12 rfl rfl 0 rfl ?_
  refine g_get hC fl_X4_20 dX4_clauseOf_12 15 rfl 0 rfl rfl ?_
  refine g_iload_n hC dX4_clauseOf_15 16 rfl rfl 1 rfl ?_
  refine g_iload_n hC dX4_clauseOf_16 17 rfl rfl 2 rfl ?_
  refine g_readV hC (ct_X3_hasTreaty l g (A 2) o2 p0 p1 _ h) gY_X3_hasTreaty dX4_clauseOf_17 20 rfl ml_X4_224 _ _ (emb_off g A o2) [.ref (A 0 0)] rfl rfl rfl 0 7 rfl rfl ⟨Nat.le_of_ble_eq_true rfl, Nat.le_of_ble_eq_true rfl⟩ (Nat.le_of_ble_eq_true rfl) ⟨Nat.le_of_ble_eq_true rfl, Nat.le_of_ble_eq_true rfl⟩ (fun v3 h => ?_)
  refine g_ownVX hC hZ (ct_X4_requireElement l g A o2 v3 _ _ h) gY_X4_requireElement dX4_clauseOf_20 23 rfl ml_X4_93 [] rfl rfl rfl 0 8 rfl rfl ⟨Nat.le_of_ble_eq_true rfl, Nat.le_of_ble_eq_true rfl⟩ (Nat.le_of_ble_eq_true rfl) ⟨Nat.le_of_ble_eq_true rfl, Nat.le_of_ble_eq_true rfl⟩ ⟨Nat.le_of_ble_eq_true rfl, Nat.le_of_ble_eq_true rfl⟩ (fun o4 h => ?_)
  refine g_widen (k2 := 3) (n2 := 18) (Nat.le_of_ble_eq_true rfl) (Nat.le_of_ble_eq_true rfl) ?_
  refine g_aload_n hC dX4_clauseOf_23 24 rfl rfl 0 rfl ?_
  refine g_get hC fl_X4_20 dX4_clauseOf_24 27 rfl 0 rfl rfl ?_
  refine g_iload_n hC dX4_clauseOf_27 28 rfl rfl 1 rfl ?_
  refine g_iload_n hC dX4_clauseOf_28 29 rfl rfl 2 rfl ?_
  refine g_readV hC (ct_X3_clauseBetween l g (A 2) o4 p0 p1 _ h) gY_X3_clauseBetween dX4_clauseOf_29 32 rfl ml_X4_227 _ _ (emb_off g A o4) [] rfl rfl rfl 0 7 rfl rfl ⟨Nat.le_of_ble_eq_true rfl, Nat.le_of_ble_eq_true rfl⟩ (Nat.le_of_ble_eq_true rfl) ⟨Nat.le_of_ble_eq_true rfl, Nat.le_of_ble_eq_true rfl⟩ (fun v5 h => ?_)
  refine g_i2c hC dX4_clauseOf_32 33 rfl ?_
  refine g_widen (k2 := 3) (n2 := 18) (Nat.le_of_ble_eq_true rfl) (Nat.le_of_ble_eq_true rfl) ?_
  obtain ⟨hb, h⟩ := h
  exact g_rx hZ (g_zret (gXQ_C hC) (gXQ_Z hZ) (hb) dX4_clauseOf_33 ⟨_, _, rfl, rfl, h⟩)
def wp_X4_quotaOf (post : Int32 → Off → Prop) (px : Nat → Off → Prop) (o : Off) (p0 : Int32) : Prop := wp_X4_requireDrawer (fun o1 => (vp_in p0 5 ∧ post (o1 9 p0.toNatClampNeg) o1)) px o p0
set_option maxRecDepth 100000 in
set_option maxHeartbeats 4000000 in
theorem ct_X4_quotaOf (l : Launch) (g : gE) (A : Nat → Nat → Nat) (o : Off) (p0 : Int32) (post : Int32 → Off → Prop) (px : Nat → Off → Prop) (h : wp_X4_quotaOf post px o p0) : FnX l g yX4_quotaOf cX4_quotaOf 2 (some .int) 8 132 1 6 (embW g A o) [.ref (A 0 0), .int p0] (pI (embW g A) post) (pX (embW g A) px) := by
  refine FnX.of (by decide) (Nat.le_of_ble_eq_true rfl) (fun x hC hZ => ?_)
  rw [wp_X4_quotaOf] at h
  show G x g 2 0 0 (embW g A o) 0 [(0, .ref (A 0 0)), (1, .int p0)] []
  refine g_aload_n hC dX4_quotaOf_0 1 rfl rfl 0 rfl ?_
  refine g_iload_n hC dX4_quotaOf_1 2 rfl rfl 1 rfl ?_
  refine g_ownVX hC hZ (ct_X4_requireDrawer l g A o p0 _ _ h) gY_X4_requireDrawer dX4_quotaOf_2 5 rfl ml_X4_143 [] rfl rfl rfl 0 8 rfl rfl ⟨Nat.le_of_ble_eq_true rfl, Nat.le_of_ble_eq_true rfl⟩ (Nat.le_of_ble_eq_true rfl) ⟨Nat.le_of_ble_eq_true rfl, Nat.le_of_ble_eq_true rfl⟩ ⟨Nat.le_of_ble_eq_true rfl, Nat.le_of_ble_eq_true rfl⟩ (fun o1 h => ?_)
  refine g_widen (k2 := 1) (n2 := 6) (Nat.le_of_ble_eq_true rfl) (Nat.le_of_ble_eq_true rfl) ?_
  refine g_aload_n hC dX4_quotaOf_5 6 rfl rfl 0 rfl ?_
  refine g_get hC fl_X4_20 dX4_quotaOf_6 9 rfl 0 rfl rfl ?_
  refine g_get hC fl_X4_230 dX4_quotaOf_9 12 rfl 8 rfl rfl ?_
  refine g_iload_n hC dX4_quotaOf_12 13 rfl rfl 1 rfl ?_
  obtain ⟨hi, h⟩ := h
  refine g_iald hC dX4_quotaOf_13 14 rfl 17 rfl hi ?_
  refine g_widen (k2 := 1) (n2 := 6) (Nat.le_of_ble_eq_true rfl) (Nat.le_of_ble_eq_true rfl) ?_
  exact g_rx hZ (g_iret (gXQ_C hC) (gXQ_Z hZ) dX4_quotaOf_14 ⟨_, _, rfl, rfl, h⟩)
def wp_X4_residents (post : Int32 → Off → Prop) (px : Nat → Off → Prop) (o : Off) (p0 : Int32) : Prop := wp_X4_requireDrawer (fun o1 => wp_X3_countOf (fun v2 => post v2 o1) o1 (3 : Int32) p0) px o p0
set_option maxRecDepth 100000 in
set_option maxHeartbeats 4000000 in
theorem ct_X4_residents (l : Launch) (g : gE) (A : Nat → Nat → Nat) (o : Off) (p0 : Int32) (post : Int32 → Off → Prop) (px : Nat → Off → Prop) (h : wp_X4_residents post px o p0) : FnX l g yX4_residents cX4_residents 2 (some .int) 8 132 1 6 (embW g A o) [.ref (A 0 0), .int p0] (pI (embW g A) post) (pX (embW g A) px) := by
  refine FnX.of (by decide) (Nat.le_of_ble_eq_true rfl) (fun x hC hZ => ?_)
  rw [wp_X4_residents] at h
  show G x g 2 0 0 (embW g A o) 0 [(0, .ref (A 0 0)), (1, .int p0)] []
  refine g_aload_n hC dX4_residents_0 1 rfl rfl 0 rfl ?_
  refine g_iload_n hC dX4_residents_1 2 rfl rfl 1 rfl ?_
  refine g_ownVX hC hZ (ct_X4_requireDrawer l g A o p0 _ _ h) gY_X4_requireDrawer dX4_residents_2 5 rfl ml_X4_143 [] rfl rfl rfl 0 8 rfl rfl ⟨Nat.le_of_ble_eq_true rfl, Nat.le_of_ble_eq_true rfl⟩ (Nat.le_of_ble_eq_true rfl) ⟨Nat.le_of_ble_eq_true rfl, Nat.le_of_ble_eq_true rfl⟩ ⟨Nat.le_of_ble_eq_true rfl, Nat.le_of_ble_eq_true rfl⟩ (fun o1 h => ?_)
  refine g_widen (k2 := 1) (n2 := 6) (Nat.le_of_ble_eq_true rfl) (Nat.le_of_ble_eq_true rfl) ?_
  refine g_aload_n hC dX4_residents_5 6 rfl rfl 0 rfl ?_
  refine g_get hC fl_X4_20 dX4_residents_6 9 rfl 0 rfl rfl ?_
  refine g_iconst hC (3 : Int32) dX4_residents_9 10 rfl iconst_3 ?_
  refine g_iload_n hC dX4_residents_10 11 rfl rfl 1 rfl ?_
  refine g_readV hC (ct_X3_countOf l g (A 2) o1 (3 : Int32) p0 _ h) gY_X3_countOf dX4_residents_11 14 rfl ml_X4_152 _ _ (emb_off g A o1) [] rfl rfl rfl 0 7 rfl rfl ⟨Nat.le_of_ble_eq_true rfl, Nat.le_of_ble_eq_true rfl⟩ (Nat.le_of_ble_eq_true rfl) ⟨Nat.le_of_ble_eq_true rfl, Nat.le_of_ble_eq_true rfl⟩ (fun v2 h => ?_)
  refine g_widen (k2 := 1) (n2 := 6) (Nat.le_of_ble_eq_true rfl) (Nat.le_of_ble_eq_true rfl) ?_
  exact g_rx hZ (g_iret (gXQ_C hC) (gXQ_Z hZ) dX4_residents_14 ⟨_, _, rfl, rfl, h⟩)
def wj_X4_residentAt_26 (post : Int32 → Off → Prop) (px : Nat → Off → Prop) (o : Off) (x3 : Int32) (s0 : Int32) : Prop := wp_X4_requireElement (fun o3 => post x3 o3) px o s0
def wp_X4_residentAt (post : Int32 → Off → Prop) (px : Nat → Off → Prop) (o : Off) (p0 : Int32) (p1 : Int32) : Prop := wp_X4_requireDrawer (fun o1 => wp_X3_resident (fun v2 => ((v2 = (-1 : Int32) → wj_X4_residentAt_26 post px o1 v2 (0 : Int32)) ∧ (¬ v2 = (-1 : Int32) → wj_X4_residentAt_26 post px o1 v2 (1 : Int32)))) o1 p0 p1) px o p0
set_option maxRecDepth 100000 in
set_option maxHeartbeats 4000000 in
theorem jn_X4_residentAt_26 {x : gX} {l : Launch} {g : gE} {A : Nat → Nat → Nat} {o0 : Off} {post : Int32 → Off → Prop} {px : Nat → Off → Prop} (hC : gC x l cX4_residentAt 4 RX4 g 8 132 2 12) (hZ : gZX x g (some .int) (embW g A o0) (pI (embW g A) post) (pX (embW g A) px) 2 12) : ∀ (o : Off) (x3 : Int32) (s0 : Int32) , wj_X4_residentAt_26 post px o x3 s0 → G x g 4 1 6 (embW g A o) 26 [(3, .int x3)] [.int s0, .ref (A 0 0)] := by
  intro o x3 s0 h
  rw [wj_X4_residentAt_26] at h
  refine g_ownVX hC hZ (ct_X4_requireElement l g A o s0 _ _ h) gY_X4_requireElement dX4_residentAt_26 29 rfl ml_X4_93 [] rfl rfl rfl 0 8 rfl rfl ⟨Nat.le_of_ble_eq_true rfl, Nat.le_of_ble_eq_true rfl⟩ (Nat.le_of_ble_eq_true rfl) ⟨Nat.le_of_ble_eq_true rfl, Nat.le_of_ble_eq_true rfl⟩ ⟨Nat.le_of_ble_eq_true rfl, Nat.le_of_ble_eq_true rfl⟩ (fun o3 h => ?_)
  refine g_widen (k2 := 2) (n2 := 12) (Nat.le_of_ble_eq_true rfl) (Nat.le_of_ble_eq_true rfl) ?_
  refine g_iload_n hC dX4_residentAt_29 30 rfl rfl 0 rfl ?_
  refine g_widen (k2 := 2) (n2 := 12) (Nat.le_of_ble_eq_true rfl) (Nat.le_of_ble_eq_true rfl) ?_
  exact g_rx hZ (g_iret (gXQ_C hC) (gXQ_Z hZ) dX4_residentAt_30 ⟨_, _, rfl, rfl, h⟩)
set_option maxRecDepth 100000 in
set_option maxHeartbeats 4000000 in
theorem ct_X4_residentAt (l : Launch) (g : gE) (A : Nat → Nat → Nat) (o : Off) (p0 : Int32) (p1 : Int32) (post : Int32 → Off → Prop) (px : Nat → Off → Prop) (h : wp_X4_residentAt post px o p0 p1) : FnX l g yX4_residentAt cX4_residentAt 4 (some .int) 8 132 2 12 (embW g A o) [.ref (A 0 0), .int p0, .int p1] (pI (embW g A) post) (pX (embW g A) px) := by
  refine FnX.of (by decide) (Nat.le_of_ble_eq_true rfl) (fun x hC hZ => ?_)
  rw [wp_X4_residentAt] at h
  show G x g 4 0 0 (embW g A o) 0 [(0, .ref (A 0 0)), (1, .int p0), (2, .int p1)] []
  refine g_aload_n hC dX4_residentAt_0 1 rfl rfl 0 rfl ?_
  refine g_iload_n hC dX4_residentAt_1 2 rfl rfl 1 rfl ?_
  refine g_ownVX hC hZ (ct_X4_requireDrawer l g A o p0 _ _ h) gY_X4_requireDrawer dX4_residentAt_2 5 rfl ml_X4_143 [] rfl rfl rfl 0 8 rfl rfl ⟨Nat.le_of_ble_eq_true rfl, Nat.le_of_ble_eq_true rfl⟩ (Nat.le_of_ble_eq_true rfl) ⟨Nat.le_of_ble_eq_true rfl, Nat.le_of_ble_eq_true rfl⟩ ⟨Nat.le_of_ble_eq_true rfl, Nat.le_of_ble_eq_true rfl⟩ (fun o1 h => ?_)
  refine g_widen (k2 := 1) (n2 := 6) (Nat.le_of_ble_eq_true rfl) (Nat.le_of_ble_eq_true rfl) ?_
  refine g_aload_n hC dX4_residentAt_5 6 rfl rfl 0 rfl ?_
  refine g_get hC fl_X4_20 dX4_residentAt_6 9 rfl 0 rfl rfl ?_
  refine g_iload_n hC dX4_residentAt_9 10 rfl rfl 1 rfl ?_
  refine g_iload_n hC dX4_residentAt_10 11 rfl rfl 2 rfl ?_
  refine g_readV hC (ct_X3_resident l g (A 2) o1 p0 p1 _ h) gY_X3_resident dX4_residentAt_11 14 rfl ml_X4_233 _ _ (emb_off g A o1) [] rfl rfl rfl 0 7 rfl rfl ⟨Nat.le_of_ble_eq_true rfl, Nat.le_of_ble_eq_true rfl⟩ (Nat.le_of_ble_eq_true rfl) ⟨Nat.le_of_ble_eq_true rfl, Nat.le_of_ble_eq_true rfl⟩ (fun v2 h => ?_)
  refine g_istore_n (lv2 := [(3, .int v2), (0, .ref (A 0 0)), (1, .int p0), (2, .int p1)]) hC dX4_residentAt_14 15 rfl rfl (by decide) rfl ?_
  refine g_aload_n hC dX4_residentAt_15 16 rfl rfl 1 rfl ?_
  refine g_iload_n hC dX4_residentAt_16 17 rfl rfl 0 rfl ?_
  refine g_iconst hC (-1 : Int32) dX4_residentAt_17 18 rfl iconst_m1 ?_
  refine g_icmp_eq hC dX4_residentAt_18 25 (by decide) 21 rfl (fun c => ?_) (fun c => ?_)
  · have h := h.1 c
    refine g_iconst hC (0 : Int32) dX4_residentAt_25 26 rfl iconst_0 ?_
    refine g_lv (lv2 := [(3, .int v2)]) [0] rfl ?_
    exact jn_X4_residentAt_26 hC hZ o1 v2 (0 : Int32) h
  · have h := h.2 c
    refine g_iconst hC (1 : Int32) dX4_residentAt_21 22 rfl iconst_1 ?_
    refine g_goto hC dX4_residentAt_22 26 (by decide) ?_
    refine g_lv (lv2 := [(3, .int v2)]) [0] rfl ?_
    exact jn_X4_residentAt_26 hC hZ o1 v2 (1 : Int32) h
def wp_X4_isBanned (post : Int32 → Off → Prop) (px : Nat → Off → Prop) (o : Off) (p0 : Int32) (p1 : Int32) : Prop := wp_X0_banning (fun v1 => wp_X4_require (fun o2 => wp_X3_bans (fun v3 => (isB v3 ∧ post v3 o2)) o2 p0 p1) px o v1) o p0 p1
set_option maxRecDepth 100000 in
set_option maxHeartbeats 4000000 in
theorem ct_X4_isBanned (l : Launch) (g : gE) (A : Nat → Nat → Nat) (o : Off) (p0 : Int32) (p1 : Int32) (post : Int32 → Off → Prop) (px : Nat → Off → Prop) (h : wp_X4_isBanned post px o p0 p1) : FnX l g yX4_isBanned cX4_isBanned 3 (some .boolean) 8 134 4 24 (embW g A o) [.ref (A 0 0), .int p0, .int p1] (pI (embW g A) post) (pX (embW g A) px) := by
  refine FnX.of (by decide) (Nat.le_of_ble_eq_true rfl) (fun x hC hZ => ?_)
  rw [wp_X4_isBanned] at h
  show G x g 3 0 0 (embW g A o) 0 [(0, .ref (A 0 0)), (1, .int p0), (2, .int p1)] []
  refine g_aload_n hC dX4_isBanned_0 1 rfl rfl 0 rfl ?_
  refine g_aload_n hC dX4_isBanned_1 2 rfl rfl 0 rfl ?_
  refine g_get hC fl_X4_10 dX4_isBanned_2 5 rfl 0 rfl rfl ?_
  refine g_iload_n hC dX4_isBanned_5 6 rfl rfl 1 rfl ?_
  refine g_iload_n hC dX4_isBanned_6 7 rfl rfl 2 rfl ?_
  refine g_readV hC (ct_X0_banning l g (A 1 0) (A 2) o p0 p1 _ h) gY_X0_banning dX4_isBanned_7 10 rfl ml_X4_200 _ _ (emb_chk g A o) [.ref (A 0 0)] rfl rfl rfl 0 4 rfl rfl ⟨Nat.le_of_ble_eq_true rfl, Nat.le_of_ble_eq_true rfl⟩ (Nat.le_of_ble_eq_true rfl) ⟨Nat.le_of_ble_eq_true rfl, Nat.le_of_ble_eq_true rfl⟩ (fun v1 h => ?_)
  refine g_ownVX hC hZ (ct_X4_require l g A o v1 _ _ h) gY_X4_require dX4_isBanned_10 13 rfl ml_X4_65 [] rfl rfl rfl 0 8 rfl rfl ⟨Nat.le_of_ble_eq_true rfl, Nat.le_of_ble_eq_true rfl⟩ (Nat.le_of_ble_eq_true rfl) ⟨Nat.le_of_ble_eq_true rfl, Nat.le_of_ble_eq_true rfl⟩ ⟨Nat.le_of_ble_eq_true rfl, Nat.le_of_ble_eq_true rfl⟩ (fun o2 h => ?_)
  refine g_widen (k2 := 4) (n2 := 24) (Nat.le_of_ble_eq_true rfl) (Nat.le_of_ble_eq_true rfl) ?_
  refine g_aload_n hC dX4_isBanned_13 14 rfl rfl 0 rfl ?_
  refine g_get hC fl_X4_20 dX4_isBanned_14 17 rfl 0 rfl rfl ?_
  refine g_iload_n hC dX4_isBanned_17 18 rfl rfl 1 rfl ?_
  refine g_iload_n hC dX4_isBanned_18 19 rfl rfl 2 rfl ?_
  refine g_readV hC (ct_X3_bans l g (A 2) o2 p0 p1 _ h) gY_X3_bans dX4_isBanned_19 22 rfl ml_X4_236 _ _ (emb_off g A o2) [] rfl rfl rfl 0 7 rfl rfl ⟨Nat.le_of_ble_eq_true rfl, Nat.le_of_ble_eq_true rfl⟩ (Nat.le_of_ble_eq_true rfl) ⟨Nat.le_of_ble_eq_true rfl, Nat.le_of_ble_eq_true rfl⟩ (fun v3 h => ?_)
  refine g_widen (k2 := 4) (n2 := 24) (Nat.le_of_ble_eq_true rfl) (Nat.le_of_ble_eq_true rfl) ?_
  obtain ⟨hb, h⟩ := h
  exact g_rx hZ (g_zret (gXQ_C hC) (gXQ_Z hZ) (isB_n hb) dX4_isBanned_22 ⟨_, _, rfl, rfl, h⟩)
def wp_X4_canMove (post : Int32 → Off → Prop) (px : Nat → Off → Prop) (o : Off) (p0 : Int32) (p1 : Int32) : Prop := wp_X4_requireSock (fun o1 => wp_X4_requireDrawer (fun o2 => wp_X0_moving (fun v5 o3 => (∀ o4 : Off, o4 = put o2 0 13 o3 → ((¬ v5 = 0 → post (0 : Int32) o4) ∧ (v5 = 0 → post (1 : Int32) o4)))) o2 p0 p1) px o1 p1) px o p0
set_option maxRecDepth 100000 in
set_option maxHeartbeats 4000000 in
theorem ct_X4_canMove (l : Launch) (g : gE) (A : Nat → Nat → Nat) (o : Off) (p0 : Int32) (p1 : Int32) (post : Int32 → Off → Prop) (px : Nat → Off → Prop) (h : wp_X4_canMove post px o p0 p1) : FnX l g yX4_canMove cX4_canMove 3 (some .boolean) 8 161 2 12 (embW g A o) [.ref (A 0 0), .int p0, .int p1] (pI (embW g A) post) (pX (embW g A) px) := by
  refine FnX.of (by decide) (Nat.le_of_ble_eq_true rfl) (fun x hC hZ => ?_)
  rw [wp_X4_canMove] at h
  show G x g 3 0 0 (embW g A o) 0 [(0, .ref (A 0 0)), (1, .int p0), (2, .int p1)] []
  refine g_aload_n hC dX4_canMove_0 1 rfl rfl 0 rfl ?_
  refine g_iload_n hC dX4_canMove_1 2 rfl rfl 1 rfl ?_
  refine g_ownVX hC hZ (ct_X4_requireSock l g A o p0 _ _ h) gY_X4_requireSock dX4_canMove_2 5 rfl ml_X4_79 [] rfl rfl rfl 0 8 rfl rfl ⟨Nat.le_of_ble_eq_true rfl, Nat.le_of_ble_eq_true rfl⟩ (Nat.le_of_ble_eq_true rfl) ⟨Nat.le_of_ble_eq_true rfl, Nat.le_of_ble_eq_true rfl⟩ ⟨Nat.le_of_ble_eq_true rfl, Nat.le_of_ble_eq_true rfl⟩ (fun o1 h => ?_)
  refine g_widen (k2 := 1) (n2 := 6) (Nat.le_of_ble_eq_true rfl) (Nat.le_of_ble_eq_true rfl) ?_
  refine g_aload_n hC dX4_canMove_5 6 rfl rfl 0 rfl ?_
  refine g_iload_n hC dX4_canMove_6 7 rfl rfl 2 rfl ?_
  refine g_ownVX hC hZ (ct_X4_requireDrawer l g A o1 p1 _ _ h) gY_X4_requireDrawer dX4_canMove_7 10 rfl ml_X4_143 [] rfl rfl rfl 0 8 rfl rfl ⟨Nat.le_of_ble_eq_true rfl, Nat.le_of_ble_eq_true rfl⟩ (Nat.le_of_ble_eq_true rfl) ⟨Nat.le_of_ble_eq_true rfl, Nat.le_of_ble_eq_true rfl⟩ ⟨Nat.le_of_ble_eq_true rfl, Nat.le_of_ble_eq_true rfl⟩ (fun o2 h => ?_)
  refine g_widen (k2 := 2) (n2 := 12) (Nat.le_of_ble_eq_true rfl) (Nat.le_of_ble_eq_true rfl) ?_
  refine g_aload_n hC dX4_canMove_10 11 rfl rfl 0 rfl ?_
  refine g_get hC fl_X4_10 dX4_canMove_11 14 rfl 0 rfl rfl ?_
  refine g_iload_n hC dX4_canMove_14 15 rfl rfl 1 rfl ?_
  refine g_iload_n hC dX4_canMove_15 16 rfl rfl 2 rfl ?_
  refine g_subI hC (ct_X0_moving l g (A 1 0) (A 2) o2 p0 p1 _ h) gY_X0_moving dX4_canMove_16 19 rfl ml_X4_167 (emb_chk g A o2) (emb_chk1 g A o2) [] rfl rfl rfl 0 4 rfl rfl ⟨Nat.le_of_ble_eq_true rfl, Nat.le_of_ble_eq_true rfl⟩ (Nat.le_of_ble_eq_true rfl) ⟨Nat.le_of_ble_eq_true rfl, Nat.le_of_ble_eq_true rfl⟩ (fun v5 o3 h => ?_)
  obtain ⟨o4, eo4⟩ : ∃ y : Off, y = put o2 0 13 o3 := ⟨_, rfl⟩
  have h := h o4 eo4
  rw [← eo4]
  refine g_if_ne hC dX4_canMove_19 26 (by decide) 22 rfl (fun c => ?_) (fun c => ?_)
  · have h := h.1 c
    refine g_iconst hC (0 : Int32) dX4_canMove_26 27 rfl iconst_0 ?_
    refine g_widen (k2 := 2) (n2 := 12) (Nat.le_of_ble_eq_true rfl) (Nat.le_of_ble_eq_true rfl) ?_
    exact g_rx hZ (g_zret (gXQ_C hC) (gXQ_Z hZ) rfl dX4_canMove_27 ⟨_, _, rfl, rfl, h⟩)
  · have h := h.2 c
    refine g_iconst hC (1 : Int32) dX4_canMove_22 23 rfl iconst_1 ?_
    refine g_goto hC dX4_canMove_23 27 (by decide) ?_
    refine g_widen (k2 := 2) (n2 := 12) (Nat.le_of_ble_eq_true rfl) (Nat.le_of_ble_eq_true rfl) ?_
    exact g_rx hZ (g_zret (gXQ_C hC) (gXQ_Z hZ) rfl dX4_canMove_27 ⟨_, _, rfl, rfl, h⟩)
def wp_X4_passDays (post : Int32 → Off → Prop) (px : Nat → Off → Prop) (o : Off) (p0 : Int32) : Prop := wp_X0_passing (fun v1 => wp_X4_require (fun o2 => (∃ i4 : Nat, i4 < 8 ∧ o2 60 2 = nI i4 ∧ (∀ o3 : Off, o3 = keepH o2 o2 i4 → wp_X3_advance (fun v7 o5 => (∀ o6 : Off, o6 = put o3 0 12 o5 → post v7 o6)) o3 p0))) px o v1) o p0
set_option maxRecDepth 100000 in
set_option maxHeartbeats 4000000 in
theorem ct_X4_passDays (l : Launch) (g : gE) (A : Nat → Nat → Nat) (o : Off) (p0 : Int32) (post : Int32 → Off → Prop) (px : Nat → Off → Prop) (h : wp_X4_passDays post px o p0) : FnX l g yX4_passDays cX4_passDays 2 (some .int) 8 363 4 24 (embW g A o) [.ref (A 0 0), .int p0] (pI (embW g A) post) (pX (embW g A) px) := by
  refine FnX.of (by decide) (Nat.le_of_ble_eq_true rfl) (fun x hC hZ => ?_)
  rw [wp_X4_passDays] at h
  show G x g 2 0 0 (embW g A o) 0 [(0, .ref (A 0 0)), (1, .int p0)] []
  refine g_aload_n hC dX4_passDays_0 1 rfl rfl 0 rfl ?_
  refine g_aload_n hC dX4_passDays_1 2 rfl rfl 0 rfl ?_
  refine g_get hC fl_X4_10 dX4_passDays_2 5 rfl 0 rfl rfl ?_
  refine g_iload_n hC dX4_passDays_5 6 rfl rfl 1 rfl ?_
  refine g_readV hC (ct_X0_passing l g (A 1 0) (A 2) o p0 _ h) gY_X0_passing dX4_passDays_6 9 rfl ml_X4_239 _ _ (emb_chk g A o) [.ref (A 0 0)] rfl rfl rfl 0 4 rfl rfl ⟨Nat.le_of_ble_eq_true rfl, Nat.le_of_ble_eq_true rfl⟩ (Nat.le_of_ble_eq_true rfl) ⟨Nat.le_of_ble_eq_true rfl, Nat.le_of_ble_eq_true rfl⟩ (fun v1 h => ?_)
  refine g_ownVX hC hZ (ct_X4_require l g A o v1 _ _ h) gY_X4_require dX4_passDays_9 12 rfl ml_X4_65 [] rfl rfl rfl 0 8 rfl rfl ⟨Nat.le_of_ble_eq_true rfl, Nat.le_of_ble_eq_true rfl⟩ (Nat.le_of_ble_eq_true rfl) ⟨Nat.le_of_ble_eq_true rfl, Nat.le_of_ble_eq_true rfl⟩ ⟨Nat.le_of_ble_eq_true rfl, Nat.le_of_ble_eq_true rfl⟩ (fun o2 h => ?_)
  refine g_widen (k2 := 4) (n2 := 24) (Nat.le_of_ble_eq_true rfl) (Nat.le_of_ble_eq_true rfl) ?_
  refine g_aload_n hC dX4_passDays_12 13 rfl rfl 0 rfl ?_
  refine g_get hC fl_X4_30 dX4_passDays_13 16 rfl 0 rfl rfl ?_
  refine g_aload_n hC dX4_passDays_16 17 rfl rfl 0 rfl ?_
  refine g_get hC fl_X4_20 dX4_passDays_17 20 rfl 0 rfl rfl ?_
  obtain ⟨i4, hi8, hi, h⟩ := h
  refine g_keepO hC hi8 hi dX4_passDays_20 23 rfl ⟨Nat.le_of_ble_eq_true rfl, Nat.le_of_ble_eq_true rfl⟩ (Nat.le_of_ble_eq_true rfl) ⟨Nat.le_of_ble_eq_true rfl, Nat.le_of_ble_eq_true rfl⟩ ?_
  obtain ⟨o3, eo3⟩ : ∃ y : Off, y = keepH o2 o2 i4 := ⟨_, rfl⟩
  have h := h o3 eo3
  rw [← eo3]
  refine g_aload_n hC dX4_passDays_23 24 rfl rfl 0 rfl ?_
  refine g_get hC fl_X4_20 dX4_passDays_24 27 rfl 0 rfl rfl ?_
  refine g_iload_n hC dX4_passDays_27 28 rfl rfl 1 rfl ?_
  refine g_subI hC (ct_X3_advance l g (A 2) o3 p0 _ h) gY_X3_advance dX4_passDays_28 31 rfl ml_X4_242 (emb_off g A o3) (emb_off1 g A o3) [] rfl rfl rfl 0 7 rfl rfl ⟨Nat.le_of_ble_eq_true rfl, Nat.le_of_ble_eq_true rfl⟩ (Nat.le_of_ble_eq_true rfl) ⟨Nat.le_of_ble_eq_true rfl, Nat.le_of_ble_eq_true rfl⟩ (fun v7 o5 h => ?_)
  obtain ⟨o6, eo6⟩ : ∃ y : Off, y = put o3 0 12 o5 := ⟨_, rfl⟩
  have h := h o6 eo6
  rw [← eo6]
  refine g_widen (k2 := 4) (n2 := 24) (Nat.le_of_ble_eq_true rfl) (Nat.le_of_ble_eq_true rfl) ?_
  exact g_rx hZ (g_iret (gXQ_C hC) (gXQ_Z hZ) dX4_passDays_31 ⟨_, _, rfl, rfl, h⟩)
def wp_X4_day (post : Int32 → Off → Prop) (o : Off) : Prop := post (o 0 1) o
set_option maxRecDepth 100000 in
set_option maxHeartbeats 4000000 in
theorem ct_X4_day (l : Launch) (g : gE) (A : Nat → Nat → Nat) (o : Off) (post : Int32 → Off → Prop) (h : wp_X4_day post o ) : Fn l g yX4_day cX4_day 1 (some .int) 0 0 0 0 (embW g A o) [.ref (A 0 0)] (pI (embW g A) post) := by
  refine Fn.of (by decide) (Nat.le_of_ble_eq_true rfl) (fun x hC hZ => ?_)
  rw [wp_X4_day] at h
  show G x g 1 0 0 (embW g A o) 0 [(0, .ref (A 0 0))] []
  refine g_aload_n hC dX4_day_0 1 rfl rfl 0 rfl ?_
  refine g_get hC fl_X4_20 dX4_day_1 4 rfl 0 rfl rfl ?_
  refine g_get hC fl_X4_245 dX4_day_4 7 rfl 8 rfl rfl ?_
  exact g_iret hC hZ dX4_day_7 ⟨_, _, rfl, rfl, h⟩
def wp_X4_wouldExpel (post : Int32 → Off → Prop) (px : Nat → Off → Prop) (o : Off) (p0 : Int32) : Prop := wp_X0_passing (fun v1 => wp_X4_require (fun o2 => wp_X3_expiring (fun v3 => post v3 o2) o2 ((o2 0 1) + p0)) px o v1) o p0
set_option maxRecDepth 100000 in
set_option maxHeartbeats 4000000 in
theorem ct_X4_wouldExpel (l : Launch) (g : gE) (A : Nat → Nat → Nat) (o : Off) (p0 : Int32) (post : Int32 → Off → Prop) (px : Nat → Off → Prop) (h : wp_X4_wouldExpel post px o p0) : FnX l g yX4_wouldExpel cX4_wouldExpel 2 (some .int) 8 134 4 24 (embW g A o) [.ref (A 0 0), .int p0] (pI (embW g A) post) (pX (embW g A) px) := by
  refine FnX.of (by decide) (Nat.le_of_ble_eq_true rfl) (fun x hC hZ => ?_)
  rw [wp_X4_wouldExpel] at h
  show G x g 2 0 0 (embW g A o) 0 [(0, .ref (A 0 0)), (1, .int p0)] []
  refine g_aload_n hC dX4_wouldExpel_0 1 rfl rfl 0 rfl ?_
  refine g_aload_n hC dX4_wouldExpel_1 2 rfl rfl 0 rfl ?_
  refine g_get hC fl_X4_10 dX4_wouldExpel_2 5 rfl 0 rfl rfl ?_
  refine g_iload_n hC dX4_wouldExpel_5 6 rfl rfl 1 rfl ?_
  refine g_readV hC (ct_X0_passing l g (A 1 0) (A 2) o p0 _ h) gY_X0_passing dX4_wouldExpel_6 9 rfl ml_X4_239 _ _ (emb_chk g A o) [.ref (A 0 0)] rfl rfl rfl 0 4 rfl rfl ⟨Nat.le_of_ble_eq_true rfl, Nat.le_of_ble_eq_true rfl⟩ (Nat.le_of_ble_eq_true rfl) ⟨Nat.le_of_ble_eq_true rfl, Nat.le_of_ble_eq_true rfl⟩ (fun v1 h => ?_)
  refine g_ownVX hC hZ (ct_X4_require l g A o v1 _ _ h) gY_X4_require dX4_wouldExpel_9 12 rfl ml_X4_65 [] rfl rfl rfl 0 8 rfl rfl ⟨Nat.le_of_ble_eq_true rfl, Nat.le_of_ble_eq_true rfl⟩ (Nat.le_of_ble_eq_true rfl) ⟨Nat.le_of_ble_eq_true rfl, Nat.le_of_ble_eq_true rfl⟩ ⟨Nat.le_of_ble_eq_true rfl, Nat.le_of_ble_eq_true rfl⟩ (fun o2 h => ?_)
  refine g_widen (k2 := 4) (n2 := 24) (Nat.le_of_ble_eq_true rfl) (Nat.le_of_ble_eq_true rfl) ?_
  refine g_aload_n hC dX4_wouldExpel_12 13 rfl rfl 0 rfl ?_
  refine g_get hC fl_X4_20 dX4_wouldExpel_13 16 rfl 0 rfl rfl ?_
  refine g_aload_n hC dX4_wouldExpel_16 17 rfl rfl 0 rfl ?_
  refine g_get hC fl_X4_20 dX4_wouldExpel_17 20 rfl 0 rfl rfl ?_
  refine g_get hC fl_X4_245 dX4_wouldExpel_20 23 rfl 8 rfl rfl ?_
  refine g_iload_n hC dX4_wouldExpel_23 24 rfl rfl 1 rfl ?_
  refine g_iadd hC dX4_wouldExpel_24 25 rfl ?_
  refine g_readV hC (ct_X3_expiring l g (A 2) o2 ((o2 0 1) + p0) _ h) gY_X3_expiring dX4_wouldExpel_25 28 rfl ml_X4_248 _ _ (emb_off g A o2) [] rfl rfl rfl 0 7 rfl rfl ⟨Nat.le_of_ble_eq_true rfl, Nat.le_of_ble_eq_true rfl⟩ (Nat.le_of_ble_eq_true rfl) ⟨Nat.le_of_ble_eq_true rfl, Nat.le_of_ble_eq_true rfl⟩ (fun v3 h => ?_)
  refine g_widen (k2 := 4) (n2 := 24) (Nat.le_of_ble_eq_true rfl) (Nat.le_of_ble_eq_true rfl) ?_
  exact g_rx hZ (g_iret (gXQ_C hC) (gXQ_Z hZ) dX4_wouldExpel_28 ⟨_, _, rfl, rfl, h⟩)
def wp_X4_admittedCount (post : Int32 → Off → Prop) (o : Off) : Prop := post (o 0 2) o
set_option maxRecDepth 100000 in
set_option maxHeartbeats 4000000 in
theorem ct_X4_admittedCount (l : Launch) (g : gE) (A : Nat → Nat → Nat) (o : Off) (post : Int32 → Off → Prop) (h : wp_X4_admittedCount post o ) : Fn l g yX4_admittedCount cX4_admittedCount 1 (some .int) 0 0 0 0 (embW g A o) [.ref (A 0 0)] (pI (embW g A) post) := by
  refine Fn.of (by decide) (Nat.le_of_ble_eq_true rfl) (fun x hC hZ => ?_)
  rw [wp_X4_admittedCount] at h
  show G x g 1 0 0 (embW g A o) 0 [(0, .ref (A 0 0))] []
  refine g_aload_n hC dX4_admittedCount_0 1 rfl rfl 0 rfl ?_
  refine g_get hC fl_X4_20 dX4_admittedCount_1 4 rfl 0 rfl rfl ?_
  refine g_get hC fl_X4_251 dX4_admittedCount_4 7 rfl 8 rfl rfl ?_
  exact g_iret hC hZ dX4_admittedCount_7 ⟨_, _, rfl, rfl, h⟩
def wp_X4_refusedCount (post : Int32 → Off → Prop) (o : Off) : Prop := post (o 0 3) o
set_option maxRecDepth 100000 in
set_option maxHeartbeats 4000000 in
theorem ct_X4_refusedCount (l : Launch) (g : gE) (A : Nat → Nat → Nat) (o : Off) (post : Int32 → Off → Prop) (h : wp_X4_refusedCount post o ) : Fn l g yX4_refusedCount cX4_refusedCount 1 (some .int) 0 0 0 0 (embW g A o) [.ref (A 0 0)] (pI (embW g A) post) := by
  refine Fn.of (by decide) (Nat.le_of_ble_eq_true rfl) (fun x hC hZ => ?_)
  rw [wp_X4_refusedCount] at h
  show G x g 1 0 0 (embW g A o) 0 [(0, .ref (A 0 0))] []
  refine g_aload_n hC dX4_refusedCount_0 1 rfl rfl 0 rfl ?_
  refine g_get hC fl_X4_20 dX4_refusedCount_1 4 rfl 0 rfl rfl ?_
  refine g_get hC fl_X4_254 dX4_refusedCount_4 7 rfl 8 rfl rfl ?_
  exact g_iret hC hZ dX4_refusedCount_7 ⟨_, _, rfl, rfl, h⟩
def wp_X4_expelledCount (post : Int32 → Off → Prop) (o : Off) : Prop := post (o 0 4) o
set_option maxRecDepth 100000 in
set_option maxHeartbeats 4000000 in
theorem ct_X4_expelledCount (l : Launch) (g : gE) (A : Nat → Nat → Nat) (o : Off) (post : Int32 → Off → Prop) (h : wp_X4_expelledCount post o ) : Fn l g yX4_expelledCount cX4_expelledCount 1 (some .int) 0 0 0 0 (embW g A o) [.ref (A 0 0)] (pI (embW g A) post) := by
  refine Fn.of (by decide) (Nat.le_of_ble_eq_true rfl) (fun x hC hZ => ?_)
  rw [wp_X4_expelledCount] at h
  show G x g 1 0 0 (embW g A o) 0 [(0, .ref (A 0 0))] []
  refine g_aload_n hC dX4_expelledCount_0 1 rfl rfl 0 rfl ?_
  refine g_get hC fl_X4_20 dX4_expelledCount_1 4 rfl 0 rfl rfl ?_
  refine g_get hC fl_X4_257 dX4_expelledCount_4 7 rfl 8 rfl rfl ?_
  exact g_iret hC hZ dX4_expelledCount_7 ⟨_, _, rfl, rfl, h⟩
def wp_X4_admissionBalance (post : Int32 → Off → Prop) (o : Off) : Prop := post ((o 0 2) - (o 0 4)) o
set_option maxRecDepth 100000 in
set_option maxHeartbeats 4000000 in
theorem ct_X4_admissionBalance (l : Launch) (g : gE) (A : Nat → Nat → Nat) (o : Off) (post : Int32 → Off → Prop) (h : wp_X4_admissionBalance post o ) : Fn l g yX4_admissionBalance cX4_admissionBalance 1 (some .int) 0 0 0 0 (embW g A o) [.ref (A 0 0)] (pI (embW g A) post) := by
  refine Fn.of (by decide) (Nat.le_of_ble_eq_true rfl) (fun x hC hZ => ?_)
  rw [wp_X4_admissionBalance] at h
  show G x g 1 0 0 (embW g A o) 0 [(0, .ref (A 0 0))] []
  refine g_aload_n hC dX4_admissionBalance_0 1 rfl rfl 0 rfl ?_
  refine g_get hC fl_X4_20 dX4_admissionBalance_1 4 rfl 0 rfl rfl ?_
  refine g_get hC fl_X4_251 dX4_admissionBalance_4 7 rfl 8 rfl rfl ?_
  refine g_aload_n hC dX4_admissionBalance_7 8 rfl rfl 0 rfl ?_
  refine g_get hC fl_X4_20 dX4_admissionBalance_8 11 rfl 0 rfl rfl ?_
  refine g_get hC fl_X4_257 dX4_admissionBalance_11 14 rfl 8 rfl rfl ?_
  refine g_isub hC dX4_admissionBalance_14 15 rfl ?_
  exact g_iret hC hZ dX4_admissionBalance_15 ⟨_, _, rfl, rfl, h⟩
def wj_X4_drawerByResidents_20 (post : Int32 → Off → Prop) (px : Nat → Off → Prop) (o : Off) (x2 : Int32) (s0 : Int32) : Prop := wp_X4_requireElement (fun o2 => post x2 o2) px o s0
def wp_X4_drawerByResidents (post : Int32 → Off → Prop) (px : Nat → Off → Prop) (o : Off) (p0 : Int32) : Prop := wp_X3_rankedDrawer (fun v1 => ((v1 = (-1 : Int32) → wj_X4_drawerByResidents_20 post px o v1 (0 : Int32)) ∧ (¬ v1 = (-1 : Int32) → wj_X4_drawerByResidents_20 post px o v1 (1 : Int32)))) o p0
set_option maxRecDepth 100000 in
set_option maxHeartbeats 4000000 in
theorem jn_X4_drawerByResidents_20 {x : gX} {l : Launch} {g : gE} {A : Nat → Nat → Nat} {o0 : Off} {post : Int32 → Off → Prop} {px : Nat → Off → Prop} (hC : gC x l cX4_drawerByResidents 3 RX4 g 7 115 1 6) (hZ : gZX x g (some .int) (embW g A o0) (pI (embW g A) post) (pX (embW g A) px) 1 6) : ∀ (o : Off) (x2 : Int32) (s0 : Int32) , wj_X4_drawerByResidents_20 post px o x2 s0 → G x g 3 0 0 (embW g A o) 20 [(2, .int x2)] [.int s0, .ref (A 0 0)] := by
  intro o x2 s0 h
  rw [wj_X4_drawerByResidents_20] at h
  refine g_ownVX hC hZ (ct_X4_requireElement l g A o s0 _ _ h) gY_X4_requireElement dX4_drawerByResidents_20 23 rfl ml_X4_93 [] rfl rfl rfl 0 8 rfl rfl ⟨Nat.le_of_ble_eq_true rfl, Nat.le_of_ble_eq_true rfl⟩ (Nat.le_of_ble_eq_true rfl) ⟨Nat.le_of_ble_eq_true rfl, Nat.le_of_ble_eq_true rfl⟩ ⟨Nat.le_of_ble_eq_true rfl, Nat.le_of_ble_eq_true rfl⟩ (fun o2 h => ?_)
  refine g_widen (k2 := 1) (n2 := 6) (Nat.le_of_ble_eq_true rfl) (Nat.le_of_ble_eq_true rfl) ?_
  refine g_iload_n hC dX4_drawerByResidents_23 24 rfl rfl 0 rfl ?_
  refine g_widen (k2 := 1) (n2 := 6) (Nat.le_of_ble_eq_true rfl) (Nat.le_of_ble_eq_true rfl) ?_
  exact g_rx hZ (g_iret (gXQ_C hC) (gXQ_Z hZ) dX4_drawerByResidents_24 ⟨_, _, rfl, rfl, h⟩)
set_option maxRecDepth 100000 in
set_option maxHeartbeats 4000000 in
theorem ct_X4_drawerByResidents (l : Launch) (g : gE) (A : Nat → Nat → Nat) (o : Off) (p0 : Int32) (post : Int32 → Off → Prop) (px : Nat → Off → Prop) (h : wp_X4_drawerByResidents post px o p0) : FnX l g yX4_drawerByResidents cX4_drawerByResidents 3 (some .int) 7 115 1 6 (embW g A o) [.ref (A 0 0), .int p0] (pI (embW g A) post) (pX (embW g A) px) := by
  refine FnX.of (by decide) (Nat.le_of_ble_eq_true rfl) (fun x hC hZ => ?_)
  rw [wp_X4_drawerByResidents] at h
  show G x g 3 0 0 (embW g A o) 0 [(0, .ref (A 0 0)), (1, .int p0)] []
  refine g_aload_n hC dX4_drawerByResidents_0 1 rfl rfl 0 rfl ?_
  refine g_get hC fl_X4_20 dX4_drawerByResidents_1 4 rfl 0 rfl rfl ?_
  refine g_iload_n hC dX4_drawerByResidents_4 5 rfl rfl 1 rfl ?_
  refine g_readV hC (ct_X3_rankedDrawer l g (A 2) o p0 _ h) gY_X3_rankedDrawer dX4_drawerByResidents_5 8 rfl ml_X4_260 _ _ (emb_off g A o) [] rfl rfl rfl 0 7 rfl rfl ⟨Nat.le_of_ble_eq_true rfl, Nat.le_of_ble_eq_true rfl⟩ (Nat.le_of_ble_eq_true rfl) ⟨Nat.le_of_ble_eq_true rfl, Nat.le_of_ble_eq_true rfl⟩ (fun v1 h => ?_)
  refine g_istore_n (lv2 := [(2, .int v1), (0, .ref (A 0 0)), (1, .int p0)]) hC dX4_drawerByResidents_8 9 rfl rfl (by decide) rfl ?_
  refine g_aload_n hC dX4_drawerByResidents_9 10 rfl rfl 1 rfl ?_
  refine g_iload_n hC dX4_drawerByResidents_10 11 rfl rfl 0 rfl ?_
  refine g_iconst hC (-1 : Int32) dX4_drawerByResidents_11 12 rfl iconst_m1 ?_
  refine g_icmp_eq hC dX4_drawerByResidents_12 19 (by decide) 15 rfl (fun c => ?_) (fun c => ?_)
  · have h := h.1 c
    refine g_iconst hC (0 : Int32) dX4_drawerByResidents_19 20 rfl iconst_0 ?_
    refine g_lv (lv2 := [(2, .int v1)]) [0] rfl ?_
    exact jn_X4_drawerByResidents_20 hC hZ o v1 (0 : Int32) h
  · have h := h.2 c
    refine g_iconst hC (1 : Int32) dX4_drawerByResidents_15 16 rfl iconst_1 ?_
    refine g_goto hC dX4_drawerByResidents_16 20 (by decide) ?_
    refine g_lv (lv2 := [(2, .int v1)]) [0] rfl ?_
    exact jn_X4_drawerByResidents_20 hC hZ o v1 (1 : Int32) h
def wp_X4_requireSocks (post : Off → Prop) (px : Nat → Off → Prop) (o : Off) : Prop := ((¬ (o 0 0) = 0 → post o) ∧ ((o 0 0) = 0 → px 0 o))
set_option maxRecDepth 100000 in
set_option maxHeartbeats 4000000 in
theorem ct_X4_requireSocks (l : Launch) (g : gE) (A : Nat → Nat → Nat) (o : Off) (post : Off → Prop) (px : Nat → Off → Prop) (h : wp_X4_requireSocks post px o ) : FnX l g yX4_requireSocks cX4_requireSocks 1 none 6 90 1 6 (embW g A o) [.ref (A 0 0)] (pV (embW g A) post) (pX (embW g A) px) := by
  refine FnX.of (by decide) (Nat.le_of_ble_eq_true rfl) (fun x hC hZ => ?_)
  rw [wp_X4_requireSocks] at h
  show G x g 1 0 0 (embW g A o) 0 [(0, .ref (A 0 0))] []
  refine g_aload_n hC dX4_requireSocks_0 1 rfl rfl 0 rfl ?_
  refine g_get hC fl_X4_20 dX4_requireSocks_1 4 rfl 0 rfl rfl ?_
  refine g_get hC fl_X4_76 dX4_requireSocks_4 7 rfl 8 rfl rfl ?_
  refine g_if_ne hC dX4_requireSocks_7 21 (by decide) 10 rfl (fun c => ?_) (fun c => ?_)
  · have h := h.1 c
    refine g_widen (k2 := 1) (n2 := 6) (Nat.le_of_ble_eq_true rfl) (Nat.le_of_ble_eq_true rfl) ?_
    exact g_rx hZ (g_vret (gXQ_C hC) (gXQ_Z hZ) dX4_requireSocks_21 ⟨_, rfl, rfl, h⟩)
  · have h := h.2 c
    exact g_thr hC hZ 20 rfl xd_0_0 xd_0_1 xd_0_2 xd_0_5 (by decide +kernel) (by decide +kernel) (by decide +kernel) xl_0 xi_0 xa_0 xb_0 xg_0 dX4_requireSocks_10 dX4_requireSocks_13 dX4_requireSocks_14 dX4_requireSocks_17 dX4_requireSocks_20 ⟨Nat.le_of_ble_eq_true rfl, Nat.le_of_ble_eq_true rfl⟩ (Nat.le_of_ble_eq_true rfl) ⟨Nat.le_of_ble_eq_true rfl, Nat.le_of_ble_eq_true rfl, Nat.le_of_ble_eq_true rfl, Nat.le_of_ble_eq_true rfl⟩ ⟨0, _, rfl, rfl, h⟩
def wp_X4_meanSize (post : UInt64 → Off → Prop) (px : Nat → Off → Prop) (o : Off) : Prop := wp_X4_requireSocks (fun o1 => wp_X3_sizeSum (fun v2 => (vf_n64 (FP.ddiv (FP.i2d v2) (FP.i2d (o1 0 0))) ∧ post (FP.ddiv (FP.i2d v2) (FP.i2d (o1 0 0))) o1)) o1 ) px o 
set_option maxRecDepth 100000 in
set_option maxHeartbeats 4000000 in
theorem ct_X4_meanSize (l : Launch) (g : gE) (A : Nat → Nat → Nat) (o : Off) (post : UInt64 → Off → Prop) (px : Nat → Off → Prop) (h : wp_X4_meanSize post px o ) : FnX l g yX4_meanSize cX4_meanSize 1 (some .double) 7 110 1 6 (embW g A o) [.ref (A 0 0)] (pDw (embW g A) post) (pX (embW g A) px) := by
  refine FnX.of (by decide) (Nat.le_of_ble_eq_true rfl) (fun x hC hZ => ?_)
  rw [wp_X4_meanSize] at h
  show G x g 1 0 0 (embW g A o) 0 [(0, .ref (A 0 0))] []
  refine g_aload_n hC dX4_meanSize_0 1 rfl rfl 0 rfl ?_
  refine g_ownVX hC hZ (ct_X4_requireSocks l g A o  _ _ h) gY_X4_requireSocks dX4_meanSize_1 4 rfl ml_X4_263 [] rfl rfl rfl 0 8 rfl rfl ⟨Nat.le_of_ble_eq_true rfl, Nat.le_of_ble_eq_true rfl⟩ (Nat.le_of_ble_eq_true rfl) ⟨Nat.le_of_ble_eq_true rfl, Nat.le_of_ble_eq_true rfl⟩ ⟨Nat.le_of_ble_eq_true rfl, Nat.le_of_ble_eq_true rfl⟩ (fun o1 h => ?_)
  refine g_widen (k2 := 1) (n2 := 6) (Nat.le_of_ble_eq_true rfl) (Nat.le_of_ble_eq_true rfl) ?_
  refine g_aload_n hC dX4_meanSize_4 5 rfl rfl 0 rfl ?_
  refine g_get hC fl_X4_20 dX4_meanSize_5 8 rfl 0 rfl rfl ?_
  refine g_readV hC (ct_X3_sizeSum l g (A 2) o1  _ h) gY_X3_sizeSum dX4_meanSize_8 11 rfl ml_X4_266 _ _ (emb_off g A o1) [] rfl rfl rfl 0 7 rfl rfl ⟨Nat.le_of_ble_eq_true rfl, Nat.le_of_ble_eq_true rfl⟩ (Nat.le_of_ble_eq_true rfl) ⟨Nat.le_of_ble_eq_true rfl, Nat.le_of_ble_eq_true rfl⟩ (fun v2 h => ?_)
  refine g_i2d hC dX4_meanSize_11 12 rfl ?_
  refine g_aload_n hC dX4_meanSize_12 13 rfl rfl 0 rfl ?_
  refine g_get hC fl_X4_20 dX4_meanSize_13 16 rfl 0 rfl rfl ?_
  refine g_get hC fl_X4_76 dX4_meanSize_16 19 rfl 8 rfl rfl ?_
  refine g_i2d hC dX4_meanSize_19 20 rfl ?_
  obtain ⟨hi, h⟩ := h
  refine g_ddiv hC dX4_meanSize_20 21 rfl hi ?_
  refine g_widen (k2 := 1) (n2 := 6) (Nat.le_of_ble_eq_true rfl) (Nat.le_of_ble_eq_true rfl) ?_
  exact g_rx hZ (g_dret (gXQ_C hC) (gXQ_Z hZ) dX4_meanSize_21 ⟨_, _, rfl, rfl, h⟩)
def wp_X4_residentShare (post : UInt32 → Off → Prop) (px : Nat → Off → Prop) (o : Off) : Prop := wp_X4_requireSocks (fun o1 => wp_X3_residentSum (fun v2 => (vf_n32 (FP.fdiv (FP.i2f v2) (FP.i2f (o1 0 0))) ∧ post (FP.fdiv (FP.i2f v2) (FP.i2f (o1 0 0))) o1)) o1 ) px o 
set_option maxRecDepth 100000 in
set_option maxHeartbeats 4000000 in
theorem ct_X4_residentShare (l : Launch) (g : gE) (A : Nat → Nat → Nat) (o : Off) (post : UInt32 → Off → Prop) (px : Nat → Off → Prop) (h : wp_X4_residentShare post px o ) : FnX l g yX4_residentShare cX4_residentShare 1 (some .float) 7 110 1 6 (embW g A o) [.ref (A 0 0)] (pFw (embW g A) post) (pX (embW g A) px) := by
  refine FnX.of (by decide) (Nat.le_of_ble_eq_true rfl) (fun x hC hZ => ?_)
  rw [wp_X4_residentShare] at h
  show G x g 1 0 0 (embW g A o) 0 [(0, .ref (A 0 0))] []
  refine g_aload_n hC dX4_residentShare_0 1 rfl rfl 0 rfl ?_
  refine g_ownVX hC hZ (ct_X4_requireSocks l g A o  _ _ h) gY_X4_requireSocks dX4_residentShare_1 4 rfl ml_X4_263 [] rfl rfl rfl 0 8 rfl rfl ⟨Nat.le_of_ble_eq_true rfl, Nat.le_of_ble_eq_true rfl⟩ (Nat.le_of_ble_eq_true rfl) ⟨Nat.le_of_ble_eq_true rfl, Nat.le_of_ble_eq_true rfl⟩ ⟨Nat.le_of_ble_eq_true rfl, Nat.le_of_ble_eq_true rfl⟩ (fun o1 h => ?_)
  refine g_widen (k2 := 1) (n2 := 6) (Nat.le_of_ble_eq_true rfl) (Nat.le_of_ble_eq_true rfl) ?_
  refine g_aload_n hC dX4_residentShare_4 5 rfl rfl 0 rfl ?_
  refine g_get hC fl_X4_20 dX4_residentShare_5 8 rfl 0 rfl rfl ?_
  refine g_readV hC (ct_X3_residentSum l g (A 2) o1  _ h) gY_X3_residentSum dX4_residentShare_8 11 rfl ml_X4_270 _ _ (emb_off g A o1) [] rfl rfl rfl 0 7 rfl rfl ⟨Nat.le_of_ble_eq_true rfl, Nat.le_of_ble_eq_true rfl⟩ (Nat.le_of_ble_eq_true rfl) ⟨Nat.le_of_ble_eq_true rfl, Nat.le_of_ble_eq_true rfl⟩ (fun v2 h => ?_)
  refine g_i2f hC dX4_residentShare_11 12 rfl ?_
  refine g_aload_n hC dX4_residentShare_12 13 rfl rfl 0 rfl ?_
  refine g_get hC fl_X4_20 dX4_residentShare_13 16 rfl 0 rfl rfl ?_
  refine g_get hC fl_X4_76 dX4_residentShare_16 19 rfl 8 rfl rfl ?_
  refine g_i2f hC dX4_residentShare_19 20 rfl ?_
  obtain ⟨hi, h⟩ := h
  refine g_fdiv hC dX4_residentShare_20 21 rfl hi ?_
  refine g_widen (k2 := 1) (n2 := 6) (Nat.le_of_ble_eq_true rfl) (Nat.le_of_ble_eq_true rfl) ?_
  exact g_rx hZ (g_fret (gXQ_C hC) (gXQ_Z hZ) dX4_residentShare_21 ⟨_, _, rfl, rfl, h⟩)
def wp_X4_isConsistent (post : Int32 → Off → Prop) (o : Off) : Prop := wp_X3_countsAgree (fun v1 => ((v1 = 0 → post (0 : Int32) o) ∧ (¬ v1 = 0 → wp_X3_pairsAreSound (fun v2 => ((v2 = 0 → post (0 : Int32) o) ∧ (¬ v2 = 0 → post (1 : Int32) o))) o ))) o 
set_option maxRecDepth 100000 in
set_option maxHeartbeats 4000000 in
theorem ct_X4_isConsistent (l : Launch) (g : gE) (A : Nat → Nat → Nat) (o : Off) (post : Int32 → Off → Prop) (h : wp_X4_isConsistent post o ) : Fn l g yX4_isConsistent cX4_isConsistent 1 (some .boolean) 19 710 0 0 (embW g A o) [.ref (A 0 0)] (pI (embW g A) post) := by
  refine Fn.of (by decide) (Nat.le_of_ble_eq_true rfl) (fun x hC hZ => ?_)
  rw [wp_X4_isConsistent] at h
  show G x g 1 0 0 (embW g A o) 0 [(0, .ref (A 0 0))] []
  refine g_aload_n hC dX4_isConsistent_0 1 rfl rfl 0 rfl ?_
  refine g_get hC fl_X4_20 dX4_isConsistent_1 4 rfl 0 rfl rfl ?_
  refine g_readV hC (ct_X3_countsAgree l g (A 2) o  _ h) gY_X3_countsAgree dX4_isConsistent_4 7 rfl ml_X4_273 _ _ (emb_off g A o) [] rfl rfl rfl 0 7 rfl rfl ⟨Nat.le_of_ble_eq_true rfl, Nat.le_of_ble_eq_true rfl⟩ (Nat.le_of_ble_eq_true rfl) ⟨Nat.le_of_ble_eq_true rfl, Nat.le_of_ble_eq_true rfl⟩ (fun v1 h => ?_)
  refine g_if_eq hC dX4_isConsistent_7 24 (by decide) 10 rfl (fun c => ?_) (fun c => ?_)
  · have h := h.1 c
    refine g_iconst hC (0 : Int32) dX4_isConsistent_24 25 rfl iconst_0 ?_
    exact g_zret hC hZ rfl dX4_isConsistent_25 ⟨_, _, rfl, rfl, h⟩
  · have h := h.2 c
    refine g_aload_n hC dX4_isConsistent_10 11 rfl rfl 0 rfl ?_
    refine g_get hC fl_X4_20 dX4_isConsistent_11 14 rfl 0 rfl rfl ?_
    refine g_readV hC (ct_X3_pairsAreSound l g (A 2) o  _ h) gY_X3_pairsAreSound dX4_isConsistent_14 17 rfl ml_X4_277 _ _ (emb_off g A o) [] rfl rfl rfl 0 7 rfl rfl ⟨Nat.le_of_ble_eq_true rfl, Nat.le_of_ble_eq_true rfl⟩ (Nat.le_of_ble_eq_true rfl) ⟨Nat.le_of_ble_eq_true rfl, Nat.le_of_ble_eq_true rfl⟩ (fun v2 h => ?_)
    refine g_if_eq hC dX4_isConsistent_17 24 (by decide) 20 rfl (fun c => ?_) (fun c => ?_)
    · have h := h.1 c
      refine g_iconst hC (0 : Int32) dX4_isConsistent_24 25 rfl iconst_0 ?_
      exact g_zret hC hZ rfl dX4_isConsistent_25 ⟨_, _, rfl, rfl, h⟩
    · have h := h.2 c
      refine g_iconst hC (1 : Int32) dX4_isConsistent_20 21 rfl iconst_1 ?_
      refine g_goto hC dX4_isConsistent_21 25 (by decide) ?_
      exact g_zret hC hZ rfl dX4_isConsistent_25 ⟨_, _, rfl, rfl, h⟩
def wp_X4_writeVisa (post : Off → Prop) (o : Off) (p0 : Int32) : Prop := wp_J4_append_cf468 (fun o1 => (∀ o2 : Off, o2 = put o 50 2 o1 → (vp_in p0 14 ∧ wp_J4_append_bf812 (fun o3 => (∀ o4 : Off, o4 = put o2 50 2 o3 → wp_J4_append_cf468 (fun o5 => (∀ o6 : Off, o6 = put o4 50 2 o5 → (vp_in p0 14 ∧ wp_J4_append_bf812 (fun o7 => (∀ o8 : Off, o8 = put o6 50 2 o7 → (vp_in p0 14 ∧ (((o8 8 p0.toNatClampNeg) = (-1 : Int32) → post o8) ∧ (¬ (o8 8 p0.toNatClampNeg) = (-1 : Int32) → wp_J4_append_cf468 (fun o9 => (∀ o10 : Off, o10 = put o8 50 2 o9 → (vp_in p0 14 ∧ wp_J4_append_bf812 (fun o11 => (∀ o12 : Off, o12 = put o10 50 2 o11 → post o12)) (sh o10 50) (o10 8 p0.toNatClampNeg)))) (sh o8 50) (43 : Int32)))))) (sh o6 50) (o6 7 p0.toNatClampNeg)))) (sh o4 50) (60 : Int32))) (sh o2 50) (o2 4 p0.toNatClampNeg)))) (sh o 50) (64 : Int32)
set_option maxRecDepth 100000 in
set_option maxHeartbeats 4000000 in
theorem ct_X4_writeVisa (l : Launch) (g : gE) (A : Nat → Nat → Nat) (o : Off) (p0 : Int32) (post : Off → Prop) (h : wp_X4_writeVisa post o p0) : Fn l g yX4_writeVisa cX4_writeVisa 2 none 3 70 0 0 (embW g A o) [.ref (A 0 0), .int p0] (pV (embW g A) post) := by
  refine Fn.of (by decide) (Nat.le_of_ble_eq_true rfl) (fun x hC hZ => ?_)
  rw [wp_X4_writeVisa] at h
  show G x g 2 0 0 (embW g A o) 0 [(0, .ref (A 0 0)), (1, .int p0)] []
  refine g_aload_n hC dX4_writeVisa_0 1 rfl rfl 0 rfl ?_
  refine g_get hC fl_X4_44 dX4_writeVisa_1 4 rfl 0 rfl rfl ?_
  refine g_bipush hC (64 : Int32) dX4_writeVisa_4 6 rfl bipush_64 ?_
  refine g_subA hC (ct_J4_append_cf468 l g (A 6) (sh o 50) (64 : Int32) _ h) gY_J4_append_cf468 dX4_writeVisa_6 9 rfl ml_X4_287 (emb_sb g A o) (emb_sb1 g A o) [] rfl rfl rfl 0 1 rfl rfl ⟨Nat.le_of_ble_eq_true rfl, Nat.le_of_ble_eq_true rfl⟩ (Nat.le_of_ble_eq_true rfl) ⟨Nat.le_of_ble_eq_true rfl, Nat.le_of_ble_eq_true rfl⟩ (fun o1 h => ?_)
  obtain ⟨o2, eo2⟩ : ∃ y : Off, y = put o 50 2 o1 := ⟨_, rfl⟩
  have h := h o2 eo2
  rw [← eo2]
  refine g_aload_n hC dX4_writeVisa_9 10 rfl rfl 0 rfl ?_
  refine g_get hC fl_X4_20 dX4_writeVisa_10 13 rfl 0 rfl rfl ?_
  refine g_get hC fl_X4_97 dX4_writeVisa_13 16 rfl 8 rfl rfl ?_
  refine g_iload_n hC dX4_writeVisa_16 17 rfl rfl 1 rfl ?_
  obtain ⟨hi, h⟩ := h
  refine g_iald hC dX4_writeVisa_17 18 rfl 12 rfl hi ?_
  refine g_subA hC (ct_J4_append_bf812 l g (A 6) (sh o2 50) (o2 4 p0.toNatClampNeg) _ h) gY_J4_append_bf812 dX4_writeVisa_18 21 rfl ml_X4_283 (emb_sb g A o2) (emb_sb1 g A o2) [] rfl rfl rfl 0 1 rfl rfl ⟨Nat.le_of_ble_eq_true rfl, Nat.le_of_ble_eq_true rfl⟩ (Nat.le_of_ble_eq_true rfl) ⟨Nat.le_of_ble_eq_true rfl, Nat.le_of_ble_eq_true rfl⟩ (fun o3 h => ?_)
  obtain ⟨o4, eo4⟩ : ∃ y : Off, y = put o2 50 2 o3 := ⟨_, rfl⟩
  have h := h o4 eo4
  rw [← eo4]
  refine g_bipush hC (60 : Int32) dX4_writeVisa_21 23 rfl bipush_60 ?_
  refine g_subA hC (ct_J4_append_cf468 l g (A 6) (sh o4 50) (60 : Int32) _ h) gY_J4_append_cf468 dX4_writeVisa_23 26 rfl ml_X4_287 (emb_sb g A o4) (emb_sb1 g A o4) [] rfl rfl rfl 0 1 rfl rfl ⟨Nat.le_of_ble_eq_true rfl, Nat.le_of_ble_eq_true rfl⟩ (Nat.le_of_ble_eq_true rfl) ⟨Nat.le_of_ble_eq_true rfl, Nat.le_of_ble_eq_true rfl⟩ (fun o5 h => ?_)
  obtain ⟨o6, eo6⟩ : ∃ y : Off, y = put o4 50 2 o5 := ⟨_, rfl⟩
  have h := h o6 eo6
  rw [← eo6]
  refine g_aload_n hC dX4_writeVisa_26 27 rfl rfl 0 rfl ?_
  refine g_get hC fl_X4_20 dX4_writeVisa_27 30 rfl 0 rfl rfl ?_
  refine g_get hC fl_X4_107 dX4_writeVisa_30 33 rfl 8 rfl rfl ?_
  refine g_iload_n hC dX4_writeVisa_33 34 rfl rfl 1 rfl ?_
  obtain ⟨hi, h⟩ := h
  refine g_iald hC dX4_writeVisa_34 35 rfl 15 rfl hi ?_
  refine g_subA hC (ct_J4_append_bf812 l g (A 6) (sh o6 50) (o6 7 p0.toNatClampNeg) _ h) gY_J4_append_bf812 dX4_writeVisa_35 38 rfl ml_X4_283 (emb_sb g A o6) (emb_sb1 g A o6) [] rfl rfl rfl 0 1 rfl rfl ⟨Nat.le_of_ble_eq_true rfl, Nat.le_of_ble_eq_true rfl⟩ (Nat.le_of_ble_eq_true rfl) ⟨Nat.le_of_ble_eq_true rfl, Nat.le_of_ble_eq_true rfl⟩ (fun o7 h => ?_)
  obtain ⟨o8, eo8⟩ : ∃ y : Off, y = put o6 50 2 o7 := ⟨_, rfl⟩
  have h := h o8 eo8
  rw [← eo8]
  refine g_pop hC dX4_writeVisa_38 39 rfl rfl ?_
  refine g_aload_n hC dX4_writeVisa_39 40 rfl rfl 0 rfl ?_
  refine g_get hC fl_X4_20 dX4_writeVisa_40 43 rfl 0 rfl rfl ?_
  refine g_get hC fl_X4_110 dX4_writeVisa_43 46 rfl 8 rfl rfl ?_
  refine g_iload_n hC dX4_writeVisa_46 47 rfl rfl 1 rfl ?_
  obtain ⟨hi, h⟩ := h
  refine g_iald hC dX4_writeVisa_47 48 rfl 16 rfl hi ?_
  refine g_iconst hC (-1 : Int32) dX4_writeVisa_48 49 rfl iconst_m1 ?_
  refine g_icmp_eq hC dX4_writeVisa_49 74 (by decide) 52 rfl (fun c => ?_) (fun c => ?_)
  · have h := h.1 c
    exact g_vret hC hZ dX4_writeVisa_74 ⟨_, rfl, rfl, h⟩
  · have h := h.2 c
    refine g_aload_n hC dX4_writeVisa_52 53 rfl rfl 0 rfl ?_
    refine g_get hC fl_X4_44 dX4_writeVisa_53 56 rfl 0 rfl rfl ?_
    refine g_bipush hC (43 : Int32) dX4_writeVisa_56 58 rfl bipush_43 ?_
    refine g_subA hC (ct_J4_append_cf468 l g (A 6) (sh o8 50) (43 : Int32) _ h) gY_J4_append_cf468 dX4_writeVisa_58 61 rfl ml_X4_287 (emb_sb g A o8) (emb_sb1 g A o8) [] rfl rfl rfl 0 1 rfl rfl ⟨Nat.le_of_ble_eq_true rfl, Nat.le_of_ble_eq_true rfl⟩ (Nat.le_of_ble_eq_true rfl) ⟨Nat.le_of_ble_eq_true rfl, Nat.le_of_ble_eq_true rfl⟩ (fun o9 h => ?_)
    obtain ⟨o10, eo10⟩ : ∃ y : Off, y = put o8 50 2 o9 := ⟨_, rfl⟩
    have h := h o10 eo10
    rw [← eo10]
    refine g_aload_n hC dX4_writeVisa_61 62 rfl rfl 0 rfl ?_
    refine g_get hC fl_X4_20 dX4_writeVisa_62 65 rfl 0 rfl rfl ?_
    refine g_get hC fl_X4_110 dX4_writeVisa_65 68 rfl 8 rfl rfl ?_
    refine g_iload_n hC dX4_writeVisa_68 69 rfl rfl 1 rfl ?_
    obtain ⟨hi, h⟩ := h
    refine g_iald hC dX4_writeVisa_69 70 rfl 16 rfl hi ?_
    refine g_subA hC (ct_J4_append_bf812 l g (A 6) (sh o10 50) (o10 8 p0.toNatClampNeg) _ h) gY_J4_append_bf812 dX4_writeVisa_70 73 rfl ml_X4_283 (emb_sb g A o10) (emb_sb1 g A o10) [] rfl rfl rfl 0 1 rfl rfl ⟨Nat.le_of_ble_eq_true rfl, Nat.le_of_ble_eq_true rfl⟩ (Nat.le_of_ble_eq_true rfl) ⟨Nat.le_of_ble_eq_true rfl, Nat.le_of_ble_eq_true rfl⟩ (fun o11 h => ?_)
    obtain ⟨o12, eo12⟩ : ∃ y : Off, y = put o10 50 2 o11 := ⟨_, rfl⟩
    have h := h o12 eo12
    rw [← eo12]
    refine g_pop hC dX4_writeVisa_73 74 rfl rfl ?_
    exact g_vret hC hZ dX4_writeVisa_74 ⟨_, rfl, rfl, h⟩
def wj_X4_writeApplication_24 (post : Off → Prop) (o : Off) (x1 : Int32) (s0 : Int32) : Prop := wp_J4_append_cf468 (fun o1 => (∀ o2 : Off, o2 = put o 50 2 o1 → (vp_in x1 14 ∧ wp_J4_append_bf812 (fun o3 => (∀ o4 : Off, o4 = put o2 50 2 o3 → wp_J4_append_cf468 (fun o5 => (∀ o6 : Off, o6 = put o4 50 2 o5 → (vp_in x1 14 ∧ wp_J4_append_bf812 (fun o7 => (∀ o8 : Off, o8 = put o6 50 2 o7 → post o8)) (sh o6 50) (o6 5 x1.toNatClampNeg)))) (sh o4 50) (47 : Int32))) (sh o2 50) (o2 4 x1.toNatClampNeg)))) (sh o 50) s0
def wp_X4_writeApplication (post : Off → Prop) (o : Off) (p0 : Int32) : Prop := (vp_in p0 14 ∧ ((¬ (o 3 p0.toNatClampNeg) = (1 : Int32) → wj_X4_writeApplication_24 post o p0 (120 : Int32)) ∧ ((o 3 p0.toNatClampNeg) = (1 : Int32) → wj_X4_writeApplication_24 post o p0 (63 : Int32))))
set_option maxRecDepth 100000 in
set_option maxHeartbeats 4000000 in
theorem jn_X4_writeApplication_24 {x : gX} {l : Launch} {g : gE} {A : Nat → Nat → Nat} {o0 : Off} {post : Off → Prop} (hC : gC x l cX4_writeApplication 2 RX4 g 3 70 0 0) (hZ : gZ x g none (embW g A o0) (pV (embW g A) post) 0 0) : ∀ (o : Off) (x1 : Int32) (s0 : Int32) , wj_X4_writeApplication_24 post o x1 s0 → G x g 2 0 0 (embW g A o) 24 [(0, .ref (A 0 0)), (1, .int x1)] [.int s0, .ref (A 6 0)] := by
  intro o x1 s0 h
  rw [wj_X4_writeApplication_24] at h
  refine g_subA hC (ct_J4_append_cf468 l g (A 6) (sh o 50) s0 _ h) gY_J4_append_cf468 dX4_writeApplication_24 27 rfl ml_X4_287 (emb_sb g A o) (emb_sb1 g A o) [] rfl rfl rfl 0 1 rfl rfl ⟨Nat.le_of_ble_eq_true rfl, Nat.le_of_ble_eq_true rfl⟩ (Nat.le_of_ble_eq_true rfl) ⟨Nat.le_of_ble_eq_true rfl, Nat.le_of_ble_eq_true rfl⟩ (fun o1 h => ?_)
  obtain ⟨o2, eo2⟩ : ∃ y : Off, y = put o 50 2 o1 := ⟨_, rfl⟩
  have h := h o2 eo2
  rw [← eo2]
  refine g_pop hC dX4_writeApplication_27 28 rfl rfl ?_
  refine g_aload_n hC dX4_writeApplication_28 29 rfl rfl 0 rfl ?_
  refine g_get hC fl_X4_44 dX4_writeApplication_29 32 rfl 0 rfl rfl ?_
  refine g_aload_n hC dX4_writeApplication_32 33 rfl rfl 0 rfl ?_
  refine g_get hC fl_X4_20 dX4_writeApplication_33 36 rfl 0 rfl rfl ?_
  refine g_get hC fl_X4_97 dX4_writeApplication_36 39 rfl 8 rfl rfl ?_
  refine g_iload_n hC dX4_writeApplication_39 40 rfl rfl 1 rfl ?_
  obtain ⟨hi, h⟩ := h
  refine g_iald hC dX4_writeApplication_40 41 rfl 12 rfl hi ?_
  refine g_subA hC (ct_J4_append_bf812 l g (A 6) (sh o2 50) (o2 4 x1.toNatClampNeg) _ h) gY_J4_append_bf812 dX4_writeApplication_41 44 rfl ml_X4_283 (emb_sb g A o2) (emb_sb1 g A o2) [] rfl rfl rfl 0 1 rfl rfl ⟨Nat.le_of_ble_eq_true rfl, Nat.le_of_ble_eq_true rfl⟩ (Nat.le_of_ble_eq_true rfl) ⟨Nat.le_of_ble_eq_true rfl, Nat.le_of_ble_eq_true rfl⟩ (fun o3 h => ?_)
  obtain ⟨o4, eo4⟩ : ∃ y : Off, y = put o2 50 2 o3 := ⟨_, rfl⟩
  have h := h o4 eo4
  rw [← eo4]
  refine g_bipush hC (47 : Int32) dX4_writeApplication_44 46 rfl bipush_47 ?_
  refine g_subA hC (ct_J4_append_cf468 l g (A 6) (sh o4 50) (47 : Int32) _ h) gY_J4_append_cf468 dX4_writeApplication_46 49 rfl ml_X4_287 (emb_sb g A o4) (emb_sb1 g A o4) [] rfl rfl rfl 0 1 rfl rfl ⟨Nat.le_of_ble_eq_true rfl, Nat.le_of_ble_eq_true rfl⟩ (Nat.le_of_ble_eq_true rfl) ⟨Nat.le_of_ble_eq_true rfl, Nat.le_of_ble_eq_true rfl⟩ (fun o5 h => ?_)
  obtain ⟨o6, eo6⟩ : ∃ y : Off, y = put o4 50 2 o5 := ⟨_, rfl⟩
  have h := h o6 eo6
  rw [← eo6]
  refine g_aload_n hC dX4_writeApplication_49 50 rfl rfl 0 rfl ?_
  refine g_get hC fl_X4_20 dX4_writeApplication_50 53 rfl 0 rfl rfl ?_
  refine g_get hC fl_X4_104 dX4_writeApplication_53 56 rfl 8 rfl rfl ?_
  refine g_iload_n hC dX4_writeApplication_56 57 rfl rfl 1 rfl ?_
  obtain ⟨hi, h⟩ := h
  refine g_iald hC dX4_writeApplication_57 58 rfl 13 rfl hi ?_
  refine g_subA hC (ct_J4_append_bf812 l g (A 6) (sh o6 50) (o6 5 x1.toNatClampNeg) _ h) gY_J4_append_bf812 dX4_writeApplication_58 61 rfl ml_X4_283 (emb_sb g A o6) (emb_sb1 g A o6) [] rfl rfl rfl 0 1 rfl rfl ⟨Nat.le_of_ble_eq_true rfl, Nat.le_of_ble_eq_true rfl⟩ (Nat.le_of_ble_eq_true rfl) ⟨Nat.le_of_ble_eq_true rfl, Nat.le_of_ble_eq_true rfl⟩ (fun o7 h => ?_)
  obtain ⟨o8, eo8⟩ : ∃ y : Off, y = put o6 50 2 o7 := ⟨_, rfl⟩
  have h := h o8 eo8
  rw [← eo8]
  refine g_pop hC dX4_writeApplication_61 62 rfl rfl ?_
  exact g_vret hC hZ dX4_writeApplication_62 ⟨_, rfl, rfl, h⟩
set_option maxRecDepth 100000 in
set_option maxHeartbeats 4000000 in
theorem ct_X4_writeApplication (l : Launch) (g : gE) (A : Nat → Nat → Nat) (o : Off) (p0 : Int32) (post : Off → Prop) (h : wp_X4_writeApplication post o p0) : Fn l g yX4_writeApplication cX4_writeApplication 2 none 3 70 0 0 (embW g A o) [.ref (A 0 0), .int p0] (pV (embW g A) post) := by
  refine Fn.of (by decide) (Nat.le_of_ble_eq_true rfl) (fun x hC hZ => ?_)
  rw [wp_X4_writeApplication] at h
  show G x g 2 0 0 (embW g A o) 0 [(0, .ref (A 0 0)), (1, .int p0)] []
  refine g_aload_n hC dX4_writeApplication_0 1 rfl rfl 0 rfl ?_
  refine g_get hC fl_X4_44 dX4_writeApplication_1 4 rfl 0 rfl rfl ?_
  refine g_aload_n hC dX4_writeApplication_4 5 rfl rfl 0 rfl ?_
  refine g_get hC fl_X4_20 dX4_writeApplication_5 8 rfl 0 rfl rfl ?_
  refine g_get hC fl_X4_90 dX4_writeApplication_8 11 rfl 8 rfl rfl ?_
  refine g_iload_n hC dX4_writeApplication_11 12 rfl rfl 1 rfl ?_
  obtain ⟨hi, h⟩ := h
  refine g_iald hC dX4_writeApplication_12 13 rfl 11 rfl hi ?_
  refine g_iconst hC (1 : Int32) dX4_writeApplication_13 14 rfl iconst_1 ?_
  refine g_icmp_ne hC dX4_writeApplication_14 22 (by decide) 17 rfl (fun c => ?_) (fun c => ?_)
  · have h := h.1 c
    refine g_bipush hC (120 : Int32) dX4_writeApplication_22 24 rfl bipush_120 ?_
    exact jn_X4_writeApplication_24 hC hZ o p0 (120 : Int32) h
  · have h := h.2 c
    refine g_bipush hC (63 : Int32) dX4_writeApplication_17 19 rfl bipush_63 ?_
    refine g_goto hC dX4_writeApplication_19 24 (by decide) ?_
    exact jn_X4_writeApplication_24 hC hZ o p0 (63 : Int32) h
def wj_X4_writeSock_101 (post : Int32 → Off → Prop) (px : Nat → Off → Prop) (o : Off) : Prop := wp_J4_length_8abf5 (fun v14 => post v14 o) (sh o 50) 
def wp_X4_writeSock (post : Int32 → Off → Prop) (px : Nat → Off → Prop) (o : Off) (p0 : Int32) : Prop := wp_X4_requireSock (fun o1 => wp_J4_setLength_d00df (fun o2 => (∀ o3 : Off, o3 = put o1 50 2 o2 → wp_J4_append_bf812 (fun o4 => (∀ o5 : Off, o5 = put o3 50 2 o4 → wp_J4_append_cf468 (fun o6 => (∀ o7 : Off, o7 = put o5 50 2 o6 → wp_X3_colourAt (fun v8 => wp_J4_append_cf468 (fun o9 => (∀ o10 : Off, o10 = put o7 50 2 o9 → (vp_in p0 14 ∧ wp_J4_append_bf812 (fun o11 => (∀ o12 : Off, o12 = put o10 50 2 o11 → (vp_in p0 14 ∧ ((¬ (o12 3 p0.toNatClampNeg) = 0 → (vp_in p0 14 ∧ ((¬ (o12 3 p0.toNatClampNeg) = (3 : Int32) → wp_X4_writeApplication (fun o13 => wj_X4_writeSock_101 post px o13) o12 p0) ∧ ((o12 3 p0.toNatClampNeg) = (3 : Int32) → wp_X4_writeVisa (fun o15 => wj_X4_writeSock_101 post px o15) o12 p0)))) ∧ ((o12 3 p0.toNatClampNeg) = 0 → wp_J4_append_cf468 (fun o16 => (∀ o17 : Off, o17 = put o12 50 2 o16 → wj_X4_writeSock_101 post px o17)) (sh o12 50) (45 : Int32)))))) (sh o10 50) (o10 2 p0.toNatClampNeg)))) (sh o7 50) v8) o7 p0)) (sh o5 50) (58 : Int32))) (sh o3 50) p0)) (sh o1 50) (0 : Int32)) px o p0
set_option maxRecDepth 100000 in
set_option maxHeartbeats 4000000 in
theorem jn_X4_writeSock_101 {x : gX} {l : Launch} {g : gE} {A : Nat → Nat → Nat} {o0 : Off} {post : Int32 → Off → Prop} {px : Nat → Off → Prop} (hC : gC x l cX4_writeSock 2 RX4 g 8 132 1 6) (hZ : gZX x g (some .int) (embW g A o0) (pI (embW g A) post) (pX (embW g A) px) 1 6) : ∀ (o : Off) , wj_X4_writeSock_101 post px o → G x g 2 1 6 (embW g A o) 101 [(0, .ref (A 0 0))] [] := by
  intro o h
  rw [wj_X4_writeSock_101] at h
  refine g_aload_n hC dX4_writeSock_101 102 rfl rfl 0 rfl ?_
  refine g_get hC fl_X4_44 dX4_writeSock_102 105 rfl 0 rfl rfl ?_
  refine g_readV hC (ct_J4_length_8abf5 l g (A 6) (sh o 50)  _ h) gY_J4_length_8abf5 dX4_writeSock_105 108 rfl ml_X4_296 _ _ (emb_sb g A o) [] rfl rfl rfl 0 1 rfl rfl ⟨Nat.le_of_ble_eq_true rfl, Nat.le_of_ble_eq_true rfl⟩ (Nat.le_of_ble_eq_true rfl) ⟨Nat.le_of_ble_eq_true rfl, Nat.le_of_ble_eq_true rfl⟩ (fun v14 h => ?_)
  refine g_widen (k2 := 1) (n2 := 6) (Nat.le_of_ble_eq_true rfl) (Nat.le_of_ble_eq_true rfl) ?_
  exact g_rx hZ (g_iret (gXQ_C hC) (gXQ_Z hZ) dX4_writeSock_108 ⟨_, _, rfl, rfl, h⟩)
set_option maxRecDepth 100000 in
set_option maxHeartbeats 4000000 in
theorem ct_X4_writeSock (l : Launch) (g : gE) (A : Nat → Nat → Nat) (o : Off) (p0 : Int32) (post : Int32 → Off → Prop) (px : Nat → Off → Prop) (h : wp_X4_writeSock post px o p0) : FnX l g yX4_writeSock cX4_writeSock 2 (some .int) 8 132 1 6 (embW g A o) [.ref (A 0 0), .int p0] (pI (embW g A) post) (pX (embW g A) px) := by
  refine FnX.of (by decide) (Nat.le_of_ble_eq_true rfl) (fun x hC hZ => ?_)
  rw [wp_X4_writeSock] at h
  show G x g 2 0 0 (embW g A o) 0 [(0, .ref (A 0 0)), (1, .int p0)] []
  refine g_aload_n hC dX4_writeSock_0 1 rfl rfl 0 rfl ?_
  refine g_iload_n hC dX4_writeSock_1 2 rfl rfl 1 rfl ?_
  refine g_ownVX hC hZ (ct_X4_requireSock l g A o p0 _ _ h) gY_X4_requireSock dX4_writeSock_2 5 rfl ml_X4_79 [] rfl rfl rfl 0 8 rfl rfl ⟨Nat.le_of_ble_eq_true rfl, Nat.le_of_ble_eq_true rfl⟩ (Nat.le_of_ble_eq_true rfl) ⟨Nat.le_of_ble_eq_true rfl, Nat.le_of_ble_eq_true rfl⟩ ⟨Nat.le_of_ble_eq_true rfl, Nat.le_of_ble_eq_true rfl⟩ (fun o1 h => ?_)
  refine g_widen (k2 := 1) (n2 := 6) (Nat.le_of_ble_eq_true rfl) (Nat.le_of_ble_eq_true rfl) ?_
  refine g_aload_n hC dX4_writeSock_5 6 rfl rfl 0 rfl ?_
  refine g_get hC fl_X4_44 dX4_writeSock_6 9 rfl 0 rfl rfl ?_
  refine g_iconst hC (0 : Int32) dX4_writeSock_9 10 rfl iconst_0 ?_
  refine g_subV hC (ct_J4_setLength_d00df l g (A 6) (sh o1 50) (0 : Int32) _ h) gY_J4_setLength_d00df dX4_writeSock_10 13 rfl ml_X4_280 (emb_sb g A o1) (emb_sb1 g A o1) [] rfl rfl rfl 0 1 rfl rfl ⟨Nat.le_of_ble_eq_true rfl, Nat.le_of_ble_eq_true rfl⟩ (Nat.le_of_ble_eq_true rfl) ⟨Nat.le_of_ble_eq_true rfl, Nat.le_of_ble_eq_true rfl⟩ (fun o2 h => ?_)
  obtain ⟨o3, eo3⟩ : ∃ y : Off, y = put o1 50 2 o2 := ⟨_, rfl⟩
  have h := h o3 eo3
  rw [← eo3]
  refine g_aload_n hC dX4_writeSock_13 14 rfl rfl 0 rfl ?_
  refine g_get hC fl_X4_44 dX4_writeSock_14 17 rfl 0 rfl rfl ?_
  refine g_iload_n hC dX4_writeSock_17 18 rfl rfl 1 rfl ?_
  refine g_subA hC (ct_J4_append_bf812 l g (A 6) (sh o3 50) p0 _ h) gY_J4_append_bf812 dX4_writeSock_18 21 rfl ml_X4_283 (emb_sb g A o3) (emb_sb1 g A o3) [] rfl rfl rfl 0 1 rfl rfl ⟨Nat.le_of_ble_eq_true rfl, Nat.le_of_ble_eq_true rfl⟩ (Nat.le_of_ble_eq_true rfl) ⟨Nat.le_of_ble_eq_true rfl, Nat.le_of_ble_eq_true rfl⟩ (fun o4 h => ?_)
  obtain ⟨o5, eo5⟩ : ∃ y : Off, y = put o3 50 2 o4 := ⟨_, rfl⟩
  have h := h o5 eo5
  rw [← eo5]
  refine g_bipush hC (58 : Int32) dX4_writeSock_21 23 rfl bipush_58 ?_
  refine g_subA hC (ct_J4_append_cf468 l g (A 6) (sh o5 50) (58 : Int32) _ h) gY_J4_append_cf468 dX4_writeSock_23 26 rfl ml_X4_287 (emb_sb g A o5) (emb_sb1 g A o5) [] rfl rfl rfl 0 1 rfl rfl ⟨Nat.le_of_ble_eq_true rfl, Nat.le_of_ble_eq_true rfl⟩ (Nat.le_of_ble_eq_true rfl) ⟨Nat.le_of_ble_eq_true rfl, Nat.le_of_ble_eq_true rfl⟩ (fun o6 h => ?_)
  obtain ⟨o7, eo7⟩ : ∃ y : Off, y = put o5 50 2 o6 := ⟨_, rfl⟩
  have h := h o7 eo7
  rw [← eo7]
  refine g_aload_n hC dX4_writeSock_26 27 rfl rfl 0 rfl ?_
  refine g_get hC fl_X4_20 dX4_writeSock_27 30 rfl 0 rfl rfl ?_
  refine g_iload_n hC dX4_writeSock_30 31 rfl rfl 1 rfl ?_
  refine g_readV hC (ct_X3_colourAt l g (A 2) o7 p0 _ h) gY_X3_colourAt dX4_writeSock_31 34 rfl ml_X4_82 _ _ (emb_off g A o7) [.ref (A 6 0)] rfl rfl rfl 0 7 rfl rfl ⟨Nat.le_of_ble_eq_true rfl, Nat.le_of_ble_eq_true rfl⟩ (Nat.le_of_ble_eq_true rfl) ⟨Nat.le_of_ble_eq_true rfl, Nat.le_of_ble_eq_true rfl⟩ (fun v8 h => ?_)
  refine g_subA hC (ct_J4_append_cf468 l g (A 6) (sh o7 50) v8 _ h) gY_J4_append_cf468 dX4_writeSock_34 37 rfl ml_X4_287 (emb_sb g A o7) (emb_sb1 g A o7) [] rfl rfl rfl 0 1 rfl rfl ⟨Nat.le_of_ble_eq_true rfl, Nat.le_of_ble_eq_true rfl⟩ (Nat.le_of_ble_eq_true rfl) ⟨Nat.le_of_ble_eq_true rfl, Nat.le_of_ble_eq_true rfl⟩ (fun o9 h => ?_)
  obtain ⟨o10, eo10⟩ : ∃ y : Off, y = put o7 50 2 o9 := ⟨_, rfl⟩
  have h := h o10 eo10
  rw [← eo10]
  refine g_aload_n hC dX4_writeSock_37 38 rfl rfl 0 rfl ?_
  refine g_get hC fl_X4_20 dX4_writeSock_38 41 rfl 0 rfl rfl ?_
  refine g_get hC fl_X4_86 dX4_writeSock_41 44 rfl 8 rfl rfl ?_
  refine g_iload_n hC dX4_writeSock_44 45 rfl rfl 1 rfl ?_
  obtain ⟨hi, h⟩ := h
  refine g_iald hC dX4_writeSock_45 46 rfl 10 rfl hi ?_
  refine g_subA hC (ct_J4_append_bf812 l g (A 6) (sh o10 50) (o10 2 p0.toNatClampNeg) _ h) gY_J4_append_bf812 dX4_writeSock_46 49 rfl ml_X4_283 (emb_sb g A o10) (emb_sb1 g A o10) [] rfl rfl rfl 0 1 rfl rfl ⟨Nat.le_of_ble_eq_true rfl, Nat.le_of_ble_eq_true rfl⟩ (Nat.le_of_ble_eq_true rfl) ⟨Nat.le_of_ble_eq_true rfl, Nat.le_of_ble_eq_true rfl⟩ (fun o11 h => ?_)
  obtain ⟨o12, eo12⟩ : ∃ y : Off, y = put o10 50 2 o11 := ⟨_, rfl⟩
  have h := h o12 eo12
  rw [← eo12]
  refine g_pop hC dX4_writeSock_49 50 rfl rfl ?_
  refine g_aload_n hC dX4_writeSock_50 51 rfl rfl 0 rfl ?_
  refine g_get hC fl_X4_20 dX4_writeSock_51 54 rfl 0 rfl rfl ?_
  refine g_get hC fl_X4_90 dX4_writeSock_54 57 rfl 8 rfl rfl ?_
  refine g_iload_n hC dX4_writeSock_57 58 rfl rfl 1 rfl ?_
  obtain ⟨hi, h⟩ := h
  refine g_iald hC dX4_writeSock_58 59 rfl 11 rfl hi ?_
  refine g_if_ne hC dX4_writeSock_59 75 (by decide) 62 rfl (fun c => ?_) (fun c => ?_)
  · have h := h.1 c
    refine g_aload_n hC dX4_writeSock_75 76 rfl rfl 0 rfl ?_
    refine g_get hC fl_X4_20 dX4_writeSock_76 79 rfl 0 rfl rfl ?_
    refine g_get hC fl_X4_90 dX4_writeSock_79 82 rfl 8 rfl rfl ?_
    refine g_iload_n hC dX4_writeSock_82 83 rfl rfl 1 rfl ?_
    obtain ⟨hi, h⟩ := h
    refine g_iald hC dX4_writeSock_83 84 rfl 11 rfl hi ?_
    refine g_iconst hC (3 : Int32) dX4_writeSock_84 85 rfl iconst_3 ?_
    refine g_icmp_ne hC dX4_writeSock_85 96 (by decide) 88 rfl (fun c => ?_) (fun c => ?_)
    · have h := h.1 c
      refine g_aload_n hC dX4_writeSock_96 97 rfl rfl 0 rfl ?_
      refine g_iload_n hC dX4_writeSock_97 98 rfl rfl 1 rfl ?_
      refine g_ownV hC (ct_X4_writeApplication l g A o12 p0 _ h) gY_X4_writeApplication dX4_writeSock_98 101 rfl ml_X4_293 [] rfl rfl rfl 0 8 rfl rfl ⟨Nat.le_of_ble_eq_true rfl, Nat.le_of_ble_eq_true rfl⟩ (Nat.le_of_ble_eq_true rfl) ⟨Nat.le_of_ble_eq_true rfl, Nat.le_of_ble_eq_true rfl⟩ (fun o13 h => ?_)
      refine g_lv (lv2 := [(0, .ref (A 0 0))]) [0] rfl ?_
      exact jn_X4_writeSock_101 hC hZ o13 h
    · have h := h.2 c
      refine g_aload_n hC dX4_writeSock_88 89 rfl rfl 0 rfl ?_
      refine g_iload_n hC dX4_writeSock_89 90 rfl rfl 1 rfl ?_
      refine g_ownV hC (ct_X4_writeVisa l g A o12 p0 _ h) gY_X4_writeVisa dX4_writeSock_90 93 rfl ml_X4_290 [] rfl rfl rfl 0 8 rfl rfl ⟨Nat.le_of_ble_eq_true rfl, Nat.le_of_ble_eq_true rfl⟩ (Nat.le_of_ble_eq_true rfl) ⟨Nat.le_of_ble_eq_true rfl, Nat.le_of_ble_eq_true rfl⟩ (fun o15 h => ?_)
      refine g_goto hC dX4_writeSock_93 101 (by decide) ?_
      refine g_lv (lv2 := [(0, .ref (A 0 0))]) [0] rfl ?_
      exact jn_X4_writeSock_101 hC hZ o15 h
  · have h := h.2 c
    refine g_aload_n hC dX4_writeSock_62 63 rfl rfl 0 rfl ?_
    refine g_get hC fl_X4_44 dX4_writeSock_63 66 rfl 0 rfl rfl ?_
    refine g_bipush hC (45 : Int32) dX4_writeSock_66 68 rfl bipush_45 ?_
    refine g_subA hC (ct_J4_append_cf468 l g (A 6) (sh o12 50) (45 : Int32) _ h) gY_J4_append_cf468 dX4_writeSock_68 71 rfl ml_X4_287 (emb_sb g A o12) (emb_sb1 g A o12) [] rfl rfl rfl 0 1 rfl rfl ⟨Nat.le_of_ble_eq_true rfl, Nat.le_of_ble_eq_true rfl⟩ (Nat.le_of_ble_eq_true rfl) ⟨Nat.le_of_ble_eq_true rfl, Nat.le_of_ble_eq_true rfl⟩ (fun o16 h => ?_)
    obtain ⟨o17, eo17⟩ : ∃ y : Off, y = put o12 50 2 o16 := ⟨_, rfl⟩
    have h := h o17 eo17
    rw [← eo17]
    refine g_pop hC dX4_writeSock_71 72 rfl rfl ?_
    refine g_goto hC dX4_writeSock_72 101 (by decide) ?_
    refine g_lv (lv2 := [(0, .ref (A 0 0))]) [0] rfl ?_
    exact jn_X4_writeSock_101 hC hZ o17 h
def wj_X4_outputAt_21 (post : Int32 → Off → Prop) (px : Nat → Off → Prop) (o : Off) (x1 : Int32) (s0 : Int32) : Prop := wp_X4_requireIndex (fun o1 => wp_J4_charAt_5068e (fun v2 => (isC v2 ∧ post v2 o1)) (sh o1 50) x1) px o s0
def wj_X4_outputAt_20 (post : Int32 → Off → Prop) (px : Nat → Off → Prop) (o : Off) (x1 : Int32) : Prop := wj_X4_outputAt_21 post px o x1 (0 : Int32)
def wp_X4_outputAt (post : Int32 → Off → Prop) (px : Nat → Off → Prop) (o : Off) (p0 : Int32) : Prop := ((p0 < 0 → wj_X4_outputAt_20 post px o p0) ∧ (¬ p0 < 0 → wp_J4_length_8abf5 (fun v3 => ((v3 ≤ p0 → wj_X4_outputAt_20 post px o p0) ∧ (¬ v3 ≤ p0 → wj_X4_outputAt_21 post px o p0 (1 : Int32)))) (sh o 50) ))
set_option maxRecDepth 100000 in
set_option maxHeartbeats 4000000 in
theorem jn_X4_outputAt_21 {x : gX} {l : Launch} {g : gE} {A : Nat → Nat → Nat} {o0 : Off} {post : Int32 → Off → Prop} {px : Nat → Off → Prop} (hC : gC x l cX4_outputAt 2 RX4 g 7 111 1 6) (hZ : gZX x g (some .char) (embW g A o0) (pI (embW g A) post) (pX (embW g A) px) 1 6) : ∀ (o : Off) (x1 : Int32) (s0 : Int32) , wj_X4_outputAt_21 post px o x1 s0 → G x g 2 0 0 (embW g A o) 21 [(0, .ref (A 0 0)), (1, .int x1)] [.int s0, .ref (A 0 0)] := by
  intro o x1 s0 h
  rw [wj_X4_outputAt_21] at h
  refine g_ownVX hC hZ (ct_X4_requireIndex l g A o s0 _ _ h) gY_X4_requireIndex dX4_outputAt_21 24 rfl ml_X4_299 [] rfl rfl rfl 0 8 rfl rfl ⟨Nat.le_of_ble_eq_true rfl, Nat.le_of_ble_eq_true rfl⟩ (Nat.le_of_ble_eq_true rfl) ⟨Nat.le_of_ble_eq_true rfl, Nat.le_of_ble_eq_true rfl⟩ ⟨Nat.le_of_ble_eq_true rfl, Nat.le_of_ble_eq_true rfl⟩ (fun o1 h => ?_)
  refine g_widen (k2 := 1) (n2 := 6) (Nat.le_of_ble_eq_true rfl) (Nat.le_of_ble_eq_true rfl) ?_
  refine g_aload_n hC dX4_outputAt_24 25 rfl rfl 0 rfl ?_
  refine g_get hC fl_X4_44 dX4_outputAt_25 28 rfl 0 rfl rfl ?_
  refine g_iload_n hC dX4_outputAt_28 29 rfl rfl 1 rfl ?_
  refine g_readV hC (ct_J4_charAt_5068e l g (A 6) (sh o1 50) x1 _ h) gY_J4_charAt_5068e dX4_outputAt_29 32 rfl ml_X4_302 _ _ (emb_sb g A o1) [] rfl rfl rfl 0 1 rfl rfl ⟨Nat.le_of_ble_eq_true rfl, Nat.le_of_ble_eq_true rfl⟩ (Nat.le_of_ble_eq_true rfl) ⟨Nat.le_of_ble_eq_true rfl, Nat.le_of_ble_eq_true rfl⟩ (fun v2 h => ?_)
  refine g_widen (k2 := 1) (n2 := 6) (Nat.le_of_ble_eq_true rfl) (Nat.le_of_ble_eq_true rfl) ?_
  obtain ⟨hb, h⟩ := h
  exact g_rx hZ (g_zret (gXQ_C hC) (gXQ_Z hZ) (hb) dX4_outputAt_32 ⟨_, _, rfl, rfl, h⟩)
set_option maxRecDepth 100000 in
set_option maxHeartbeats 4000000 in
theorem jn_X4_outputAt_20 {x : gX} {l : Launch} {g : gE} {A : Nat → Nat → Nat} {o0 : Off} {post : Int32 → Off → Prop} {px : Nat → Off → Prop} (hC : gC x l cX4_outputAt 2 RX4 g 7 111 1 6) (hZ : gZX x g (some .char) (embW g A o0) (pI (embW g A) post) (pX (embW g A) px) 1 6) : ∀ (o : Off) (x1 : Int32) , wj_X4_outputAt_20 post px o x1 → G x g 2 0 0 (embW g A o) 20 [(0, .ref (A 0 0)), (1, .int x1)] [.ref (A 0 0)] := by
  intro o x1 h
  rw [wj_X4_outputAt_20] at h
  refine g_iconst hC (0 : Int32) dX4_outputAt_20 21 rfl iconst_0 ?_
  exact jn_X4_outputAt_21 hC hZ o x1 (0 : Int32) h
set_option maxRecDepth 100000 in
set_option maxHeartbeats 4000000 in
theorem ct_X4_outputAt (l : Launch) (g : gE) (A : Nat → Nat → Nat) (o : Off) (p0 : Int32) (post : Int32 → Off → Prop) (px : Nat → Off → Prop) (h : wp_X4_outputAt post px o p0) : FnX l g yX4_outputAt cX4_outputAt 2 (some .char) 7 111 1 6 (embW g A o) [.ref (A 0 0), .int p0] (pI (embW g A) post) (pX (embW g A) px) := by
  refine FnX.of (by decide) (Nat.le_of_ble_eq_true rfl) (fun x hC hZ => ?_)
  rw [wp_X4_outputAt] at h
  show G x g 2 0 0 (embW g A o) 0 [(0, .ref (A 0 0)), (1, .int p0)] []
  refine g_aload_n hC dX4_outputAt_0 1 rfl rfl 0 rfl ?_
  refine g_iload_n hC dX4_outputAt_1 2 rfl rfl 1 rfl ?_
  refine g_if_lt hC dX4_outputAt_2 20 (by decide) 5 rfl (fun c => ?_) (fun c => ?_)
  · have h := h.1 c
    exact jn_X4_outputAt_20 hC hZ o p0 h
  · have h := h.2 c
    refine g_iload_n hC dX4_outputAt_5 6 rfl rfl 1 rfl ?_
    refine g_aload_n hC dX4_outputAt_6 7 rfl rfl 0 rfl ?_
    refine g_get hC fl_X4_44 dX4_outputAt_7 10 rfl 0 rfl rfl ?_
    refine g_readV hC (ct_J4_length_8abf5 l g (A 6) (sh o 50)  _ h) gY_J4_length_8abf5 dX4_outputAt_10 13 rfl ml_X4_296 _ _ (emb_sb g A o) [.int p0, .ref (A 0 0)] rfl rfl rfl 0 1 rfl rfl ⟨Nat.le_of_ble_eq_true rfl, Nat.le_of_ble_eq_true rfl⟩ (Nat.le_of_ble_eq_true rfl) ⟨Nat.le_of_ble_eq_true rfl, Nat.le_of_ble_eq_true rfl⟩ (fun v3 h => ?_)
    refine g_icmp_ge hC dX4_outputAt_13 20 (by decide) 16 rfl (fun c => ?_) (fun c => ?_)
    · have h := h.1 c
      exact jn_X4_outputAt_20 hC hZ o p0 h
    · have h := h.2 c
      refine g_iconst hC (1 : Int32) dX4_outputAt_16 17 rfl iconst_1 ?_
      refine g_goto hC dX4_outputAt_17 21 (by decide) ?_
      exact jn_X4_outputAt_21 hC hZ o p0 (1 : Int32) h
def wp_X4_requireState (post : Off → Prop) (px : Nat → Off → Prop) (o : Off) (p0 : Int32) : Prop := ((¬ p0 = 0 → post o) ∧ (p0 = 0 → px 2 o))
set_option maxRecDepth 100000 in
set_option maxHeartbeats 4000000 in
theorem ct_X4_requireState (l : Launch) (g : gE) (A : Nat → Nat → Nat) (o : Off) (p0 : Int32) (post : Off → Prop) (px : Nat → Off → Prop) (h : wp_X4_requireState post px o p0) : FnX l g yX4_requireState cX4_requireState 2 none 6 90 1 6 (embW g A o) [.ref (A 0 0), .int p0] (pV (embW g A) post) (pX (embW g A) px) := by
  refine FnX.of (by decide) (Nat.le_of_ble_eq_true rfl) (fun x hC hZ => ?_)
  rw [wp_X4_requireState] at h
  show G x g 2 0 0 (embW g A o) 0 [(0, .ref (A 0 0)), (1, .int p0)] []
  refine g_iload_n hC dX4_requireState_0 1 rfl rfl 1 rfl ?_
  refine g_if_ne hC dX4_requireState_1 15 (by decide) 4 rfl (fun c => ?_) (fun c => ?_)
  · have h := h.1 c
    refine g_widen (k2 := 1) (n2 := 6) (Nat.le_of_ble_eq_true rfl) (Nat.le_of_ble_eq_true rfl) ?_
    exact g_rx hZ (g_vret (gXQ_C hC) (gXQ_Z hZ) dX4_requireState_15 ⟨_, rfl, rfl, h⟩)
  · have h := h.2 c
    exact g_thr hC hZ 19 rfl xd_2_0 xd_2_1 xd_2_2 xd_2_5 (by decide +kernel) (by decide +kernel) (by decide +kernel) xl_2 xi_2 xa_2 xb_2 xg_2 dX4_requireState_4 dX4_requireState_7 dX4_requireState_8 dX4_requireState_11 dX4_requireState_14 ⟨Nat.le_of_ble_eq_true rfl, Nat.le_of_ble_eq_true rfl⟩ (Nat.le_of_ble_eq_true rfl) ⟨Nat.le_of_ble_eq_true rfl, Nat.le_of_ble_eq_true rfl, Nat.le_of_ble_eq_true rfl, Nat.le_of_ble_eq_true rfl⟩ ⟨2, _, rfl, rfl, h⟩
def wj_X4_appendInput_39 (post : Int32 → Off → Prop) (px : Nat → Off → Prop) (o : Off) (x1 : Int32) (s0 : Int32) : Prop := wp_X4_requireState (fun o2 => wp_X1_append (fun v5 o3 => (∀ o4 : Off, o4 = put o2 40 4 o3 → post v5 o4)) (sh o2 40) x1) px o s0
def wj_X4_appendInput_18 (post : Int32 → Off → Prop) (px : Nat → Off → Prop) (o : Off) (x1 : Int32) (s0 : Int32) : Prop := wp_X4_requireArgument (fun o1 => (((60 : Int32) ≤ (o1 40 3) → wj_X4_appendInput_39 post px o1 x1 (0 : Int32)) ∧ (¬ (60 : Int32) ≤ (o1 40 3) → wj_X4_appendInput_39 post px o1 x1 (1 : Int32)))) px o s0
def wj_X4_appendInput_17 (post : Int32 → Off → Prop) (px : Nat → Off → Prop) (o : Off) (x1 : Int32) : Prop := wj_X4_appendInput_18 post px o x1 (0 : Int32)
def wp_X4_appendInput (post : Int32 → Off → Prop) (px : Nat → Off → Prop) (o : Off) (p0 : Int32) : Prop := ((p0 < (32 : Int32) → wj_X4_appendInput_17 post px o p0) ∧ (¬ p0 < (32 : Int32) → (((126 : Int32) < p0 → wj_X4_appendInput_17 post px o p0) ∧ (¬ (126 : Int32) < p0 → wj_X4_appendInput_18 post px o p0 (1 : Int32)))))
set_option maxRecDepth 100000 in
set_option maxHeartbeats 4000000 in
theorem jn_X4_appendInput_39 {x : gX} {l : Launch} {g : gE} {A : Nat → Nat → Nat} {o0 : Off} {post : Int32 → Off → Prop} {px : Nat → Off → Prop} (hC : gC x l cX4_appendInput 2 RX4 g 7 111 2 12) (hZ : gZX x g (some .int) (embW g A o0) (pI (embW g A) post) (pX (embW g A) px) 2 12) : ∀ (o : Off) (x1 : Int32) (s0 : Int32) , wj_X4_appendInput_39 post px o x1 s0 → G x g 2 1 6 (embW g A o) 39 [(0, .ref (A 0 0)), (1, .int x1)] [.int s0, .ref (A 0 0)] := by
  intro o x1 s0 h
  rw [wj_X4_appendInput_39] at h
  refine g_ownVX hC hZ (ct_X4_requireState l g A o s0 _ _ h) gY_X4_requireState dX4_appendInput_39 42 rfl ml_X4_310 [] rfl rfl rfl 0 8 rfl rfl ⟨Nat.le_of_ble_eq_true rfl, Nat.le_of_ble_eq_true rfl⟩ (Nat.le_of_ble_eq_true rfl) ⟨Nat.le_of_ble_eq_true rfl, Nat.le_of_ble_eq_true rfl⟩ ⟨Nat.le_of_ble_eq_true rfl, Nat.le_of_ble_eq_true rfl⟩ (fun o2 h => ?_)
  refine g_widen (k2 := 2) (n2 := 12) (Nat.le_of_ble_eq_true rfl) (Nat.le_of_ble_eq_true rfl) ?_
  refine g_aload_n hC dX4_appendInput_42 43 rfl rfl 0 rfl ?_
  refine g_get hC fl_X4_37 dX4_appendInput_43 46 rfl 0 rfl rfl ?_
  refine g_iload_n hC dX4_appendInput_46 47 rfl rfl 1 rfl ?_
  refine g_subI hC (ct_X1_append l g (A 5) (sh o2 40) x1 _ h) gY_X1_append dX4_appendInput_47 50 rfl ml_X4_313 (emb_cmd g A o2) (emb_cmd1 g A o2) [] rfl rfl rfl 0 5 rfl rfl ⟨Nat.le_of_ble_eq_true rfl, Nat.le_of_ble_eq_true rfl⟩ (Nat.le_of_ble_eq_true rfl) ⟨Nat.le_of_ble_eq_true rfl, Nat.le_of_ble_eq_true rfl⟩ (fun v5 o3 h => ?_)
  obtain ⟨o4, eo4⟩ : ∃ y : Off, y = put o2 40 4 o3 := ⟨_, rfl⟩
  have h := h o4 eo4
  rw [← eo4]
  refine g_widen (k2 := 2) (n2 := 12) (Nat.le_of_ble_eq_true rfl) (Nat.le_of_ble_eq_true rfl) ?_
  exact g_rx hZ (g_iret (gXQ_C hC) (gXQ_Z hZ) dX4_appendInput_50 ⟨_, _, rfl, rfl, h⟩)
set_option maxRecDepth 100000 in
set_option maxHeartbeats 4000000 in
theorem jn_X4_appendInput_18 {x : gX} {l : Launch} {g : gE} {A : Nat → Nat → Nat} {o0 : Off} {post : Int32 → Off → Prop} {px : Nat → Off → Prop} (hC : gC x l cX4_appendInput 2 RX4 g 7 111 2 12) (hZ : gZX x g (some .int) (embW g A o0) (pI (embW g A) post) (pX (embW g A) px) 2 12) : ∀ (o : Off) (x1 : Int32) (s0 : Int32) , wj_X4_appendInput_18 post px o x1 s0 → G x g 2 0 0 (embW g A o) 18 [(0, .ref (A 0 0)), (1, .int x1)] [.int s0, .ref (A 0 0)] := by
  intro o x1 s0 h
  rw [wj_X4_appendInput_18] at h
  refine g_ownVX hC hZ (ct_X4_requireArgument l g A o s0 _ _ h) gY_X4_requireArgument dX4_appendInput_18 21 rfl ml_X4_305 [] rfl rfl rfl 0 8 rfl rfl ⟨Nat.le_of_ble_eq_true rfl, Nat.le_of_ble_eq_true rfl⟩ (Nat.le_of_ble_eq_true rfl) ⟨Nat.le_of_ble_eq_true rfl, Nat.le_of_ble_eq_true rfl⟩ ⟨Nat.le_of_ble_eq_true rfl, Nat.le_of_ble_eq_true rfl⟩ (fun o1 h => ?_)
  refine g_widen (k2 := 1) (n2 := 6) (Nat.le_of_ble_eq_true rfl) (Nat.le_of_ble_eq_true rfl) ?_
  refine g_aload_n hC dX4_appendInput_21 22 rfl rfl 0 rfl ?_
  refine g_aload_n hC dX4_appendInput_22 23 rfl rfl 0 rfl ?_
  refine g_get hC fl_X4_37 dX4_appendInput_23 26 rfl 0 rfl rfl ?_
  refine g_get hC fl_X4_308 dX4_appendInput_26 29 rfl 1 rfl rfl ?_
  refine g_bipush hC (60 : Int32) dX4_appendInput_29 31 rfl bipush_60 ?_
  refine g_icmp_ge hC dX4_appendInput_31 38 (by decide) 34 rfl (fun c => ?_) (fun c => ?_)
  · have h := h.1 c
    refine g_iconst hC (0 : Int32) dX4_appendInput_38 39 rfl iconst_0 ?_
    exact jn_X4_appendInput_39 hC hZ o1 x1 (0 : Int32) h
  · have h := h.2 c
    refine g_iconst hC (1 : Int32) dX4_appendInput_34 35 rfl iconst_1 ?_
    refine g_goto hC dX4_appendInput_35 39 (by decide) ?_
    exact jn_X4_appendInput_39 hC hZ o1 x1 (1 : Int32) h
set_option maxRecDepth 100000 in
set_option maxHeartbeats 4000000 in
theorem jn_X4_appendInput_17 {x : gX} {l : Launch} {g : gE} {A : Nat → Nat → Nat} {o0 : Off} {post : Int32 → Off → Prop} {px : Nat → Off → Prop} (hC : gC x l cX4_appendInput 2 RX4 g 7 111 2 12) (hZ : gZX x g (some .int) (embW g A o0) (pI (embW g A) post) (pX (embW g A) px) 2 12) : ∀ (o : Off) (x1 : Int32) , wj_X4_appendInput_17 post px o x1 → G x g 2 0 0 (embW g A o) 17 [(0, .ref (A 0 0)), (1, .int x1)] [.ref (A 0 0)] := by
  intro o x1 h
  rw [wj_X4_appendInput_17] at h
  refine g_iconst hC (0 : Int32) dX4_appendInput_17 18 rfl iconst_0 ?_
  exact jn_X4_appendInput_18 hC hZ o x1 (0 : Int32) h
set_option maxRecDepth 100000 in
set_option maxHeartbeats 4000000 in
theorem ct_X4_appendInput (l : Launch) (g : gE) (A : Nat → Nat → Nat) (o : Off) (p0 : Int32) (post : Int32 → Off → Prop) (px : Nat → Off → Prop) (h : wp_X4_appendInput post px o p0) : FnX l g yX4_appendInput cX4_appendInput 2 (some .int) 7 111 2 12 (embW g A o) [.ref (A 0 0), .int p0] (pI (embW g A) post) (pX (embW g A) px) := by
  refine FnX.of (by decide) (Nat.le_of_ble_eq_true rfl) (fun x hC hZ => ?_)
  rw [wp_X4_appendInput] at h
  show G x g 2 0 0 (embW g A o) 0 [(0, .ref (A 0 0)), (1, .int p0)] []
  refine g_aload_n hC dX4_appendInput_0 1 rfl rfl 0 rfl ?_
  refine g_iload_n hC dX4_appendInput_1 2 rfl rfl 1 rfl ?_
  refine g_bipush hC (32 : Int32) dX4_appendInput_2 4 rfl bipush_32 ?_
  refine g_icmp_lt hC dX4_appendInput_4 17 (by decide) 7 rfl (fun c => ?_) (fun c => ?_)
  · have h := h.1 c
    exact jn_X4_appendInput_17 hC hZ o p0 h
  · have h := h.2 c
    refine g_iload_n hC dX4_appendInput_7 8 rfl rfl 1 rfl ?_
    refine g_bipush hC (126 : Int32) dX4_appendInput_8 10 rfl bipush_126 ?_
    refine g_icmp_gt hC dX4_appendInput_10 17 (by decide) 13 rfl (fun c => ?_) (fun c => ?_)
    · have h := h.1 c
      exact jn_X4_appendInput_17 hC hZ o p0 h
    · have h := h.2 c
      refine g_iconst hC (1 : Int32) dX4_appendInput_13 14 rfl iconst_1 ?_
      refine g_goto hC dX4_appendInput_14 18 (by decide) ?_
      exact jn_X4_appendInput_18 hC hZ o p0 (1 : Int32) h
def wp_X4_faultOf (post : Int32 → Off → Prop) (o : Off) (p0 : Int32) : Prop := wp_X1_value (fun v1 => wp_X1_value (fun v2 => wp_X1_letter (fun v3 => ((v3 = (97 : Int32) → wp_X0_applying (fun v6 o4 => (∀ o5 : Off, o5 = put o 0 13 o4 → post v6 o5)) o v1 v2) ∧ (¬ v3 = (97 : Int32) → ((v3 = (98 : Int32) → wp_X0_banning (fun v7 => post v7 o) o v1 (((v2).toUInt32 % 65536).toInt32)) ∧ (¬ v3 = (98 : Int32) → ((v3 = (100 : Int32) → wp_X0_deciding (fun v8 => post v8 o) o v1) ∧ (¬ v3 = (100 : Int32) → ((v3 = (101 : Int32) → wp_X0_endingTreaty (fun v9 => post v9 o) o v1 v2) ∧ (¬ v3 = (101 : Int32) → ((v3 = (106 : Int32) → wp_X0_pairing (fun v12 o10 => (∀ o11 : Off, o11 = put o 0 13 o10 → post v12 o11)) o v1 v2) ∧ (¬ v3 = (106 : Int32) → ((v3 = (107 : Int32) → wp_X0_separating (fun v15 o13 => (∀ o14 : Off, o14 = put o 0 13 o13 → post v15 o14)) o v1) ∧ (¬ v3 = (107 : Int32) → ((v3 = (108 : Int32) → wp_X0_leaving (fun v18 o16 => (∀ o17 : Off, o17 = put o 0 13 o16 → post v18 o17)) o v1) ∧ (¬ v3 = (108 : Int32) → ((v3 = (109 : Int32) → wp_X0_moving (fun v21 o19 => (∀ o20 : Off, o20 = put o 0 13 o19 → post v21 o20)) o v1 v2) ∧ (¬ v3 = (109 : Int32) → ((v3 = (110 : Int32) → wp_X0_adding (fun v24 o22 => (∀ o23 : Off, o23 = put o 0 13 o22 → post v24 o23)) o (((v1).toUInt32 % 65536).toInt32) v2) ∧ (¬ v3 = (110 : Int32) → ((v3 = (112 : Int32) → wp_X0_appealing (fun v27 o25 => (∀ o26 : Off, o26 = put o 0 13 o25 → post v27 o26)) o v1) ∧ (¬ v3 = (112 : Int32) → ((v3 = (113 : Int32) → wp_X0_settingQuota (fun v28 => post v28 o) o v1 v2) ∧ (¬ v3 = (113 : Int32) → ((v3 = (114 : Int32) → wp_X0_renewing (fun v31 o29 => (∀ o30 : Off, o30 = put o 0 13 o29 → post v31 o30)) o v1 v2) ∧ (¬ v3 = (114 : Int32) → ((v3 = (116 : Int32) → wp_X1_value (fun v32 => wp_X0_signing (fun v35 o33 => (∀ o34 : Off, o34 = put o 0 13 o33 → post v35 o34)) o v1 v2 (((v32).toUInt32 % 65536).toInt32)) (sh o 40) p0 (2 : Int32)) ∧ (¬ v3 = (116 : Int32) → ((v3 = (117 : Int32) → wp_X0_banning (fun v36 => post v36 o) o v1 (((v2).toUInt32 % 65536).toInt32)) ∧ (¬ v3 = (117 : Int32) → ((v3 = (119 : Int32) → wp_X0_withdrawing (fun v39 o37 => (∀ o38 : Off, o38 = put o 0 13 o37 → post v39 o38)) o v1) ∧ (¬ v3 = (119 : Int32) → wp_X0_passing (fun v40 => post v40 o) o v1))))))))))))))))))))))))))))))) (sh o 40) p0) (sh o 40) p0 (1 : Int32)) (sh o 40) p0 (0 : Int32)
set_option maxRecDepth 100000 in
set_option maxHeartbeats 4000000 in
theorem ct_X4_faultOf (l : Launch) (g : gE) (A : Nat → Nat → Nat) (o : Off) (p0 : Int32) (post : Int32 → Off → Prop) (h : wp_X4_faultOf post o p0) : Fn l g yX4_faultOf cX4_faultOf 4 (some .int) 7 161 0 0 (embW g A o) [.ref (A 0 0), .int p0] (pI (embW g A) post) := by
  refine Fn.of (by decide) (Nat.le_of_ble_eq_true rfl) (fun x hC hZ => ?_)
  rw [wp_X4_faultOf] at h
  show G x g 4 0 0 (embW g A o) 0 [(0, .ref (A 0 0)), (1, .int p0)] []
  refine g_aload_n hC dX4_faultOf_0 1 rfl rfl 0 rfl ?_
  refine g_get hC fl_X4_37 dX4_faultOf_1 4 rfl 0 rfl rfl ?_
  refine g_iload_n hC dX4_faultOf_4 5 rfl rfl 1 rfl ?_
  refine g_iconst hC (0 : Int32) dX4_faultOf_5 6 rfl iconst_0 ?_
  refine g_readV hC (ct_X1_value l g (A 5) (sh o 40) p0 (0 : Int32) _ h) gY_X1_value dX4_faultOf_6 9 rfl ml_X4_394 _ _ (emb_cmd g A o) [] rfl rfl rfl 0 5 rfl rfl ⟨Nat.le_of_ble_eq_true rfl, Nat.le_of_ble_eq_true rfl⟩ (Nat.le_of_ble_eq_true rfl) ⟨Nat.le_of_ble_eq_true rfl, Nat.le_of_ble_eq_true rfl⟩ (fun v1 h => ?_)
  refine g_istore_n (lv2 := [(2, .int v1), (0, .ref (A 0 0)), (1, .int p0)]) hC dX4_faultOf_9 10 rfl rfl (by decide) rfl ?_
  refine g_aload_n hC dX4_faultOf_10 11 rfl rfl 1 rfl ?_
  refine g_get hC fl_X4_37 dX4_faultOf_11 14 rfl 0 rfl rfl ?_
  refine g_iload_n hC dX4_faultOf_14 15 rfl rfl 2 rfl ?_
  refine g_iconst hC (1 : Int32) dX4_faultOf_15 16 rfl iconst_1 ?_
  refine g_readV hC (ct_X1_value l g (A 5) (sh o 40) p0 (1 : Int32) _ h) gY_X1_value dX4_faultOf_16 19 rfl ml_X4_394 _ _ (emb_cmd g A o) [] rfl rfl rfl 0 5 rfl rfl ⟨Nat.le_of_ble_eq_true rfl, Nat.le_of_ble_eq_true rfl⟩ (Nat.le_of_ble_eq_true rfl) ⟨Nat.le_of_ble_eq_true rfl, Nat.le_of_ble_eq_true rfl⟩ (fun v2 h => ?_)
  refine g_istore_n (lv2 := [(3, .int v2), (2, .int v1), (0, .ref (A 0 0)), (1, .int p0)]) hC dX4_faultOf_19 20 rfl rfl (by decide) rfl ?_
  refine g_aload_n hC dX4_faultOf_20 21 rfl rfl 2 rfl ?_
  refine g_get hC fl_X4_37 dX4_faultOf_21 24 rfl 0 rfl rfl ?_
  refine g_iload_n hC dX4_faultOf_24 25 rfl rfl 3 rfl ?_
  refine g_readV hC (ct_X1_letter l g (A 5) (sh o 40) p0 _ h) gY_X1_letter dX4_faultOf_25 28 rfl ml_X4_397 _ _ (emb_cmd g A o) [] rfl rfl rfl 0 5 rfl rfl ⟨Nat.le_of_ble_eq_true rfl, Nat.le_of_ble_eq_true rfl⟩ (Nat.le_of_ble_eq_true rfl) ⟨Nat.le_of_ble_eq_true rfl, Nat.le_of_ble_eq_true rfl⟩ (fun v3 h => ?_)
  by_cases c97 : v3 = (97 : Int32)
  · have h := h.1 c97
    refine g_tableIn hC dX4_faultOf_28 (by rw [c97]; decide) (by rw [c97]; decide) (off := 119) (by rw [c97]; rfl) 147 (by decide) ?_
    refine g_aload_n hC dX4_faultOf_147 148 rfl rfl 2 rfl ?_
    refine g_get hC fl_X4_10 dX4_faultOf_148 151 rfl 0 rfl rfl ?_
    refine g_iload_n hC dX4_faultOf_151 152 rfl rfl 1 rfl ?_
    refine g_iload_n hC dX4_faultOf_152 153 rfl rfl 0 rfl ?_
    refine g_subI hC (ct_X0_applying l g (A 1 0) (A 2) o v1 v2 _ h) gY_X0_applying dX4_faultOf_153 156 rfl ml_X4_117 (emb_chk g A o) (emb_chk1 g A o) [] rfl rfl rfl 0 4 rfl rfl ⟨Nat.le_of_ble_eq_true rfl, Nat.le_of_ble_eq_true rfl⟩ (Nat.le_of_ble_eq_true rfl) ⟨Nat.le_of_ble_eq_true rfl, Nat.le_of_ble_eq_true rfl⟩ (fun v6 o4 h => ?_)
    obtain ⟨o5, eo5⟩ : ∃ y : Off, y = put o 0 13 o4 := ⟨_, rfl⟩
    have h := h o5 eo5
    rw [← eo5]
    exact g_iret hC hZ dX4_faultOf_156 ⟨_, _, rfl, rfl, h⟩
  have h := h.2 c97
  by_cases c98 : v3 = (98 : Int32)
  · have h := h.1 c98
    refine g_tableIn hC dX4_faultOf_28 (by rw [c98]; decide) (by rw [c98]; decide) (off := 214) (by rw [c98]; rfl) 242 (by decide) ?_
    refine g_aload_n hC dX4_faultOf_242 243 rfl rfl 2 rfl ?_
    refine g_get hC fl_X4_10 dX4_faultOf_243 246 rfl 0 rfl rfl ?_
    refine g_iload_n hC dX4_faultOf_246 247 rfl rfl 1 rfl ?_
    refine g_iload_n hC dX4_faultOf_247 248 rfl rfl 0 rfl ?_
    refine g_i2c hC dX4_faultOf_248 249 rfl ?_
    refine g_readV hC (ct_X0_banning l g (A 1 0) (A 2) o v1 (((v2).toUInt32 % 65536).toInt32) _ h) gY_X0_banning dX4_faultOf_249 252 rfl ml_X4_200 _ _ (emb_chk g A o) [] rfl rfl rfl 0 4 rfl rfl ⟨Nat.le_of_ble_eq_true rfl, Nat.le_of_ble_eq_true rfl⟩ (Nat.le_of_ble_eq_true rfl) ⟨Nat.le_of_ble_eq_true rfl, Nat.le_of_ble_eq_true rfl⟩ (fun v7 h => ?_)
    exact g_iret hC hZ dX4_faultOf_252 ⟨_, _, rfl, rfl, h⟩
  have h := h.2 c98
  by_cases c100 : v3 = (100 : Int32)
  · have h := h.1 c100
    refine g_tableIn hC dX4_faultOf_28 (by rw [c100]; decide) (by rw [c100]; decide) (off := 147) (by rw [c100]; rfl) 175 (by decide) ?_
    refine g_aload_n hC dX4_faultOf_175 176 rfl rfl 2 rfl ?_
    refine g_get hC fl_X4_10 dX4_faultOf_176 179 rfl 0 rfl rfl ?_
    refine g_iload_n hC dX4_faultOf_179 180 rfl rfl 1 rfl ?_
    refine g_readV hC (ct_X0_deciding l g (A 1 0) (A 2) o v1 _ h) gY_X0_deciding dX4_faultOf_180 183 rfl ml_X4_137 _ _ (emb_chk g A o) [] rfl rfl rfl 0 4 rfl rfl ⟨Nat.le_of_ble_eq_true rfl, Nat.le_of_ble_eq_true rfl⟩ (Nat.le_of_ble_eq_true rfl) ⟨Nat.le_of_ble_eq_true rfl, Nat.le_of_ble_eq_true rfl⟩ (fun v8 h => ?_)
    exact g_iret hC hZ dX4_faultOf_183 ⟨_, _, rfl, rfl, h⟩
  have h := h.2 c100
  by_cases c101 : v3 = (101 : Int32)
  · have h := h.1 c101
    refine g_tableIn hC dX4_faultOf_28 (by rw [c101]; decide) (by rw [c101]; decide) (off := 245) (by rw [c101]; rfl) 273 (by decide) ?_
    refine g_aload_n hC dX4_faultOf_273 274 rfl rfl 2 rfl ?_
    refine g_get hC fl_X4_10 dX4_faultOf_274 277 rfl 0 rfl rfl ?_
    refine g_iload_n hC dX4_faultOf_277 278 rfl rfl 1 rfl ?_
    refine g_iload_n hC dX4_faultOf_278 279 rfl rfl 0 rfl ?_
    refine g_readV hC (ct_X0_endingTreaty l g (A 1 0) (A 2) o v1 v2 _ h) gY_X0_endingTreaty dX4_faultOf_279 282 rfl ml_X4_218 _ _ (emb_chk g A o) [] rfl rfl rfl 0 4 rfl rfl ⟨Nat.le_of_ble_eq_true rfl, Nat.le_of_ble_eq_true rfl⟩ (Nat.le_of_ble_eq_true rfl) ⟨Nat.le_of_ble_eq_true rfl, Nat.le_of_ble_eq_true rfl⟩ (fun v9 h => ?_)
    exact g_iret hC hZ dX4_faultOf_282 ⟨_, _, rfl, rfl, h⟩
  have h := h.2 c101
  by_cases c106 : v3 = (106 : Int32)
  · have h := h.1 c106
    refine g_tableIn hC dX4_faultOf_28 (by rw [c106]; decide) (by rw [c106]; decide) (off := 185) (by rw [c106]; rfl) 213 (by decide) ?_
    refine g_aload_n hC dX4_faultOf_213 214 rfl rfl 2 rfl ?_
    refine g_get hC fl_X4_10 dX4_faultOf_214 217 rfl 0 rfl rfl ?_
    refine g_iload_n hC dX4_faultOf_217 218 rfl rfl 1 rfl ?_
    refine g_iload_n hC dX4_faultOf_218 219 rfl rfl 0 rfl ?_
    refine g_subI hC (ct_X0_pairing l g (A 1 0) (A 2) o v1 v2 _ h) gY_X0_pairing dX4_faultOf_219 222 rfl ml_X4_173 (emb_chk g A o) (emb_chk1 g A o) [] rfl rfl rfl 0 4 rfl rfl ⟨Nat.le_of_ble_eq_true rfl, Nat.le_of_ble_eq_true rfl⟩ (Nat.le_of_ble_eq_true rfl) ⟨Nat.le_of_ble_eq_true rfl, Nat.le_of_ble_eq_true rfl⟩ (fun v12 o10 h => ?_)
    obtain ⟨o11, eo11⟩ : ∃ y : Off, y = put o 0 13 o10 := ⟨_, rfl⟩
    have h := h o11 eo11
    rw [← eo11]
    exact g_iret hC hZ dX4_faultOf_222 ⟨_, _, rfl, rfl, h⟩
  have h := h.2 c106
  by_cases c107 : v3 = (107 : Int32)
  · have h := h.1 c107
    refine g_tableIn hC dX4_faultOf_28 (by rw [c107]; decide) (by rw [c107]; decide) (off := 195) (by rw [c107]; rfl) 223 (by decide) ?_
    refine g_aload_n hC dX4_faultOf_223 224 rfl rfl 2 rfl ?_
    refine g_get hC fl_X4_10 dX4_faultOf_224 227 rfl 0 rfl rfl ?_
    refine g_iload_n hC dX4_faultOf_227 228 rfl rfl 1 rfl ?_
    refine g_subI hC (ct_X0_separating l g (A 1 0) (A 2) o v1 _ h) gY_X0_separating dX4_faultOf_228 231 rfl ml_X4_179 (emb_chk g A o) (emb_chk1 g A o) [] rfl rfl rfl 0 4 rfl rfl ⟨Nat.le_of_ble_eq_true rfl, Nat.le_of_ble_eq_true rfl⟩ (Nat.le_of_ble_eq_true rfl) ⟨Nat.le_of_ble_eq_true rfl, Nat.le_of_ble_eq_true rfl⟩ (fun v15 o13 h => ?_)
    obtain ⟨o14, eo14⟩ : ∃ y : Off, y = put o 0 13 o13 := ⟨_, rfl⟩
    have h := h o14 eo14
    rw [← eo14]
    exact g_iret hC hZ dX4_faultOf_231 ⟨_, _, rfl, rfl, h⟩
  have h := h.2 c107
  by_cases c108 : v3 = (108 : Int32)
  · have h := h.1 c108
    refine g_tableIn hC dX4_faultOf_28 (by rw [c108]; decide) (by rw [c108]; decide) (off := 166) (by rw [c108]; rfl) 194 (by decide) ?_
    refine g_aload_n hC dX4_faultOf_194 195 rfl rfl 2 rfl ?_
    refine g_get hC fl_X4_10 dX4_faultOf_195 198 rfl 0 rfl rfl ?_
    refine g_iload_n hC dX4_faultOf_198 199 rfl rfl 1 rfl ?_
    refine g_subI hC (ct_X0_leaving l g (A 1 0) (A 2) o v1 _ h) gY_X0_leaving dX4_faultOf_199 202 rfl ml_X4_161 (emb_chk g A o) (emb_chk1 g A o) [] rfl rfl rfl 0 4 rfl rfl ⟨Nat.le_of_ble_eq_true rfl, Nat.le_of_ble_eq_true rfl⟩ (Nat.le_of_ble_eq_true rfl) ⟨Nat.le_of_ble_eq_true rfl, Nat.le_of_ble_eq_true rfl⟩ (fun v18 o16 h => ?_)
    obtain ⟨o17, eo17⟩ : ∃ y : Off, y = put o 0 13 o16 := ⟨_, rfl⟩
    have h := h o17 eo17
    rw [← eo17]
    exact g_iret hC hZ dX4_faultOf_202 ⟨_, _, rfl, rfl, h⟩
  have h := h.2 c108
  by_cases c109 : v3 = (109 : Int32)
  · have h := h.1 c109
    refine g_tableIn hC dX4_faultOf_28 (by rw [c109]; decide) (by rw [c109]; decide) (off := 175) (by rw [c109]; rfl) 203 (by decide) ?_
    refine g_aload_n hC dX4_faultOf_203 204 rfl rfl 2 rfl ?_
    refine g_get hC fl_X4_10 dX4_faultOf_204 207 rfl 0 rfl rfl ?_
    refine g_iload_n hC dX4_faultOf_207 208 rfl rfl 1 rfl ?_
    refine g_iload_n hC dX4_faultOf_208 209 rfl rfl 0 rfl ?_
    refine g_subI hC (ct_X0_moving l g (A 1 0) (A 2) o v1 v2 _ h) gY_X0_moving dX4_faultOf_209 212 rfl ml_X4_167 (emb_chk g A o) (emb_chk1 g A o) [] rfl rfl rfl 0 4 rfl rfl ⟨Nat.le_of_ble_eq_true rfl, Nat.le_of_ble_eq_true rfl⟩ (Nat.le_of_ble_eq_true rfl) ⟨Nat.le_of_ble_eq_true rfl, Nat.le_of_ble_eq_true rfl⟩ (fun v21 o19 h => ?_)
    obtain ⟨o20, eo20⟩ : ∃ y : Off, y = put o 0 13 o19 := ⟨_, rfl⟩
    have h := h o20 eo20
    rw [← eo20]
    exact g_iret hC hZ dX4_faultOf_212 ⟨_, _, rfl, rfl, h⟩
  have h := h.2 c109
  by_cases c110 : v3 = (110 : Int32)
  · have h := h.1 c110
    refine g_tableIn hC dX4_faultOf_28 (by rw [c110]; decide) (by rw [c110]; decide) (off := 108) (by rw [c110]; rfl) 136 (by decide) ?_
    refine g_aload_n hC dX4_faultOf_136 137 rfl rfl 2 rfl ?_
    refine g_get hC fl_X4_10 dX4_faultOf_137 140 rfl 0 rfl rfl ?_
    refine g_iload_n hC dX4_faultOf_140 141 rfl rfl 1 rfl ?_
    refine g_i2c hC dX4_faultOf_141 142 rfl ?_
    refine g_iload_n hC dX4_faultOf_142 143 rfl rfl 0 rfl ?_
    refine g_subI hC (ct_X0_adding l g (A 1 0) (A 2) o (((v1).toUInt32 % 65536).toInt32) v2 _ h) gY_X0_adding dX4_faultOf_143 146 rfl ml_X4_61 (emb_chk g A o) (emb_chk1 g A o) [] rfl rfl rfl 0 4 rfl rfl ⟨Nat.le_of_ble_eq_true rfl, Nat.le_of_ble_eq_true rfl⟩ (Nat.le_of_ble_eq_true rfl) ⟨Nat.le_of_ble_eq_true rfl, Nat.le_of_ble_eq_true rfl⟩ (fun v24 o22 h => ?_)
    obtain ⟨o23, eo23⟩ : ∃ y : Off, y = put o 0 13 o22 := ⟨_, rfl⟩
    have h := h o23 eo23
    rw [← eo23]
    exact g_iret hC hZ dX4_faultOf_146 ⟨_, _, rfl, rfl, h⟩
  have h := h.2 c110
  by_cases c112 : v3 = (112 : Int32)
  · have h := h.1 c112
    refine g_tableIn hC dX4_faultOf_28 (by rw [c112]; decide) (by rw [c112]; decide) (off := 138) (by rw [c112]; rfl) 166 (by decide) ?_
    refine g_aload_n hC dX4_faultOf_166 167 rfl rfl 2 rfl ?_
    refine g_get hC fl_X4_10 dX4_faultOf_167 170 rfl 0 rfl rfl ?_
    refine g_iload_n hC dX4_faultOf_170 171 rfl rfl 1 rfl ?_
    refine g_subI hC (ct_X0_appealing l g (A 1 0) (A 2) o v1 _ h) gY_X0_appealing dX4_faultOf_171 174 rfl ml_X4_131 (emb_chk g A o) (emb_chk1 g A o) [] rfl rfl rfl 0 4 rfl rfl ⟨Nat.le_of_ble_eq_true rfl, Nat.le_of_ble_eq_true rfl⟩ (Nat.le_of_ble_eq_true rfl) ⟨Nat.le_of_ble_eq_true rfl, Nat.le_of_ble_eq_true rfl⟩ (fun v27 o25 h => ?_)
    obtain ⟨o26, eo26⟩ : ∃ y : Off, y = put o 0 13 o25 := ⟨_, rfl⟩
    have h := h o26 eo26
    rw [← eo26]
    exact g_iret hC hZ dX4_faultOf_174 ⟨_, _, rfl, rfl, h⟩
  have h := h.2 c112
  by_cases c113 : v3 = (113 : Int32)
  · have h := h.1 c113
    refine g_tableIn hC dX4_faultOf_28 (by rw [c113]; decide) (by rw [c113]; decide) (off := 204) (by rw [c113]; rfl) 232 (by decide) ?_
    refine g_aload_n hC dX4_faultOf_232 233 rfl rfl 2 rfl ?_
    refine g_get hC fl_X4_10 dX4_faultOf_233 236 rfl 0 rfl rfl ?_
    refine g_iload_n hC dX4_faultOf_236 237 rfl rfl 1 rfl ?_
    refine g_iload_n hC dX4_faultOf_237 238 rfl rfl 0 rfl ?_
    refine g_readV hC (ct_X0_settingQuota l g (A 1 0) (A 2) o v1 v2 _ h) gY_X0_settingQuota dX4_faultOf_238 241 rfl ml_X4_194 _ _ (emb_chk g A o) [] rfl rfl rfl 0 4 rfl rfl ⟨Nat.le_of_ble_eq_true rfl, Nat.le_of_ble_eq_true rfl⟩ (Nat.le_of_ble_eq_true rfl) ⟨Nat.le_of_ble_eq_true rfl, Nat.le_of_ble_eq_true rfl⟩ (fun v28 h => ?_)
    exact g_iret hC hZ dX4_faultOf_241 ⟨_, _, rfl, rfl, h⟩
  have h := h.2 c113
  by_cases c114 : v3 = (114 : Int32)
  · have h := h.1 c114
    refine g_tableIn hC dX4_faultOf_28 (by rw [c114]; decide) (by rw [c114]; decide) (off := 156) (by rw [c114]; rfl) 184 (by decide) ?_
    refine g_aload_n hC dX4_faultOf_184 185 rfl rfl 2 rfl ?_
    refine g_get hC fl_X4_10 dX4_faultOf_185 188 rfl 0 rfl rfl ?_
    refine g_iload_n hC dX4_faultOf_188 189 rfl rfl 1 rfl ?_
    refine g_iload_n hC dX4_faultOf_189 190 rfl rfl 0 rfl ?_
    refine g_subI hC (ct_X0_renewing l g (A 1 0) (A 2) o v1 v2 _ h) gY_X0_renewing dX4_faultOf_190 193 rfl ml_X4_155 (emb_chk g A o) (emb_chk1 g A o) [] rfl rfl rfl 0 4 rfl rfl ⟨Nat.le_of_ble_eq_true rfl, Nat.le_of_ble_eq_true rfl⟩ (Nat.le_of_ble_eq_true rfl) ⟨Nat.le_of_ble_eq_true rfl, Nat.le_of_ble_eq_true rfl⟩ (fun v31 o29 h => ?_)
    obtain ⟨o30, eo30⟩ : ∃ y : Off, y = put o 0 13 o29 := ⟨_, rfl⟩
    have h := h o30 eo30
    rw [← eo30]
    exact g_iret hC hZ dX4_faultOf_193 ⟨_, _, rfl, rfl, h⟩
  have h := h.2 c114
  by_cases c116 : v3 = (116 : Int32)
  · have h := h.1 c116
    refine g_tableIn hC dX4_faultOf_28 (by rw [c116]; decide) (by rw [c116]; decide) (off := 225) (by rw [c116]; rfl) 253 (by decide) ?_
    refine g_aload_n hC dX4_faultOf_253 254 rfl rfl 2 rfl ?_
    refine g_get hC fl_X4_10 dX4_faultOf_254 257 rfl 0 rfl rfl ?_
    refine g_iload_n hC dX4_faultOf_257 258 rfl rfl 1 rfl ?_
    refine g_iload_n hC dX4_faultOf_258 259 rfl rfl 0 rfl ?_
    refine g_aload_n hC dX4_faultOf_259 260 rfl rfl 2 rfl ?_
    refine g_get hC fl_X4_37 dX4_faultOf_260 263 rfl 0 rfl rfl ?_
    refine g_iload_n hC dX4_faultOf_263 264 rfl rfl 3 rfl ?_
    refine g_iconst hC (2 : Int32) dX4_faultOf_264 265 rfl iconst_2 ?_
    refine g_readV hC (ct_X1_value l g (A 5) (sh o 40) p0 (2 : Int32) _ h) gY_X1_value dX4_faultOf_265 268 rfl ml_X4_394 _ _ (emb_cmd g A o) [.int v2, .int v1, .ref (A 1 0)] rfl rfl rfl 0 5 rfl rfl ⟨Nat.le_of_ble_eq_true rfl, Nat.le_of_ble_eq_true rfl⟩ (Nat.le_of_ble_eq_true rfl) ⟨Nat.le_of_ble_eq_true rfl, Nat.le_of_ble_eq_true rfl⟩ (fun v32 h => ?_)
    refine g_i2c hC dX4_faultOf_268 269 rfl ?_
    refine g_subI hC (ct_X0_signing l g (A 1 0) (A 2) o v1 v2 (((v32).toUInt32 % 65536).toInt32) _ h) gY_X0_signing dX4_faultOf_269 272 rfl ml_X4_211 (emb_chk g A o) (emb_chk1 g A o) [] rfl rfl rfl 0 4 rfl rfl ⟨Nat.le_of_ble_eq_true rfl, Nat.le_of_ble_eq_true rfl⟩ (Nat.le_of_ble_eq_true rfl) ⟨Nat.le_of_ble_eq_true rfl, Nat.le_of_ble_eq_true rfl⟩ (fun v35 o33 h => ?_)
    obtain ⟨o34, eo34⟩ : ∃ y : Off, y = put o 0 13 o33 := ⟨_, rfl⟩
    have h := h o34 eo34
    rw [← eo34]
    exact g_iret hC hZ dX4_faultOf_272 ⟨_, _, rfl, rfl, h⟩
  have h := h.2 c116
  by_cases c117 : v3 = (117 : Int32)
  · have h := h.1 c117
    refine g_tableIn hC dX4_faultOf_28 (by rw [c117]; decide) (by rw [c117]; decide) (off := 214) (by rw [c117]; rfl) 242 (by decide) ?_
    refine g_aload_n hC dX4_faultOf_242 243 rfl rfl 2 rfl ?_
    refine g_get hC fl_X4_10 dX4_faultOf_243 246 rfl 0 rfl rfl ?_
    refine g_iload_n hC dX4_faultOf_246 247 rfl rfl 1 rfl ?_
    refine g_iload_n hC dX4_faultOf_247 248 rfl rfl 0 rfl ?_
    refine g_i2c hC dX4_faultOf_248 249 rfl ?_
    refine g_readV hC (ct_X0_banning l g (A 1 0) (A 2) o v1 (((v2).toUInt32 % 65536).toInt32) _ h) gY_X0_banning dX4_faultOf_249 252 rfl ml_X4_200 _ _ (emb_chk g A o) [] rfl rfl rfl 0 4 rfl rfl ⟨Nat.le_of_ble_eq_true rfl, Nat.le_of_ble_eq_true rfl⟩ (Nat.le_of_ble_eq_true rfl) ⟨Nat.le_of_ble_eq_true rfl, Nat.le_of_ble_eq_true rfl⟩ (fun v36 h => ?_)
    exact g_iret hC hZ dX4_faultOf_252 ⟨_, _, rfl, rfl, h⟩
  have h := h.2 c117
  by_cases c119 : v3 = (119 : Int32)
  · have h := h.1 c119
    refine g_tableIn hC dX4_faultOf_28 (by rw [c119]; decide) (by rw [c119]; decide) (off := 129) (by rw [c119]; rfl) 157 (by decide) ?_
    refine g_aload_n hC dX4_faultOf_157 158 rfl rfl 2 rfl ?_
    refine g_get hC fl_X4_10 dX4_faultOf_158 161 rfl 0 rfl rfl ?_
    refine g_iload_n hC dX4_faultOf_161 162 rfl rfl 1 rfl ?_
    refine g_subI hC (ct_X0_withdrawing l g (A 1 0) (A 2) o v1 _ h) gY_X0_withdrawing dX4_faultOf_162 165 rfl ml_X4_124 (emb_chk g A o) (emb_chk1 g A o) [] rfl rfl rfl 0 4 rfl rfl ⟨Nat.le_of_ble_eq_true rfl, Nat.le_of_ble_eq_true rfl⟩ (Nat.le_of_ble_eq_true rfl) ⟨Nat.le_of_ble_eq_true rfl, Nat.le_of_ble_eq_true rfl⟩ (fun v39 o37 h => ?_)
    obtain ⟨o38, eo38⟩ : ∃ y : Off, y = put o 0 13 o37 := ⟨_, rfl⟩
    have h := h o38 eo38
    rw [← eo38]
    exact g_iret hC hZ dX4_faultOf_165 ⟨_, _, rfl, rfl, h⟩
  have h := h.2 c119
  have hdef : G x g 4 0 0 (embW g A o) 283 [(3, .int v2), (2, .int v1), (0, .ref (A 0 0)), (1, .int p0)] [] := by
    refine g_aload_n hC dX4_faultOf_283 284 rfl rfl 2 rfl ?_
    refine g_get hC fl_X4_10 dX4_faultOf_284 287 rfl 0 rfl rfl ?_
    refine g_iload_n hC dX4_faultOf_287 288 rfl rfl 1 rfl ?_
    refine g_readV hC (ct_X0_passing l g (A 1 0) (A 2) o v1 _ h) gY_X0_passing dX4_faultOf_288 291 rfl ml_X4_239 _ _ (emb_chk g A o) [] rfl rfl rfl 0 4 rfl rfl ⟨Nat.le_of_ble_eq_true rfl, Nat.le_of_ble_eq_true rfl⟩ (Nat.le_of_ble_eq_true rfl) ⟨Nat.le_of_ble_eq_true rfl, Nat.le_of_ble_eq_true rfl⟩ (fun v40 h => ?_)
    exact g_iret hC hZ dX4_faultOf_291 ⟨_, _, rfl, rfl, h⟩
  have n97 : ¬ (v3).toInt = 97 := fun q => c97 (Int32.toInt_inj.mp q)
  have n98 : ¬ (v3).toInt = 98 := fun q => c98 (Int32.toInt_inj.mp q)
  have n100 : ¬ (v3).toInt = 100 := fun q => c100 (Int32.toInt_inj.mp q)
  have n101 : ¬ (v3).toInt = 101 := fun q => c101 (Int32.toInt_inj.mp q)
  have n106 : ¬ (v3).toInt = 106 := fun q => c106 (Int32.toInt_inj.mp q)
  have n107 : ¬ (v3).toInt = 107 := fun q => c107 (Int32.toInt_inj.mp q)
  have n108 : ¬ (v3).toInt = 108 := fun q => c108 (Int32.toInt_inj.mp q)
  have n109 : ¬ (v3).toInt = 109 := fun q => c109 (Int32.toInt_inj.mp q)
  have n110 : ¬ (v3).toInt = 110 := fun q => c110 (Int32.toInt_inj.mp q)
  have n112 : ¬ (v3).toInt = 112 := fun q => c112 (Int32.toInt_inj.mp q)
  have n113 : ¬ (v3).toInt = 113 := fun q => c113 (Int32.toInt_inj.mp q)
  have n114 : ¬ (v3).toInt = 114 := fun q => c114 (Int32.toInt_inj.mp q)
  have n116 : ¬ (v3).toInt = 116 := fun q => c116 (Int32.toInt_inj.mp q)
  have n117 : ¬ (v3).toInt = 117 := fun q => c117 (Int32.toInt_inj.mp q)
  have n119 : ¬ (v3).toInt = 119 := fun q => c119 (Int32.toInt_inj.mp q)
  by_cases hb : (v3).toInt < 97 ∨ 119 < (v3).toInt
  · exact g_tableOut hC dX4_faultOf_28 hb 283 (by decide) hdef
  · rcases (show (v3).toInt = 99 ∨ (v3).toInt = 102 ∨ (v3).toInt = 103 ∨ (v3).toInt = 104 ∨ (v3).toInt = 105 ∨ (v3).toInt = 111 ∨ (v3).toInt = 115 ∨ (v3).toInt = 118 by omega) with q | q | q | q | q | q | q | q
    · exact g_tableIn hC dX4_faultOf_28 (by omega) (by omega) (off := 255) (by rw [q]; rfl) 283 (by decide) hdef
    · exact g_tableIn hC dX4_faultOf_28 (by omega) (by omega) (off := 255) (by rw [q]; rfl) 283 (by decide) hdef
    · exact g_tableIn hC dX4_faultOf_28 (by omega) (by omega) (off := 255) (by rw [q]; rfl) 283 (by decide) hdef
    · exact g_tableIn hC dX4_faultOf_28 (by omega) (by omega) (off := 255) (by rw [q]; rfl) 283 (by decide) hdef
    · exact g_tableIn hC dX4_faultOf_28 (by omega) (by omega) (off := 255) (by rw [q]; rfl) 283 (by decide) hdef
    · exact g_tableIn hC dX4_faultOf_28 (by omega) (by omega) (off := 255) (by rw [q]; rfl) 283 (by decide) hdef
    · exact g_tableIn hC dX4_faultOf_28 (by omega) (by omega) (off := 255) (by rw [q]; rfl) 283 (by decide) hdef
    · exact g_tableIn hC dX4_faultOf_28 (by omega) (by omega) (off := 255) (by rw [q]; rfl) 283 (by decide) hdef
def wp_X4_carryOut (post : Off → Prop) (o : Off) (p0 : Int32) : Prop := wp_X1_value (fun v1 => wp_X1_value (fun v2 => wp_X1_letter (fun v3 => ((v3 = (97 : Int32) → wp_X3_file (fun v6 o4 => (∀ o5 : Off, o5 = put o 0 12 o4 → post o5)) o v1 v2) ∧ (¬ v3 = (97 : Int32) → ((v3 = (98 : Int32) → wp_X3_forbid (fun v9 o7 => (∀ o8 : Off, o8 = put o 0 12 o7 → post o8)) o v1 (((v2).toUInt32 % 65536).toInt32)) ∧ (¬ v3 = (98 : Int32) → ((v3 = (100 : Int32) → wp_X3_decideAll (fun v12 o10 => (∀ o11 : Off, o11 = put o 0 12 o10 → post o11)) o v1) ∧ (¬ v3 = (100 : Int32) → ((v3 = (101 : Int32) → wp_X3_cancel (fun v15 o13 => (∀ o14 : Off, o14 = put o 0 12 o13 → post o14)) o v1 v2) ∧ (¬ v3 = (101 : Int32) → ((v3 = (106 : Int32) → wp_X3_join (fun v18 o16 => (∀ o17 : Off, o17 = put o 0 12 o16 → post o17)) o v1 v2) ∧ (¬ v3 = (106 : Int32) → ((v3 = (107 : Int32) → wp_X3_part (fun v21 o19 => (∀ o20 : Off, o20 = put o 0 12 o19 → post o20)) o v1) ∧ (¬ v3 = (107 : Int32) → ((v3 = (108 : Int32) → wp_X3_release (fun v24 o22 => (∀ o23 : Off, o23 = put o 0 12 o22 → post o23)) o v1) ∧ (¬ v3 = (108 : Int32) → ((v3 = (109 : Int32) → wp_X3_transfer (fun v27 o25 => (∀ o26 : Off, o26 = put o 0 12 o25 → post o26)) o v1 v2) ∧ (¬ v3 = (109 : Int32) → ((v3 = (110 : Int32) → wp_X3_add (fun v30 o28 => (∀ o29 : Off, o29 = put o 0 12 o28 → post o29)) o (((v1).toUInt32 % 65536).toInt32) v2) ∧ (¬ v3 = (110 : Int32) → ((v3 = (112 : Int32) → wp_X3_raise (fun v33 o31 => (∀ o32 : Off, o32 = put o 0 12 o31 → post o32)) o v1) ∧ (¬ v3 = (112 : Int32) → ((v3 = (113 : Int32) → wp_X3_changeQuota (fun v36 o34 => (∀ o35 : Off, o35 = put o 0 12 o34 → post o35)) o v1 v2) ∧ (¬ v3 = (113 : Int32) → ((v3 = (114 : Int32) → wp_X3_extend (fun v39 o37 => (∀ o38 : Off, o38 = put o 0 12 o37 → post o38)) o v1 v2) ∧ (¬ v3 = (114 : Int32) → ((v3 = (116 : Int32) → wp_X1_value (fun v40 => wp_X3_sign (fun v43 o41 => (∀ o42 : Off, o42 = put o 0 12 o41 → post o42)) o v1 v2 (((v40).toUInt32 % 65536).toInt32)) (sh o 40) p0 (2 : Int32)) ∧ (¬ v3 = (116 : Int32) → ((v3 = (117 : Int32) → wp_X3_permit (fun v46 o44 => (∀ o45 : Off, o45 = put o 0 12 o44 → post o45)) o v1 (((v2).toUInt32 % 65536).toInt32)) ∧ (¬ v3 = (117 : Int32) → ((v3 = (119 : Int32) → wp_X3_dropApplication (fun v49 o47 => (∀ o48 : Off, o48 = put o 0 12 o47 → post o48)) o v1) ∧ (¬ v3 = (119 : Int32) → wp_X3_advance (fun v52 o50 => (∀ o51 : Off, o51 = put o 0 12 o50 → post o51)) o v1))))))))))))))))))))))))))))))) (sh o 40) p0) (sh o 40) p0 (1 : Int32)) (sh o 40) p0 (0 : Int32)
set_option maxRecDepth 100000 in
set_option maxHeartbeats 4000000 in
theorem ct_X4_carryOut (l : Launch) (g : gE) (A : Nat → Nat → Nat) (o : Off) (p0 : Int32) (post : Off → Prop) (h : wp_X4_carryOut post o p0) : Fn l g yX4_carryOut cX4_carryOut 4 none 7 160 0 0 (embW g A o) [.ref (A 0 0), .int p0] (pV (embW g A) post) := by
  refine Fn.of (by decide) (Nat.le_of_ble_eq_true rfl) (fun x hC hZ => ?_)
  rw [wp_X4_carryOut] at h
  show G x g 4 0 0 (embW g A o) 0 [(0, .ref (A 0 0)), (1, .int p0)] []
  refine g_aload_n hC dX4_carryOut_0 1 rfl rfl 0 rfl ?_
  refine g_get hC fl_X4_37 dX4_carryOut_1 4 rfl 0 rfl rfl ?_
  refine g_iload_n hC dX4_carryOut_4 5 rfl rfl 1 rfl ?_
  refine g_iconst hC (0 : Int32) dX4_carryOut_5 6 rfl iconst_0 ?_
  refine g_readV hC (ct_X1_value l g (A 5) (sh o 40) p0 (0 : Int32) _ h) gY_X1_value dX4_carryOut_6 9 rfl ml_X4_394 _ _ (emb_cmd g A o) [] rfl rfl rfl 0 5 rfl rfl ⟨Nat.le_of_ble_eq_true rfl, Nat.le_of_ble_eq_true rfl⟩ (Nat.le_of_ble_eq_true rfl) ⟨Nat.le_of_ble_eq_true rfl, Nat.le_of_ble_eq_true rfl⟩ (fun v1 h => ?_)
  refine g_istore_n (lv2 := [(2, .int v1), (0, .ref (A 0 0)), (1, .int p0)]) hC dX4_carryOut_9 10 rfl rfl (by decide) rfl ?_
  refine g_aload_n hC dX4_carryOut_10 11 rfl rfl 1 rfl ?_
  refine g_get hC fl_X4_37 dX4_carryOut_11 14 rfl 0 rfl rfl ?_
  refine g_iload_n hC dX4_carryOut_14 15 rfl rfl 2 rfl ?_
  refine g_iconst hC (1 : Int32) dX4_carryOut_15 16 rfl iconst_1 ?_
  refine g_readV hC (ct_X1_value l g (A 5) (sh o 40) p0 (1 : Int32) _ h) gY_X1_value dX4_carryOut_16 19 rfl ml_X4_394 _ _ (emb_cmd g A o) [] rfl rfl rfl 0 5 rfl rfl ⟨Nat.le_of_ble_eq_true rfl, Nat.le_of_ble_eq_true rfl⟩ (Nat.le_of_ble_eq_true rfl) ⟨Nat.le_of_ble_eq_true rfl, Nat.le_of_ble_eq_true rfl⟩ (fun v2 h => ?_)
  refine g_istore_n (lv2 := [(3, .int v2), (2, .int v1), (0, .ref (A 0 0)), (1, .int p0)]) hC dX4_carryOut_19 20 rfl rfl (by decide) rfl ?_
  refine g_aload_n hC dX4_carryOut_20 21 rfl rfl 2 rfl ?_
  refine g_get hC fl_X4_37 dX4_carryOut_21 24 rfl 0 rfl rfl ?_
  refine g_iload_n hC dX4_carryOut_24 25 rfl rfl 3 rfl ?_
  refine g_readV hC (ct_X1_letter l g (A 5) (sh o 40) p0 _ h) gY_X1_letter dX4_carryOut_25 28 rfl ml_X4_397 _ _ (emb_cmd g A o) [] rfl rfl rfl 0 5 rfl rfl ⟨Nat.le_of_ble_eq_true rfl, Nat.le_of_ble_eq_true rfl⟩ (Nat.le_of_ble_eq_true rfl) ⟨Nat.le_of_ble_eq_true rfl, Nat.le_of_ble_eq_true rfl⟩ (fun v3 h => ?_)
  by_cases c97 : v3 = (97 : Int32)
  · have h := h.1 c97
    refine g_tableIn hC dX4_carryOut_28 (by rw [c97]; decide) (by rw [c97]; decide) (off := 122) (by rw [c97]; rfl) 150 (by decide) ?_
    refine g_aload_n hC dX4_carryOut_150 151 rfl rfl 2 rfl ?_
    refine g_get hC fl_X4_20 dX4_carryOut_151 154 rfl 0 rfl rfl ?_
    refine g_iload_n hC dX4_carryOut_154 155 rfl rfl 1 rfl ?_
    refine g_iload_n hC dX4_carryOut_155 156 rfl rfl 0 rfl ?_
    refine g_subI hC (ct_X3_file l g (A 2) o v1 v2 _ h) gY_X3_file dX4_carryOut_156 159 rfl ml_X4_121 (emb_off g A o) (emb_off1 g A o) [] rfl rfl rfl 0 7 rfl rfl ⟨Nat.le_of_ble_eq_true rfl, Nat.le_of_ble_eq_true rfl⟩ (Nat.le_of_ble_eq_true rfl) ⟨Nat.le_of_ble_eq_true rfl, Nat.le_of_ble_eq_true rfl⟩ (fun v6 o4 h => ?_)
    obtain ⟨o5, eo5⟩ : ∃ y : Off, y = put o 0 12 o4 := ⟨_, rfl⟩
    have h := h o5 eo5
    rw [← eo5]
    refine g_pop hC dX4_carryOut_159 160 rfl rfl ?_
    refine g_goto hC dX4_carryOut_160 348 (by decide) ?_
    exact g_vret hC hZ dX4_carryOut_348 ⟨_, rfl, rfl, h⟩
  have h := h.2 c97
  by_cases c98 : v3 = (98 : Int32)
  · have h := h.1 c98
    refine g_tableIn hC dX4_carryOut_28 (by rw [c98]; decide) (by rw [c98]; decide) (off := 247) (by rw [c98]; rfl) 275 (by decide) ?_
    refine g_aload_n hC dX4_carryOut_275 276 rfl rfl 2 rfl ?_
    refine g_get hC fl_X4_20 dX4_carryOut_276 279 rfl 0 rfl rfl ?_
    refine g_iload_n hC dX4_carryOut_279 280 rfl rfl 1 rfl ?_
    refine g_iload_n hC dX4_carryOut_280 281 rfl rfl 0 rfl ?_
    refine g_i2c hC dX4_carryOut_281 282 rfl ?_
    refine g_subI hC (ct_X3_forbid l g (A 2) o v1 (((v2).toUInt32 % 65536).toInt32) _ h) gY_X3_forbid dX4_carryOut_282 285 rfl ml_X4_204 (emb_off g A o) (emb_off1 g A o) [] rfl rfl rfl 0 7 rfl rfl ⟨Nat.le_of_ble_eq_true rfl, Nat.le_of_ble_eq_true rfl⟩ (Nat.le_of_ble_eq_true rfl) ⟨Nat.le_of_ble_eq_true rfl, Nat.le_of_ble_eq_true rfl⟩ (fun v9 o7 h => ?_)
    obtain ⟨o8, eo8⟩ : ∃ y : Off, y = put o 0 12 o7 := ⟨_, rfl⟩
    have h := h o8 eo8
    rw [← eo8]
    refine g_pop hC dX4_carryOut_285 286 rfl rfl ?_
    refine g_goto hC dX4_carryOut_286 348 (by decide) ?_
    exact g_vret hC hZ dX4_carryOut_348 ⟨_, rfl, rfl, h⟩
  have h := h.2 c98
  by_cases c100 : v3 = (100 : Int32)
  · have h := h.1 c100
    refine g_tableIn hC dX4_carryOut_28 (by rw [c100]; decide) (by rw [c100]; decide) (off := 159) (by rw [c100]; rfl) 187 (by decide) ?_
    refine g_aload_n hC dX4_carryOut_187 188 rfl rfl 2 rfl ?_
    refine g_get hC fl_X4_20 dX4_carryOut_188 191 rfl 0 rfl rfl ?_
    refine g_iload_n hC dX4_carryOut_191 192 rfl rfl 1 rfl ?_
    refine g_subI hC (ct_X3_decideAll l g (A 2) o v1 _ h) gY_X3_decideAll dX4_carryOut_192 195 rfl ml_X4_140 (emb_off g A o) (emb_off1 g A o) [] rfl rfl rfl 0 7 rfl rfl ⟨Nat.le_of_ble_eq_true rfl, Nat.le_of_ble_eq_true rfl⟩ (Nat.le_of_ble_eq_true rfl) ⟨Nat.le_of_ble_eq_true rfl, Nat.le_of_ble_eq_true rfl⟩ (fun v12 o10 h => ?_)
    obtain ⟨o11, eo11⟩ : ∃ y : Off, y = put o 0 12 o10 := ⟨_, rfl⟩
    have h := h o11 eo11
    rw [← eo11]
    refine g_pop hC dX4_carryOut_195 196 rfl rfl ?_
    refine g_goto hC dX4_carryOut_196 348 (by decide) ?_
    exact g_vret hC hZ dX4_carryOut_348 ⟨_, rfl, rfl, h⟩
  have h := h.2 c100
  by_cases c101 : v3 = (101 : Int32)
  · have h := h.1 c101
    refine g_tableIn hC dX4_carryOut_28 (by rw [c101]; decide) (by rw [c101]; decide) (off := 298) (by rw [c101]; rfl) 326 (by decide) ?_
    refine g_aload_n hC dX4_carryOut_326 327 rfl rfl 2 rfl ?_
    refine g_get hC fl_X4_20 dX4_carryOut_327 330 rfl 0 rfl rfl ?_
    refine g_iload_n hC dX4_carryOut_330 331 rfl rfl 1 rfl ?_
    refine g_iload_n hC dX4_carryOut_331 332 rfl rfl 0 rfl ?_
    refine g_subI hC (ct_X3_cancel l g (A 2) o v1 v2 _ h) gY_X3_cancel dX4_carryOut_332 335 rfl ml_X4_221 (emb_off g A o) (emb_off1 g A o) [] rfl rfl rfl 0 7 rfl rfl ⟨Nat.le_of_ble_eq_true rfl, Nat.le_of_ble_eq_true rfl⟩ (Nat.le_of_ble_eq_true rfl) ⟨Nat.le_of_ble_eq_true rfl, Nat.le_of_ble_eq_true rfl⟩ (fun v15 o13 h => ?_)
    obtain ⟨o14, eo14⟩ : ∃ y : Off, y = put o 0 12 o13 := ⟨_, rfl⟩
    have h := h o14 eo14
    rw [← eo14]
    refine g_pop hC dX4_carryOut_335 336 rfl rfl ?_
    refine g_goto hC dX4_carryOut_336 348 (by decide) ?_
    exact g_vret hC hZ dX4_carryOut_348 ⟨_, rfl, rfl, h⟩
  have h := h.2 c101
  by_cases c106 : v3 = (106 : Int32)
  · have h := h.1 c106
    refine g_tableIn hC dX4_carryOut_28 (by rw [c106]; decide) (by rw [c106]; decide) (off := 209) (by rw [c106]; rfl) 237 (by decide) ?_
    refine g_aload_n hC dX4_carryOut_237 238 rfl rfl 2 rfl ?_
    refine g_get hC fl_X4_20 dX4_carryOut_238 241 rfl 0 rfl rfl ?_
    refine g_iload_n hC dX4_carryOut_241 242 rfl rfl 1 rfl ?_
    refine g_iload_n hC dX4_carryOut_242 243 rfl rfl 0 rfl ?_
    refine g_subI hC (ct_X3_join l g (A 2) o v1 v2 _ h) gY_X3_join dX4_carryOut_243 246 rfl ml_X4_176 (emb_off g A o) (emb_off1 g A o) [] rfl rfl rfl 0 7 rfl rfl ⟨Nat.le_of_ble_eq_true rfl, Nat.le_of_ble_eq_true rfl⟩ (Nat.le_of_ble_eq_true rfl) ⟨Nat.le_of_ble_eq_true rfl, Nat.le_of_ble_eq_true rfl⟩ (fun v18 o16 h => ?_)
    obtain ⟨o17, eo17⟩ : ∃ y : Off, y = put o 0 12 o16 := ⟨_, rfl⟩
    have h := h o17 eo17
    rw [← eo17]
    refine g_pop hC dX4_carryOut_246 247 rfl rfl ?_
    refine g_goto hC dX4_carryOut_247 348 (by decide) ?_
    exact g_vret hC hZ dX4_carryOut_348 ⟨_, rfl, rfl, h⟩
  have h := h.2 c106
  by_cases c107 : v3 = (107 : Int32)
  · have h := h.1 c107
    refine g_tableIn hC dX4_carryOut_28 (by rw [c107]; decide) (by rw [c107]; decide) (off := 222) (by rw [c107]; rfl) 250 (by decide) ?_
    refine g_aload_n hC dX4_carryOut_250 251 rfl rfl 2 rfl ?_
    refine g_get hC fl_X4_20 dX4_carryOut_251 254 rfl 0 rfl rfl ?_
    refine g_iload_n hC dX4_carryOut_254 255 rfl rfl 1 rfl ?_
    refine g_subI hC (ct_X3_part l g (A 2) o v1 _ h) gY_X3_part dX4_carryOut_255 258 rfl ml_X4_182 (emb_off g A o) (emb_off1 g A o) [] rfl rfl rfl 0 7 rfl rfl ⟨Nat.le_of_ble_eq_true rfl, Nat.le_of_ble_eq_true rfl⟩ (Nat.le_of_ble_eq_true rfl) ⟨Nat.le_of_ble_eq_true rfl, Nat.le_of_ble_eq_true rfl⟩ (fun v21 o19 h => ?_)
    obtain ⟨o20, eo20⟩ : ∃ y : Off, y = put o 0 12 o19 := ⟨_, rfl⟩
    have h := h o20 eo20
    rw [← eo20]
    refine g_pop hC dX4_carryOut_258 259 rfl rfl ?_
    refine g_goto hC dX4_carryOut_259 348 (by decide) ?_
    exact g_vret hC hZ dX4_carryOut_348 ⟨_, rfl, rfl, h⟩
  have h := h.2 c107
  by_cases c108 : v3 = (108 : Int32)
  · have h := h.1 c108
    refine g_tableIn hC dX4_carryOut_28 (by rw [c108]; decide) (by rw [c108]; decide) (off := 184) (by rw [c108]; rfl) 212 (by decide) ?_
    refine g_aload_n hC dX4_carryOut_212 213 rfl rfl 2 rfl ?_
    refine g_get hC fl_X4_20 dX4_carryOut_213 216 rfl 0 rfl rfl ?_
    refine g_iload_n hC dX4_carryOut_216 217 rfl rfl 1 rfl ?_
    refine g_subI hC (ct_X3_release l g (A 2) o v1 _ h) gY_X3_release dX4_carryOut_217 220 rfl ml_X4_164 (emb_off g A o) (emb_off1 g A o) [] rfl rfl rfl 0 7 rfl rfl ⟨Nat.le_of_ble_eq_true rfl, Nat.le_of_ble_eq_true rfl⟩ (Nat.le_of_ble_eq_true rfl) ⟨Nat.le_of_ble_eq_true rfl, Nat.le_of_ble_eq_true rfl⟩ (fun v24 o22 h => ?_)
    obtain ⟨o23, eo23⟩ : ∃ y : Off, y = put o 0 12 o22 := ⟨_, rfl⟩
    have h := h o23 eo23
    rw [← eo23]
    refine g_pop hC dX4_carryOut_220 221 rfl rfl ?_
    refine g_goto hC dX4_carryOut_221 348 (by decide) ?_
    exact g_vret hC hZ dX4_carryOut_348 ⟨_, rfl, rfl, h⟩
  have h := h.2 c108
  by_cases c109 : v3 = (109 : Int32)
  · have h := h.1 c109
    refine g_tableIn hC dX4_carryOut_28 (by rw [c109]; decide) (by rw [c109]; decide) (off := 196) (by rw [c109]; rfl) 224 (by decide) ?_
    refine g_aload_n hC dX4_carryOut_224 225 rfl rfl 2 rfl ?_
    refine g_get hC fl_X4_20 dX4_carryOut_225 228 rfl 0 rfl rfl ?_
    refine g_iload_n hC dX4_carryOut_228 229 rfl rfl 1 rfl ?_
    refine g_iload_n hC dX4_carryOut_229 230 rfl rfl 0 rfl ?_
    refine g_subI hC (ct_X3_transfer l g (A 2) o v1 v2 _ h) gY_X3_transfer dX4_carryOut_230 233 rfl ml_X4_170 (emb_off g A o) (emb_off1 g A o) [] rfl rfl rfl 0 7 rfl rfl ⟨Nat.le_of_ble_eq_true rfl, Nat.le_of_ble_eq_true rfl⟩ (Nat.le_of_ble_eq_true rfl) ⟨Nat.le_of_ble_eq_true rfl, Nat.le_of_ble_eq_true rfl⟩ (fun v27 o25 h => ?_)
    obtain ⟨o26, eo26⟩ : ∃ y : Off, y = put o 0 12 o25 := ⟨_, rfl⟩
    have h := h o26 eo26
    rw [← eo26]
    refine g_pop hC dX4_carryOut_233 234 rfl rfl ?_
    refine g_goto hC dX4_carryOut_234 348 (by decide) ?_
    exact g_vret hC hZ dX4_carryOut_348 ⟨_, rfl, rfl, h⟩
  have h := h.2 c109
  by_cases c110 : v3 = (110 : Int32)
  · have h := h.1 c110
    refine g_tableIn hC dX4_carryOut_28 (by rw [c110]; decide) (by rw [c110]; decide) (off := 108) (by rw [c110]; rfl) 136 (by decide) ?_
    refine g_aload_n hC dX4_carryOut_136 137 rfl rfl 2 rfl ?_
    refine g_get hC fl_X4_20 dX4_carryOut_137 140 rfl 0 rfl rfl ?_
    refine g_iload_n hC dX4_carryOut_140 141 rfl rfl 1 rfl ?_
    refine g_i2c hC dX4_carryOut_141 142 rfl ?_
    refine g_iload_n hC dX4_carryOut_142 143 rfl rfl 0 rfl ?_
    refine g_subI hC (ct_X3_add l g (A 2) o (((v1).toUInt32 % 65536).toInt32) v2 _ h) gY_X3_add dX4_carryOut_143 146 rfl ml_X4_73 (emb_off g A o) (emb_off1 g A o) [] rfl rfl rfl 0 7 rfl rfl ⟨Nat.le_of_ble_eq_true rfl, Nat.le_of_ble_eq_true rfl⟩ (Nat.le_of_ble_eq_true rfl) ⟨Nat.le_of_ble_eq_true rfl, Nat.le_of_ble_eq_true rfl⟩ (fun v30 o28 h => ?_)
    obtain ⟨o29, eo29⟩ : ∃ y : Off, y = put o 0 12 o28 := ⟨_, rfl⟩
    have h := h o29 eo29
    rw [← eo29]
    refine g_pop hC dX4_carryOut_146 147 rfl rfl ?_
    refine g_goto hC dX4_carryOut_147 348 (by decide) ?_
    exact g_vret hC hZ dX4_carryOut_348 ⟨_, rfl, rfl, h⟩
  have h := h.2 c110
  by_cases c112 : v3 = (112 : Int32)
  · have h := h.1 c112
    refine g_tableIn hC dX4_carryOut_28 (by rw [c112]; decide) (by rw [c112]; decide) (off := 147) (by rw [c112]; rfl) 175 (by decide) ?_
    refine g_aload_n hC dX4_carryOut_175 176 rfl rfl 2 rfl ?_
    refine g_get hC fl_X4_20 dX4_carryOut_176 179 rfl 0 rfl rfl ?_
    refine g_iload_n hC dX4_carryOut_179 180 rfl rfl 1 rfl ?_
    refine g_subI hC (ct_X3_raise l g (A 2) o v1 _ h) gY_X3_raise dX4_carryOut_180 183 rfl ml_X4_134 (emb_off g A o) (emb_off1 g A o) [] rfl rfl rfl 0 7 rfl rfl ⟨Nat.le_of_ble_eq_true rfl, Nat.le_of_ble_eq_true rfl⟩ (Nat.le_of_ble_eq_true rfl) ⟨Nat.le_of_ble_eq_true rfl, Nat.le_of_ble_eq_true rfl⟩ (fun v33 o31 h => ?_)
    obtain ⟨o32, eo32⟩ : ∃ y : Off, y = put o 0 12 o31 := ⟨_, rfl⟩
    have h := h o32 eo32
    rw [← eo32]
    refine g_pop hC dX4_carryOut_183 184 rfl rfl ?_
    refine g_goto hC dX4_carryOut_184 348 (by decide) ?_
    exact g_vret hC hZ dX4_carryOut_348 ⟨_, rfl, rfl, h⟩
  have h := h.2 c112
  by_cases c113 : v3 = (113 : Int32)
  · have h := h.1 c113
    refine g_tableIn hC dX4_carryOut_28 (by rw [c113]; decide) (by rw [c113]; decide) (off := 234) (by rw [c113]; rfl) 262 (by decide) ?_
    refine g_aload_n hC dX4_carryOut_262 263 rfl rfl 2 rfl ?_
    refine g_get hC fl_X4_20 dX4_carryOut_263 266 rfl 0 rfl rfl ?_
    refine g_iload_n hC dX4_carryOut_266 267 rfl rfl 1 rfl ?_
    refine g_iload_n hC dX4_carryOut_267 268 rfl rfl 0 rfl ?_
    refine g_subI hC (ct_X3_changeQuota l g (A 2) o v1 v2 _ h) gY_X3_changeQuota dX4_carryOut_268 271 rfl ml_X4_197 (emb_off g A o) (emb_off1 g A o) [] rfl rfl rfl 0 7 rfl rfl ⟨Nat.le_of_ble_eq_true rfl, Nat.le_of_ble_eq_true rfl⟩ (Nat.le_of_ble_eq_true rfl) ⟨Nat.le_of_ble_eq_true rfl, Nat.le_of_ble_eq_true rfl⟩ (fun v36 o34 h => ?_)
    obtain ⟨o35, eo35⟩ : ∃ y : Off, y = put o 0 12 o34 := ⟨_, rfl⟩
    have h := h o35 eo35
    rw [← eo35]
    refine g_pop hC dX4_carryOut_271 272 rfl rfl ?_
    refine g_goto hC dX4_carryOut_272 348 (by decide) ?_
    exact g_vret hC hZ dX4_carryOut_348 ⟨_, rfl, rfl, h⟩
  have h := h.2 c113
  by_cases c114 : v3 = (114 : Int32)
  · have h := h.1 c114
    refine g_tableIn hC dX4_carryOut_28 (by rw [c114]; decide) (by rw [c114]; decide) (off := 171) (by rw [c114]; rfl) 199 (by decide) ?_
    refine g_aload_n hC dX4_carryOut_199 200 rfl rfl 2 rfl ?_
    refine g_get hC fl_X4_20 dX4_carryOut_200 203 rfl 0 rfl rfl ?_
    refine g_iload_n hC dX4_carryOut_203 204 rfl rfl 1 rfl ?_
    refine g_iload_n hC dX4_carryOut_204 205 rfl rfl 0 rfl ?_
    refine g_subI hC (ct_X3_extend l g (A 2) o v1 v2 _ h) gY_X3_extend dX4_carryOut_205 208 rfl ml_X4_158 (emb_off g A o) (emb_off1 g A o) [] rfl rfl rfl 0 7 rfl rfl ⟨Nat.le_of_ble_eq_true rfl, Nat.le_of_ble_eq_true rfl⟩ (Nat.le_of_ble_eq_true rfl) ⟨Nat.le_of_ble_eq_true rfl, Nat.le_of_ble_eq_true rfl⟩ (fun v39 o37 h => ?_)
    obtain ⟨o38, eo38⟩ : ∃ y : Off, y = put o 0 12 o37 := ⟨_, rfl⟩
    have h := h o38 eo38
    rw [← eo38]
    refine g_pop hC dX4_carryOut_208 209 rfl rfl ?_
    refine g_goto hC dX4_carryOut_209 348 (by decide) ?_
    exact g_vret hC hZ dX4_carryOut_348 ⟨_, rfl, rfl, h⟩
  have h := h.2 c114
  by_cases c116 : v3 = (116 : Int32)
  · have h := h.1 c116
    refine g_tableIn hC dX4_carryOut_28 (by rw [c116]; decide) (by rw [c116]; decide) (off := 275) (by rw [c116]; rfl) 303 (by decide) ?_
    refine g_aload_n hC dX4_carryOut_303 304 rfl rfl 2 rfl ?_
    refine g_get hC fl_X4_20 dX4_carryOut_304 307 rfl 0 rfl rfl ?_
    refine g_iload_n hC dX4_carryOut_307 308 rfl rfl 1 rfl ?_
    refine g_iload_n hC dX4_carryOut_308 309 rfl rfl 0 rfl ?_
    refine g_aload_n hC dX4_carryOut_309 310 rfl rfl 2 rfl ?_
    refine g_get hC fl_X4_37 dX4_carryOut_310 313 rfl 0 rfl rfl ?_
    refine g_iload_n hC dX4_carryOut_313 314 rfl rfl 3 rfl ?_
    refine g_iconst hC (2 : Int32) dX4_carryOut_314 315 rfl iconst_2 ?_
    refine g_readV hC (ct_X1_value l g (A 5) (sh o 40) p0 (2 : Int32) _ h) gY_X1_value dX4_carryOut_315 318 rfl ml_X4_394 _ _ (emb_cmd g A o) [.int v2, .int v1, .ref (A 2 0)] rfl rfl rfl 0 5 rfl rfl ⟨Nat.le_of_ble_eq_true rfl, Nat.le_of_ble_eq_true rfl⟩ (Nat.le_of_ble_eq_true rfl) ⟨Nat.le_of_ble_eq_true rfl, Nat.le_of_ble_eq_true rfl⟩ (fun v40 h => ?_)
    refine g_i2c hC dX4_carryOut_318 319 rfl ?_
    refine g_subI hC (ct_X3_sign l g (A 2) o v1 v2 (((v40).toUInt32 % 65536).toInt32) _ h) gY_X3_sign dX4_carryOut_319 322 rfl ml_X4_215 (emb_off g A o) (emb_off1 g A o) [] rfl rfl rfl 0 7 rfl rfl ⟨Nat.le_of_ble_eq_true rfl, Nat.le_of_ble_eq_true rfl⟩ (Nat.le_of_ble_eq_true rfl) ⟨Nat.le_of_ble_eq_true rfl, Nat.le_of_ble_eq_true rfl⟩ (fun v43 o41 h => ?_)
    obtain ⟨o42, eo42⟩ : ∃ y : Off, y = put o 0 12 o41 := ⟨_, rfl⟩
    have h := h o42 eo42
    rw [← eo42]
    refine g_pop hC dX4_carryOut_322 323 rfl rfl ?_
    refine g_goto hC dX4_carryOut_323 348 (by decide) ?_
    exact g_vret hC hZ dX4_carryOut_348 ⟨_, rfl, rfl, h⟩
  have h := h.2 c116
  by_cases c117 : v3 = (117 : Int32)
  · have h := h.1 c117
    refine g_tableIn hC dX4_carryOut_28 (by rw [c117]; decide) (by rw [c117]; decide) (off := 261) (by rw [c117]; rfl) 289 (by decide) ?_
    refine g_aload_n hC dX4_carryOut_289 290 rfl rfl 2 rfl ?_
    refine g_get hC fl_X4_20 dX4_carryOut_290 293 rfl 0 rfl rfl ?_
    refine g_iload_n hC dX4_carryOut_293 294 rfl rfl 1 rfl ?_
    refine g_iload_n hC dX4_carryOut_294 295 rfl rfl 0 rfl ?_
    refine g_i2c hC dX4_carryOut_295 296 rfl ?_
    refine g_subI hC (ct_X3_permit l g (A 2) o v1 (((v2).toUInt32 % 65536).toInt32) _ h) gY_X3_permit dX4_carryOut_296 299 rfl ml_X4_208 (emb_off g A o) (emb_off1 g A o) [] rfl rfl rfl 0 7 rfl rfl ⟨Nat.le_of_ble_eq_true rfl, Nat.le_of_ble_eq_true rfl⟩ (Nat.le_of_ble_eq_true rfl) ⟨Nat.le_of_ble_eq_true rfl, Nat.le_of_ble_eq_true rfl⟩ (fun v46 o44 h => ?_)
    obtain ⟨o45, eo45⟩ : ∃ y : Off, y = put o 0 12 o44 := ⟨_, rfl⟩
    have h := h o45 eo45
    rw [← eo45]
    refine g_pop hC dX4_carryOut_299 300 rfl rfl ?_
    refine g_goto hC dX4_carryOut_300 348 (by decide) ?_
    exact g_vret hC hZ dX4_carryOut_348 ⟨_, rfl, rfl, h⟩
  have h := h.2 c117
  by_cases c119 : v3 = (119 : Int32)
  · have h := h.1 c119
    refine g_tableIn hC dX4_carryOut_28 (by rw [c119]; decide) (by rw [c119]; decide) (off := 135) (by rw [c119]; rfl) 163 (by decide) ?_
    refine g_aload_n hC dX4_carryOut_163 164 rfl rfl 2 rfl ?_
    refine g_get hC fl_X4_20 dX4_carryOut_164 167 rfl 0 rfl rfl ?_
    refine g_iload_n hC dX4_carryOut_167 168 rfl rfl 1 rfl ?_
    refine g_subI hC (ct_X3_dropApplication l g (A 2) o v1 _ h) gY_X3_dropApplication dX4_carryOut_168 171 rfl ml_X4_128 (emb_off g A o) (emb_off1 g A o) [] rfl rfl rfl 0 7 rfl rfl ⟨Nat.le_of_ble_eq_true rfl, Nat.le_of_ble_eq_true rfl⟩ (Nat.le_of_ble_eq_true rfl) ⟨Nat.le_of_ble_eq_true rfl, Nat.le_of_ble_eq_true rfl⟩ (fun v49 o47 h => ?_)
    obtain ⟨o48, eo48⟩ : ∃ y : Off, y = put o 0 12 o47 := ⟨_, rfl⟩
    have h := h o48 eo48
    rw [← eo48]
    refine g_pop hC dX4_carryOut_171 172 rfl rfl ?_
    refine g_goto hC dX4_carryOut_172 348 (by decide) ?_
    exact g_vret hC hZ dX4_carryOut_348 ⟨_, rfl, rfl, h⟩
  have h := h.2 c119
  have hdef : G x g 4 0 0 (embW g A o) 339 [(3, .int v2), (2, .int v1), (0, .ref (A 0 0)), (1, .int p0)] [] := by
    refine g_aload_n hC dX4_carryOut_339 340 rfl rfl 2 rfl ?_
    refine g_get hC fl_X4_20 dX4_carryOut_340 343 rfl 0 rfl rfl ?_
    refine g_iload_n hC dX4_carryOut_343 344 rfl rfl 1 rfl ?_
    refine g_subI hC (ct_X3_advance l g (A 2) o v1 _ h) gY_X3_advance dX4_carryOut_344 347 rfl ml_X4_242 (emb_off g A o) (emb_off1 g A o) [] rfl rfl rfl 0 7 rfl rfl ⟨Nat.le_of_ble_eq_true rfl, Nat.le_of_ble_eq_true rfl⟩ (Nat.le_of_ble_eq_true rfl) ⟨Nat.le_of_ble_eq_true rfl, Nat.le_of_ble_eq_true rfl⟩ (fun v52 o50 h => ?_)
    obtain ⟨o51, eo51⟩ : ∃ y : Off, y = put o 0 12 o50 := ⟨_, rfl⟩
    have h := h o51 eo51
    rw [← eo51]
    refine g_pop hC dX4_carryOut_347 348 rfl rfl ?_
    exact g_vret hC hZ dX4_carryOut_348 ⟨_, rfl, rfl, h⟩
  have n97 : ¬ (v3).toInt = 97 := fun q => c97 (Int32.toInt_inj.mp q)
  have n98 : ¬ (v3).toInt = 98 := fun q => c98 (Int32.toInt_inj.mp q)
  have n100 : ¬ (v3).toInt = 100 := fun q => c100 (Int32.toInt_inj.mp q)
  have n101 : ¬ (v3).toInt = 101 := fun q => c101 (Int32.toInt_inj.mp q)
  have n106 : ¬ (v3).toInt = 106 := fun q => c106 (Int32.toInt_inj.mp q)
  have n107 : ¬ (v3).toInt = 107 := fun q => c107 (Int32.toInt_inj.mp q)
  have n108 : ¬ (v3).toInt = 108 := fun q => c108 (Int32.toInt_inj.mp q)
  have n109 : ¬ (v3).toInt = 109 := fun q => c109 (Int32.toInt_inj.mp q)
  have n110 : ¬ (v3).toInt = 110 := fun q => c110 (Int32.toInt_inj.mp q)
  have n112 : ¬ (v3).toInt = 112 := fun q => c112 (Int32.toInt_inj.mp q)
  have n113 : ¬ (v3).toInt = 113 := fun q => c113 (Int32.toInt_inj.mp q)
  have n114 : ¬ (v3).toInt = 114 := fun q => c114 (Int32.toInt_inj.mp q)
  have n116 : ¬ (v3).toInt = 116 := fun q => c116 (Int32.toInt_inj.mp q)
  have n117 : ¬ (v3).toInt = 117 := fun q => c117 (Int32.toInt_inj.mp q)
  have n119 : ¬ (v3).toInt = 119 := fun q => c119 (Int32.toInt_inj.mp q)
  by_cases hb : (v3).toInt < 97 ∨ 119 < (v3).toInt
  · exact g_tableOut hC dX4_carryOut_28 hb 339 (by decide) hdef
  · rcases (show (v3).toInt = 99 ∨ (v3).toInt = 102 ∨ (v3).toInt = 103 ∨ (v3).toInt = 104 ∨ (v3).toInt = 105 ∨ (v3).toInt = 111 ∨ (v3).toInt = 115 ∨ (v3).toInt = 118 by omega) with q | q | q | q | q | q | q | q
    · exact g_tableIn hC dX4_carryOut_28 (by omega) (by omega) (off := 311) (by rw [q]; rfl) 339 (by decide) hdef
    · exact g_tableIn hC dX4_carryOut_28 (by omega) (by omega) (off := 311) (by rw [q]; rfl) 339 (by decide) hdef
    · exact g_tableIn hC dX4_carryOut_28 (by omega) (by omega) (off := 311) (by rw [q]; rfl) 339 (by decide) hdef
    · exact g_tableIn hC dX4_carryOut_28 (by omega) (by omega) (off := 311) (by rw [q]; rfl) 339 (by decide) hdef
    · exact g_tableIn hC dX4_carryOut_28 (by omega) (by omega) (off := 311) (by rw [q]; rfl) 339 (by decide) hdef
    · exact g_tableIn hC dX4_carryOut_28 (by omega) (by omega) (off := 311) (by rw [q]; rfl) 339 (by decide) hdef
    · exact g_tableIn hC dX4_carryOut_28 (by omega) (by omega) (off := 311) (by rw [q]; rfl) 339 (by decide) hdef
    · exact g_tableIn hC dX4_carryOut_28 (by omega) (by omega) (off := 311) (by rw [q]; rfl) 339 (by decide) hdef
def wl_X4_carryOutCommands_2 (post : Int32 → Off → Prop) : Nat → Off → Int32 → Prop
  | 0, _, _ => False
  | n + 1, o, x1 => (((o 40 4) ≤ x1 → post (o 40 4) o) ∧ (¬ (o 40 4) ≤ x1 → wp_X4_faultOf (fun v2 o1 => ((v2 = 0 → wp_X4_carryOut (fun o3 => (∀ v4 : Int32, v4 = x1 + (1 : Int32) → wl_X4_carryOutCommands_2 post n o3 v4)) o1 x1) ∧ (¬ v2 = 0 → post x1 o1))) o x1))
def wp_X4_carryOutCommands (post : Int32 → Off → Prop) (o : Off) : Prop := (∃ m : Nat, wl_X4_carryOutCommands_2 post m o (0 : Int32))
set_option maxRecDepth 100000 in
set_option maxHeartbeats 4000000 in
theorem lp_X4_carryOutCommands_2 {x : gX} {l : Launch} {g : gE} {A : Nat → Nat → Nat} {o0 : Off} {post : Int32 → Off → Prop} (hC : gC x l cX4_carryOutCommands 2 RX4 g 8 184 0 0) (hZ : gZ x g (some .int) (embW g A o0) (pI (embW g A) post) 0 0) : ∀ (n : Nat) (o : Off) (x1 : Int32) , wl_X4_carryOutCommands_2 post n o x1 → G x g 2 0 0 (embW g A o) 2 [(0, .ref (A 0 0)), (1, .int x1)] [] := by
  intro n
  induction n with
  | zero =>
    intro o x1 h
    exact h.elim
  | succ n ih =>
    intro o x1 h
    rw [wl_X4_carryOutCommands_2] at h
    refine g_iload_n hC dX4_carryOutCommands_2 3 rfl rfl 1 rfl ?_
    refine g_aload_n hC dX4_carryOutCommands_3 4 rfl rfl 0 rfl ?_
    refine g_get hC fl_X4_37 dX4_carryOutCommands_4 7 rfl 0 rfl rfl ?_
    refine g_get hC fl_X4_325 dX4_carryOutCommands_7 10 rfl 1 rfl rfl ?_
    refine g_icmp_ge hC dX4_carryOutCommands_10 34 (by decide) 13 rfl (fun c => ?_) (fun c => ?_)
    · have h := h.1 c
      refine g_aload_n hC dX4_carryOutCommands_34 35 rfl rfl 0 rfl ?_
      refine g_get hC fl_X4_37 dX4_carryOutCommands_35 38 rfl 0 rfl rfl ?_
      refine g_get hC fl_X4_325 dX4_carryOutCommands_38 41 rfl 1 rfl rfl ?_
      exact g_iret hC hZ dX4_carryOutCommands_41 ⟨_, _, rfl, rfl, h⟩
    · have h := h.2 c
      refine g_aload_n hC dX4_carryOutCommands_13 14 rfl rfl 0 rfl ?_
      refine g_iload_n hC dX4_carryOutCommands_14 15 rfl rfl 1 rfl ?_
      refine g_ownI hC (ct_X4_faultOf l g A o x1 _ h) gY_X4_faultOf dX4_carryOutCommands_15 18 rfl ml_X4_326 [] rfl rfl rfl 0 8 rfl rfl ⟨Nat.le_of_ble_eq_true rfl, Nat.le_of_ble_eq_true rfl⟩ (Nat.le_of_ble_eq_true rfl) ⟨Nat.le_of_ble_eq_true rfl, Nat.le_of_ble_eq_true rfl⟩ (fun v2 o1 h => ?_)
      refine g_if_eq hC dX4_carryOutCommands_18 23 (by decide) 21 rfl (fun c => ?_) (fun c => ?_)
      · have h := h.1 c
        refine g_aload_n hC dX4_carryOutCommands_23 24 rfl rfl 0 rfl ?_
        refine g_iload_n hC dX4_carryOutCommands_24 25 rfl rfl 1 rfl ?_
        refine g_ownV hC (ct_X4_carryOut l g A o1 x1 _ h) gY_X4_carryOut dX4_carryOutCommands_25 28 rfl ml_X4_391 [] rfl rfl rfl 0 8 rfl rfl ⟨Nat.le_of_ble_eq_true rfl, Nat.le_of_ble_eq_true rfl⟩ (Nat.le_of_ble_eq_true rfl) ⟨Nat.le_of_ble_eq_true rfl, Nat.le_of_ble_eq_true rfl⟩ (fun o3 h => ?_)
        obtain ⟨v4, ev4⟩ : ∃ y : Int32, y = x1 + (1 : Int32) := ⟨_, rfl⟩
        have h := h v4 ev4
        refine g_iinc (v2 := v4) (lv2 := [(1, .int v4), (0, .ref (A 0 0))]) hC dX4_carryOutCommands_28 31 rfl 1 rfl (by rw [iconst_1, ev4]) (by decide) rfl ?_
        refine g_goto hC dX4_carryOutCommands_31 2 (by decide) ?_
        refine g_lv (lv2 := [(0, .ref (A 0 0)), (1, .int v4)]) [1, 0] rfl ?_
        exact ih o3 v4 h
      · have h := h.2 c
        refine g_iload_n hC dX4_carryOutCommands_21 22 rfl rfl 1 rfl ?_
        exact g_iret hC hZ dX4_carryOutCommands_22 ⟨_, _, rfl, rfl, h⟩
set_option maxRecDepth 100000 in
set_option maxHeartbeats 4000000 in
theorem ct_X4_carryOutCommands (l : Launch) (g : gE) (A : Nat → Nat → Nat) (o : Off) (post : Int32 → Off → Prop) (h : wp_X4_carryOutCommands post o ) : Fn l g yX4_carryOutCommands cX4_carryOutCommands 2 (some .int) 8 184 0 0 (embW g A o) [.ref (A 0 0)] (pI (embW g A) post) := by
  refine Fn.of (by decide) (Nat.le_of_ble_eq_true rfl) (fun x hC hZ => ?_)
  rw [wp_X4_carryOutCommands] at h
  show G x g 2 0 0 (embW g A o) 0 [(0, .ref (A 0 0))] []
  refine g_iconst hC (0 : Int32) dX4_carryOutCommands_0 1 rfl iconst_0 ?_
  refine g_istore_n (lv2 := [(1, .int (0 : Int32)), (0, .ref (A 0 0))]) hC dX4_carryOutCommands_1 2 rfl rfl (by decide) rfl ?_
  refine g_lv (lv2 := [(0, .ref (A 0 0)), (1, .int (0 : Int32))]) [1, 0] rfl ?_
  obtain ⟨m, h⟩ := h
  exact lp_X4_carryOutCommands_2 hC hZ m o (0 : Int32) h
def wj_X4_execute_97 (post : Int32 → Off → Prop) (px : Nat → Off → Prop) (o : Off) (x2 : Int32) : Prop := (∃ i9 : Nat, i9 < 8 ∧ o 60 2 = nI i9 ∧ (∀ o8 : Off, o8 = keepH o (sh o 20) i9 → post x2 o8))
def wj_X4_execute_86 (post : Int32 → Off → Prop) (px : Nat → Off → Prop) (o : Off) (x2 : Int32) (x3 : Int32) (s0 : Int32) : Prop := wp_X4_requireState (fun o13 => wp_X4_reject (fun o14 => wj_X4_execute_97 post px o14 x2) px o13 (17 : Int32) x2 x3) px o s0
def wj_X4_execute_29 (post : Int32 → Off → Prop) (px : Nat → Off → Prop) (o : Off) (s0 : Int32) : Prop := wp_X4_requireArgument (fun o4 => (∀ o5 : Off, o5 = put o4 20 12 o4 → wp_X4_carryOutCommands (fun v7 o6 => (((o6 40 4) ≤ v7 → wj_X4_execute_97 post px o6 v7) ∧ (¬ (o6 40 4) ≤ v7 → wp_X4_faultOf (fun v11 o10 => (∀ o12 : Off, o12 = put o10 0 12 (sh o10 20) → ((v11 ≤ 0 → wj_X4_execute_86 post px o12 v7 v11 (0 : Int32)) ∧ (¬ v11 ≤ 0 → wj_X4_execute_86 post px o12 v7 v11 (1 : Int32))))) o6 v7))) o5 )) px o s0
def wj_X4_execute_18 (post : Int32 → Off → Prop) (px : Nat → Off → Prop) (o : Off) (x1 : Int32) : Prop := ((¬ x1 = (-1 : Int32) → wj_X4_execute_29 post px o (0 : Int32)) ∧ (x1 = (-1 : Int32) → wj_X4_execute_29 post px o (1 : Int32)))
def wp_X4_execute (post : Int32 → Off → Prop) (px : Nat → Off → Prop) (o : Off) : Prop := wp_X1_read (fun v3 o1 => (∀ o2 : Off, o2 = put o 40 4 o1 → ((v3 = (-1 : Int32) → wj_X4_execute_18 post px o2 v3) ∧ (¬ v3 = (-1 : Int32) → (∀ o15 : Off, o15 = st o2 13 9 v3 → wj_X4_execute_18 post px o15 v3))))) (sh o 40) 
set_option maxRecDepth 100000 in
set_option maxHeartbeats 4000000 in
theorem jn_X4_execute_97 {x : gX} {l : Launch} {g : gE} {A : Nat → Nat → Nat} {o0 : Off} {post : Int32 → Off → Prop} {px : Nat → Off → Prop} (hC : gC x l cX4_execute 4 RX4 g 9 363 3 18) (hZ : gZX x g (some .int) (embW g A o0) (pI (embW g A) post) (pX (embW g A) px) 3 18) : ∀ (o : Off) (x2 : Int32) , wj_X4_execute_97 post px o x2 → G x g 4 3 18 (embW g A o) 97 [(0, .ref (A 0 0)), (2, .int x2)] [] := by
  intro o x2 h
  rw [wj_X4_execute_97] at h
  refine g_aload_n hC dX4_execute_97 98 rfl rfl 0 rfl ?_
  refine g_get hC fl_X4_30 dX4_execute_98 101 rfl 0 rfl rfl ?_
  refine g_aload_n hC dX4_execute_101 102 rfl rfl 0 rfl ?_
  refine g_get hC fl_X4_24 dX4_execute_102 105 rfl 0 rfl rfl ?_
  obtain ⟨i9, hi8, hi, h⟩ := h
  refine g_keepB hC hi8 hi dX4_execute_105 108 rfl ⟨Nat.le_of_ble_eq_true rfl, Nat.le_of_ble_eq_true rfl⟩ (Nat.le_of_ble_eq_true rfl) ⟨Nat.le_of_ble_eq_true rfl, Nat.le_of_ble_eq_true rfl⟩ ?_
  obtain ⟨o8, eo8⟩ : ∃ y : Off, y = keepH o (sh o 20) i9 := ⟨_, rfl⟩
  have h := h o8 eo8
  rw [← eo8]
  refine g_iload_n hC dX4_execute_108 109 rfl rfl 1 rfl ?_
  refine g_widen (k2 := 3) (n2 := 18) (Nat.le_of_ble_eq_true rfl) (Nat.le_of_ble_eq_true rfl) ?_
  exact g_rx hZ (g_iret (gXQ_C hC) (gXQ_Z hZ) dX4_execute_109 ⟨_, _, rfl, rfl, h⟩)
set_option maxRecDepth 100000 in
set_option maxHeartbeats 4000000 in
theorem jn_X4_execute_86 {x : gX} {l : Launch} {g : gE} {A : Nat → Nat → Nat} {o0 : Off} {post : Int32 → Off → Prop} {px : Nat → Off → Prop} (hC : gC x l cX4_execute 4 RX4 g 9 363 3 18) (hZ : gZX x g (some .int) (embW g A o0) (pI (embW g A) post) (pX (embW g A) px) 3 18) : ∀ (o : Off) (x2 : Int32) (x3 : Int32) (s0 : Int32) , wj_X4_execute_86 post px o x2 x3 s0 → G x g 4 1 6 (embW g A o) 86 [(0, .ref (A 0 0)), (2, .int x2), (3, .int x3)] [.int s0, .ref (A 0 0)] := by
  intro o x2 x3 s0 h
  rw [wj_X4_execute_86] at h
  refine g_ownVX hC hZ (ct_X4_requireState l g A o s0 _ _ h) gY_X4_requireState dX4_execute_86 89 rfl ml_X4_310 [] rfl rfl rfl 0 8 rfl rfl ⟨Nat.le_of_ble_eq_true rfl, Nat.le_of_ble_eq_true rfl⟩ (Nat.le_of_ble_eq_true rfl) ⟨Nat.le_of_ble_eq_true rfl, Nat.le_of_ble_eq_true rfl⟩ ⟨Nat.le_of_ble_eq_true rfl, Nat.le_of_ble_eq_true rfl⟩ (fun o13 h => ?_)
  refine g_widen (k2 := 2) (n2 := 12) (Nat.le_of_ble_eq_true rfl) (Nat.le_of_ble_eq_true rfl) ?_
  refine g_aload_n hC dX4_execute_89 90 rfl rfl 0 rfl ?_
  refine g_bipush hC (17 : Int32) dX4_execute_90 92 rfl bipush_17 ?_
  refine g_iload_n hC dX4_execute_92 93 rfl rfl 1 rfl ?_
  refine g_iload_n hC dX4_execute_93 94 rfl rfl 2 rfl ?_
  refine g_ownVX hC hZ (ct_X4_reject l g A o13 (17 : Int32) x2 x3 _ _ h) gY_X4_reject dX4_execute_94 97 rfl ml_X4_329 [] rfl rfl rfl 0 8 rfl rfl ⟨Nat.le_of_ble_eq_true rfl, Nat.le_of_ble_eq_true rfl⟩ (Nat.le_of_ble_eq_true rfl) ⟨Nat.le_of_ble_eq_true rfl, Nat.le_of_ble_eq_true rfl⟩ ⟨Nat.le_of_ble_eq_true rfl, Nat.le_of_ble_eq_true rfl⟩ (fun o14 h => ?_)
  refine g_widen (k2 := 3) (n2 := 18) (Nat.le_of_ble_eq_true rfl) (Nat.le_of_ble_eq_true rfl) ?_
  refine g_lv (lv2 := [(0, .ref (A 0 0)), (2, .int x2)]) [0, 1] rfl ?_
  exact jn_X4_execute_97 hC hZ o14 x2 h
set_option maxRecDepth 100000 in
set_option maxHeartbeats 4000000 in
theorem jn_X4_execute_29 {x : gX} {l : Launch} {g : gE} {A : Nat → Nat → Nat} {o0 : Off} {post : Int32 → Off → Prop} {px : Nat → Off → Prop} (hC : gC x l cX4_execute 4 RX4 g 9 363 3 18) (hZ : gZX x g (some .int) (embW g A o0) (pI (embW g A) post) (pX (embW g A) px) 3 18) : ∀ (o : Off) (s0 : Int32) , wj_X4_execute_29 post px o s0 → G x g 4 0 0 (embW g A o) 29 [(0, .ref (A 0 0))] [.int s0, .ref (A 0 0)] := by
  intro o s0 h
  rw [wj_X4_execute_29] at h
  refine g_ownVX hC hZ (ct_X4_requireArgument l g A o s0 _ _ h) gY_X4_requireArgument dX4_execute_29 32 rfl ml_X4_305 [] rfl rfl rfl 0 8 rfl rfl ⟨Nat.le_of_ble_eq_true rfl, Nat.le_of_ble_eq_true rfl⟩ (Nat.le_of_ble_eq_true rfl) ⟨Nat.le_of_ble_eq_true rfl, Nat.le_of_ble_eq_true rfl⟩ ⟨Nat.le_of_ble_eq_true rfl, Nat.le_of_ble_eq_true rfl⟩ (fun o4 h => ?_)
  refine g_widen (k2 := 1) (n2 := 6) (Nat.le_of_ble_eq_true rfl) (Nat.le_of_ble_eq_true rfl) ?_
  refine g_aload_n hC dX4_execute_32 33 rfl rfl 0 rfl ?_
  refine g_get hC fl_X4_24 dX4_execute_33 36 rfl 0 rfl rfl ?_
  refine g_aload_n hC dX4_execute_36 37 rfl rfl 0 rfl ?_
  refine g_get hC fl_X4_20 dX4_execute_37 40 rfl 0 rfl rfl ?_
  refine g_cpB hC dX4_execute_40 ml_X4_319 43 rfl ⟨Nat.le_of_ble_eq_true rfl, Nat.le_of_ble_eq_true rfl⟩ (Nat.le_of_ble_eq_true rfl) ⟨Nat.le_of_ble_eq_true rfl, Nat.le_of_ble_eq_true rfl⟩ ?_
  obtain ⟨o5, eo5⟩ : ∃ y : Off, y = put o4 20 12 o4 := ⟨_, rfl⟩
  have h := h o5 eo5
  rw [← eo5]
  refine g_aload_n hC dX4_execute_43 44 rfl rfl 0 rfl ?_
  refine g_ownI hC (ct_X4_carryOutCommands l g A o5  _ h) gY_X4_carryOutCommands dX4_execute_44 47 rfl ml_X4_322 [] rfl rfl rfl 0 8 rfl rfl ⟨Nat.le_of_ble_eq_true rfl, Nat.le_of_ble_eq_true rfl⟩ (Nat.le_of_ble_eq_true rfl) ⟨Nat.le_of_ble_eq_true rfl, Nat.le_of_ble_eq_true rfl⟩ (fun v7 o6 h => ?_)
  refine g_istore_n (lv2 := [(2, .int v7), (0, .ref (A 0 0))]) hC dX4_execute_47 48 rfl rfl (by decide) rfl ?_
  refine g_iload_n hC dX4_execute_48 49 rfl rfl 0 rfl ?_
  refine g_aload_n hC dX4_execute_49 50 rfl rfl 1 rfl ?_
  refine g_get hC fl_X4_37 dX4_execute_50 53 rfl 0 rfl rfl ?_
  refine g_get hC fl_X4_325 dX4_execute_53 56 rfl 1 rfl rfl ?_
  refine g_icmp_ge hC dX4_execute_56 97 (by decide) 59 rfl (fun c => ?_) (fun c => ?_)
  · have h := h.1 c
    refine g_widen (k2 := 3) (n2 := 18) (Nat.le_of_ble_eq_true rfl) (Nat.le_of_ble_eq_true rfl) ?_
    refine g_lv (lv2 := [(0, .ref (A 0 0)), (2, .int v7)]) [1, 0] rfl ?_
    exact jn_X4_execute_97 hC hZ o6 v7 h
  · have h := h.2 c
    refine g_aload_n hC dX4_execute_59 60 rfl rfl 1 rfl ?_
    refine g_iload_n hC dX4_execute_60 61 rfl rfl 0 rfl ?_
    refine g_ownI hC (ct_X4_faultOf l g A o6 v7 _ h) gY_X4_faultOf dX4_execute_61 64 rfl ml_X4_326 [] rfl rfl rfl 0 8 rfl rfl ⟨Nat.le_of_ble_eq_true rfl, Nat.le_of_ble_eq_true rfl⟩ (Nat.le_of_ble_eq_true rfl) ⟨Nat.le_of_ble_eq_true rfl, Nat.le_of_ble_eq_true rfl⟩ (fun v11 o10 h => ?_)
    refine g_istore_n (lv2 := [(3, .int v11), (2, .int v7), (0, .ref (A 0 0))]) hC dX4_execute_64 65 rfl rfl (by decide) rfl ?_
    refine g_aload_n hC dX4_execute_65 66 rfl rfl 2 rfl ?_
    refine g_get hC fl_X4_20 dX4_execute_66 69 rfl 0 rfl rfl ?_
    refine g_aload_n hC dX4_execute_69 70 rfl rfl 2 rfl ?_
    refine g_get hC fl_X4_24 dX4_execute_70 73 rfl 0 rfl rfl ?_
    refine g_cpO hC dX4_execute_73 ml_X4_319 76 rfl ⟨Nat.le_of_ble_eq_true rfl, Nat.le_of_ble_eq_true rfl⟩ (Nat.le_of_ble_eq_true rfl) ⟨Nat.le_of_ble_eq_true rfl, Nat.le_of_ble_eq_true rfl⟩ ?_
    obtain ⟨o12, eo12⟩ : ∃ y : Off, y = put o10 0 12 (sh o10 20) := ⟨_, rfl⟩
    have h := h o12 eo12
    rw [← eo12]
    refine g_aload_n hC dX4_execute_76 77 rfl rfl 2 rfl ?_
    refine g_iload_n hC dX4_execute_77 78 rfl rfl 0 rfl ?_
    refine g_if_le hC dX4_execute_78 85 (by decide) 81 rfl (fun c => ?_) (fun c => ?_)
    · have h := h.1 c
      refine g_iconst hC (0 : Int32) dX4_execute_85 86 rfl iconst_0 ?_
      refine g_lv (lv2 := [(0, .ref (A 0 0)), (2, .int v7), (3, .int v11)]) [2, 1, 0] rfl ?_
      exact jn_X4_execute_86 hC hZ o12 v7 v11 (0 : Int32) h
    · have h := h.2 c
      refine g_iconst hC (1 : Int32) dX4_execute_81 82 rfl iconst_1 ?_
      refine g_goto hC dX4_execute_82 86 (by decide) ?_
      refine g_lv (lv2 := [(0, .ref (A 0 0)), (2, .int v7), (3, .int v11)]) [2, 1, 0] rfl ?_
      exact jn_X4_execute_86 hC hZ o12 v7 v11 (1 : Int32) h
set_option maxRecDepth 100000 in
set_option maxHeartbeats 4000000 in
theorem jn_X4_execute_18 {x : gX} {l : Launch} {g : gE} {A : Nat → Nat → Nat} {o0 : Off} {post : Int32 → Off → Prop} {px : Nat → Off → Prop} (hC : gC x l cX4_execute 4 RX4 g 9 363 3 18) (hZ : gZX x g (some .int) (embW g A o0) (pI (embW g A) post) (pX (embW g A) px) 3 18) : ∀ (o : Off) (x1 : Int32) , wj_X4_execute_18 post px o x1 → G x g 4 0 0 (embW g A o) 18 [(0, .ref (A 0 0)), (1, .int x1)] [] := by
  intro o x1 h
  rw [wj_X4_execute_18] at h
  refine g_aload_n hC dX4_execute_18 19 rfl rfl 0 rfl ?_
  refine g_iload_n hC dX4_execute_19 20 rfl rfl 1 rfl ?_
  refine g_iconst hC (-1 : Int32) dX4_execute_20 21 rfl iconst_m1 ?_
  refine g_icmp_ne hC dX4_execute_21 28 (by decide) 24 rfl (fun c => ?_) (fun c => ?_)
  · have h := h.1 c
    refine g_iconst hC (0 : Int32) dX4_execute_28 29 rfl iconst_0 ?_
    refine g_lv (lv2 := [(0, .ref (A 0 0))]) [0] rfl ?_
    exact jn_X4_execute_29 hC hZ o (0 : Int32) h
  · have h := h.2 c
    refine g_iconst hC (1 : Int32) dX4_execute_24 25 rfl iconst_1 ?_
    refine g_goto hC dX4_execute_25 29 (by decide) ?_
    refine g_lv (lv2 := [(0, .ref (A 0 0))]) [0] rfl ?_
    exact jn_X4_execute_29 hC hZ o (1 : Int32) h
set_option maxRecDepth 100000 in
set_option maxHeartbeats 4000000 in
theorem ct_X4_execute (l : Launch) (g : gE) (A : Nat → Nat → Nat) (o : Off) (post : Int32 → Off → Prop) (px : Nat → Off → Prop) (h : wp_X4_execute post px o ) : FnX l g yX4_execute cX4_execute 4 (some .int) 9 363 3 18 (embW g A o) [.ref (A 0 0)] (pI (embW g A) post) (pX (embW g A) px) := by
  refine FnX.of (by decide) (Nat.le_of_ble_eq_true rfl) (fun x hC hZ => ?_)
  rw [wp_X4_execute] at h
  show G x g 4 0 0 (embW g A o) 0 [(0, .ref (A 0 0))] []
  refine g_aload_n hC dX4_execute_0 1 rfl rfl 0 rfl ?_
  refine g_get hC fl_X4_37 dX4_execute_1 4 rfl 0 rfl rfl ?_
  refine g_subI hC (ct_X1_read l g (A 5) (sh o 40)  _ h) gY_X1_read dX4_execute_4 7 rfl ml_X4_316 (emb_cmd g A o) (emb_cmd1 g A o) [] rfl rfl rfl 0 5 rfl rfl ⟨Nat.le_of_ble_eq_true rfl, Nat.le_of_ble_eq_true rfl⟩ (Nat.le_of_ble_eq_true rfl) ⟨Nat.le_of_ble_eq_true rfl, Nat.le_of_ble_eq_true rfl⟩ (fun v3 o1 h => ?_)
  obtain ⟨o2, eo2⟩ : ∃ y : Off, y = put o 40 4 o1 := ⟨_, rfl⟩
  have h := h o2 eo2
  rw [← eo2]
  refine g_istore_n (lv2 := [(1, .int v3), (0, .ref (A 0 0))]) hC dX4_execute_7 8 rfl rfl (by decide) rfl ?_
  refine g_iload_n hC dX4_execute_8 9 rfl rfl 0 rfl ?_
  refine g_iconst hC (-1 : Int32) dX4_execute_9 10 rfl iconst_m1 ?_
  refine g_icmp_eq hC dX4_execute_10 18 (by decide) 13 rfl (fun c => ?_) (fun c => ?_)
  · have h := h.1 c
    refine g_lv (lv2 := [(0, .ref (A 0 0)), (1, .int v3)]) [1, 0] rfl ?_
    exact jn_X4_execute_18 hC hZ o2 v3 h
  · have h := h.2 c
    refine g_aload_n hC dX4_execute_13 14 rfl rfl 1 rfl ?_
    refine g_iload_n hC dX4_execute_14 15 rfl rfl 0 rfl ?_
    obtain ⟨o15, eo15⟩ : ∃ y : Off, y = st o2 13 9 v3 := ⟨_, rfl⟩
    have h := h o15 eo15
    refine g_put hC fp_X4_58 dX4_execute_15 18 rfl 0 rfl rfl rfl (Nat.le_of_ble_eq_true rfl) (embW_p9 eo15) ?_
    refine g_lv (lv2 := [(0, .ref (A 0 0)), (1, .int v3)]) [1, 0] rfl ?_
    exact jn_X4_execute_18 hC hZ o15 v3 h
def wj_X4_syntaxErrorOffset_14 (post : Int32 → Off → Prop) (px : Nat → Off → Prop) (o : Off) (s0 : Int32) : Prop := wp_X4_requireElement (fun o1 => post (o1 13 9) o1) px o s0
def wp_X4_syntaxErrorOffset (post : Int32 → Off → Prop) (px : Nat → Off → Prop) (o : Off) : Prop := (((o 13 9) = (-1 : Int32) → wj_X4_syntaxErrorOffset_14 post px o (0 : Int32)) ∧ (¬ (o 13 9) = (-1 : Int32) → wj_X4_syntaxErrorOffset_14 post px o (1 : Int32)))
set_option maxRecDepth 100000 in
set_option maxHeartbeats 4000000 in
theorem jn_X4_syntaxErrorOffset_14 {x : gX} {l : Launch} {g : gE} {A : Nat → Nat → Nat} {o0 : Off} {post : Int32 → Off → Prop} {px : Nat → Off → Prop} (hC : gC x l cX4_syntaxErrorOffset 1 RX4 g 7 111 1 6) (hZ : gZX x g (some .int) (embW g A o0) (pI (embW g A) post) (pX (embW g A) px) 1 6) : ∀ (o : Off) (s0 : Int32) , wj_X4_syntaxErrorOffset_14 post px o s0 → G x g 1 0 0 (embW g A o) 14 [(0, .ref (A 0 0))] [.int s0, .ref (A 0 0)] := by
  intro o s0 h
  rw [wj_X4_syntaxErrorOffset_14] at h
  refine g_ownVX hC hZ (ct_X4_requireElement l g A o s0 _ _ h) gY_X4_requireElement dX4_syntaxErrorOffset_14 17 rfl ml_X4_93 [] rfl rfl rfl 0 8 rfl rfl ⟨Nat.le_of_ble_eq_true rfl, Nat.le_of_ble_eq_true rfl⟩ (Nat.le_of_ble_eq_true rfl) ⟨Nat.le_of_ble_eq_true rfl, Nat.le_of_ble_eq_true rfl⟩ ⟨Nat.le_of_ble_eq_true rfl, Nat.le_of_ble_eq_true rfl⟩ (fun o1 h => ?_)
  refine g_widen (k2 := 1) (n2 := 6) (Nat.le_of_ble_eq_true rfl) (Nat.le_of_ble_eq_true rfl) ?_
  refine g_aload_n hC dX4_syntaxErrorOffset_17 18 rfl rfl 0 rfl ?_
  refine g_get hC fl_X4_58 dX4_syntaxErrorOffset_18 21 rfl 0 rfl rfl ?_
  refine g_widen (k2 := 1) (n2 := 6) (Nat.le_of_ble_eq_true rfl) (Nat.le_of_ble_eq_true rfl) ?_
  exact g_rx hZ (g_iret (gXQ_C hC) (gXQ_Z hZ) dX4_syntaxErrorOffset_21 ⟨_, _, rfl, rfl, h⟩)
set_option maxRecDepth 100000 in
set_option maxHeartbeats 4000000 in
theorem ct_X4_syntaxErrorOffset (l : Launch) (g : gE) (A : Nat → Nat → Nat) (o : Off) (post : Int32 → Off → Prop) (px : Nat → Off → Prop) (h : wp_X4_syntaxErrorOffset post px o ) : FnX l g yX4_syntaxErrorOffset cX4_syntaxErrorOffset 1 (some .int) 7 111 1 6 (embW g A o) [.ref (A 0 0)] (pI (embW g A) post) (pX (embW g A) px) := by
  refine FnX.of (by decide) (Nat.le_of_ble_eq_true rfl) (fun x hC hZ => ?_)
  rw [wp_X4_syntaxErrorOffset] at h
  show G x g 1 0 0 (embW g A o) 0 [(0, .ref (A 0 0))] []
  refine g_aload_n hC dX4_syntaxErrorOffset_0 1 rfl rfl 0 rfl ?_
  refine g_aload_n hC dX4_syntaxErrorOffset_1 2 rfl rfl 0 rfl ?_
  refine g_get hC fl_X4_58 dX4_syntaxErrorOffset_2 5 rfl 0 rfl rfl ?_
  refine g_iconst hC (-1 : Int32) dX4_syntaxErrorOffset_5 6 rfl iconst_m1 ?_
  refine g_icmp_eq hC dX4_syntaxErrorOffset_6 13 (by decide) 9 rfl (fun c => ?_) (fun c => ?_)
  · have h := h.1 c
    refine g_iconst hC (0 : Int32) dX4_syntaxErrorOffset_13 14 rfl iconst_0 ?_
    exact jn_X4_syntaxErrorOffset_14 hC hZ o (0 : Int32) h
  · have h := h.2 c
    refine g_iconst hC (1 : Int32) dX4_syntaxErrorOffset_9 10 rfl iconst_1 ?_
    refine g_goto hC dX4_syntaxErrorOffset_10 14 (by decide) ?_
    exact jn_X4_syntaxErrorOffset_14 hC hZ o (1 : Int32) h
def wj_X4_rejectionReason_13 (post : Int32 → Off → Prop) (px : Nat → Off → Prop) (o : Off) (s0 : Int32) : Prop := wp_X4_requireElement (fun o1 => post (o1 13 6) o1) px o s0
def wp_X4_rejectionReason (post : Int32 → Off → Prop) (px : Nat → Off → Prop) (o : Off) : Prop := (((o 13 6) = 0 → wj_X4_rejectionReason_13 post px o (0 : Int32)) ∧ (¬ (o 13 6) = 0 → wj_X4_rejectionReason_13 post px o (1 : Int32)))
set_option maxRecDepth 100000 in
set_option maxHeartbeats 4000000 in
theorem jn_X4_rejectionReason_13 {x : gX} {l : Launch} {g : gE} {A : Nat → Nat → Nat} {o0 : Off} {post : Int32 → Off → Prop} {px : Nat → Off → Prop} (hC : gC x l cX4_rejectionReason 1 RX4 g 7 111 1 6) (hZ : gZX x g (some .int) (embW g A o0) (pI (embW g A) post) (pX (embW g A) px) 1 6) : ∀ (o : Off) (s0 : Int32) , wj_X4_rejectionReason_13 post px o s0 → G x g 1 0 0 (embW g A o) 13 [(0, .ref (A 0 0))] [.int s0, .ref (A 0 0)] := by
  intro o s0 h
  rw [wj_X4_rejectionReason_13] at h
  refine g_ownVX hC hZ (ct_X4_requireElement l g A o s0 _ _ h) gY_X4_requireElement dX4_rejectionReason_13 16 rfl ml_X4_93 [] rfl rfl rfl 0 8 rfl rfl ⟨Nat.le_of_ble_eq_true rfl, Nat.le_of_ble_eq_true rfl⟩ (Nat.le_of_ble_eq_true rfl) ⟨Nat.le_of_ble_eq_true rfl, Nat.le_of_ble_eq_true rfl⟩ ⟨Nat.le_of_ble_eq_true rfl, Nat.le_of_ble_eq_true rfl⟩ (fun o1 h => ?_)
  refine g_widen (k2 := 1) (n2 := 6) (Nat.le_of_ble_eq_true rfl) (Nat.le_of_ble_eq_true rfl) ?_
  refine g_aload_n hC dX4_rejectionReason_16 17 rfl rfl 0 rfl ?_
  refine g_get hC fl_X4_48 dX4_rejectionReason_17 20 rfl 0 rfl rfl ?_
  refine g_widen (k2 := 1) (n2 := 6) (Nat.le_of_ble_eq_true rfl) (Nat.le_of_ble_eq_true rfl) ?_
  exact g_rx hZ (g_iret (gXQ_C hC) (gXQ_Z hZ) dX4_rejectionReason_20 ⟨_, _, rfl, rfl, h⟩)
set_option maxRecDepth 100000 in
set_option maxHeartbeats 4000000 in
theorem ct_X4_rejectionReason (l : Launch) (g : gE) (A : Nat → Nat → Nat) (o : Off) (post : Int32 → Off → Prop) (px : Nat → Off → Prop) (h : wp_X4_rejectionReason post px o ) : FnX l g yX4_rejectionReason cX4_rejectionReason 1 (some .int) 7 111 1 6 (embW g A o) [.ref (A 0 0)] (pI (embW g A) post) (pX (embW g A) px) := by
  refine FnX.of (by decide) (Nat.le_of_ble_eq_true rfl) (fun x hC hZ => ?_)
  rw [wp_X4_rejectionReason] at h
  show G x g 1 0 0 (embW g A o) 0 [(0, .ref (A 0 0))] []
  refine g_aload_n hC dX4_rejectionReason_0 1 rfl rfl 0 rfl ?_
  refine g_aload_n hC dX4_rejectionReason_1 2 rfl rfl 0 rfl ?_
  refine g_get hC fl_X4_48 dX4_rejectionReason_2 5 rfl 0 rfl rfl ?_
  refine g_if_eq hC dX4_rejectionReason_5 12 (by decide) 8 rfl (fun c => ?_) (fun c => ?_)
  · have h := h.1 c
    refine g_iconst hC (0 : Int32) dX4_rejectionReason_12 13 rfl iconst_0 ?_
    exact jn_X4_rejectionReason_13 hC hZ o (0 : Int32) h
  · have h := h.2 c
    refine g_iconst hC (1 : Int32) dX4_rejectionReason_8 9 rfl iconst_1 ?_
    refine g_goto hC dX4_rejectionReason_9 13 (by decide) ?_
    exact jn_X4_rejectionReason_13 hC hZ o (1 : Int32) h
def wj_X4_rejectionDetail_13 (post : Int32 → Off → Prop) (px : Nat → Off → Prop) (o : Off) (s0 : Int32) : Prop := wp_X4_requireElement (fun o1 => post (o1 13 7) o1) px o s0
def wp_X4_rejectionDetail (post : Int32 → Off → Prop) (px : Nat → Off → Prop) (o : Off) : Prop := (((o 13 6) = 0 → wj_X4_rejectionDetail_13 post px o (0 : Int32)) ∧ (¬ (o 13 6) = 0 → wj_X4_rejectionDetail_13 post px o (1 : Int32)))
set_option maxRecDepth 100000 in
set_option maxHeartbeats 4000000 in
theorem jn_X4_rejectionDetail_13 {x : gX} {l : Launch} {g : gE} {A : Nat → Nat → Nat} {o0 : Off} {post : Int32 → Off → Prop} {px : Nat → Off → Prop} (hC : gC x l cX4_rejectionDetail 1 RX4 g 7 111 1 6) (hZ : gZX x g (some .int) (embW g A o0) (pI (embW g A) post) (pX (embW g A) px) 1 6) : ∀ (o : Off) (s0 : Int32) , wj_X4_rejectionDetail_13 post px o s0 → G x g 1 0 0 (embW g A o) 13 [(0, .ref (A 0 0))] [.int s0, .ref (A 0 0)] := by
  intro o s0 h
  rw [wj_X4_rejectionDetail_13] at h
  refine g_ownVX hC hZ (ct_X4_requireElement l g A o s0 _ _ h) gY_X4_requireElement dX4_rejectionDetail_13 16 rfl ml_X4_93 [] rfl rfl rfl 0 8 rfl rfl ⟨Nat.le_of_ble_eq_true rfl, Nat.le_of_ble_eq_true rfl⟩ (Nat.le_of_ble_eq_true rfl) ⟨Nat.le_of_ble_eq_true rfl, Nat.le_of_ble_eq_true rfl⟩ ⟨Nat.le_of_ble_eq_true rfl, Nat.le_of_ble_eq_true rfl⟩ (fun o1 h => ?_)
  refine g_widen (k2 := 1) (n2 := 6) (Nat.le_of_ble_eq_true rfl) (Nat.le_of_ble_eq_true rfl) ?_
  refine g_aload_n hC dX4_rejectionDetail_16 17 rfl rfl 0 rfl ?_
  refine g_get hC fl_X4_52 dX4_rejectionDetail_17 20 rfl 0 rfl rfl ?_
  refine g_widen (k2 := 1) (n2 := 6) (Nat.le_of_ble_eq_true rfl) (Nat.le_of_ble_eq_true rfl) ?_
  exact g_rx hZ (g_iret (gXQ_C hC) (gXQ_Z hZ) dX4_rejectionDetail_20 ⟨_, _, rfl, rfl, h⟩)
set_option maxRecDepth 100000 in
set_option maxHeartbeats 4000000 in
theorem ct_X4_rejectionDetail (l : Launch) (g : gE) (A : Nat → Nat → Nat) (o : Off) (post : Int32 → Off → Prop) (px : Nat → Off → Prop) (h : wp_X4_rejectionDetail post px o ) : FnX l g yX4_rejectionDetail cX4_rejectionDetail 1 (some .int) 7 111 1 6 (embW g A o) [.ref (A 0 0)] (pI (embW g A) post) (pX (embW g A) px) := by
  refine FnX.of (by decide) (Nat.le_of_ble_eq_true rfl) (fun x hC hZ => ?_)
  rw [wp_X4_rejectionDetail] at h
  show G x g 1 0 0 (embW g A o) 0 [(0, .ref (A 0 0))] []
  refine g_aload_n hC dX4_rejectionDetail_0 1 rfl rfl 0 rfl ?_
  refine g_aload_n hC dX4_rejectionDetail_1 2 rfl rfl 0 rfl ?_
  refine g_get hC fl_X4_48 dX4_rejectionDetail_2 5 rfl 0 rfl rfl ?_
  refine g_if_eq hC dX4_rejectionDetail_5 12 (by decide) 8 rfl (fun c => ?_) (fun c => ?_)
  · have h := h.1 c
    refine g_iconst hC (0 : Int32) dX4_rejectionDetail_12 13 rfl iconst_0 ?_
    exact jn_X4_rejectionDetail_13 hC hZ o (0 : Int32) h
  · have h := h.2 c
    refine g_iconst hC (1 : Int32) dX4_rejectionDetail_8 9 rfl iconst_1 ?_
    refine g_goto hC dX4_rejectionDetail_9 13 (by decide) ?_
    exact jn_X4_rejectionDetail_13 hC hZ o (1 : Int32) h
def wj_X4_causeReason_15 (post : Int32 → Off → Prop) (px : Nat → Off → Prop) (o : Off) (s0 : Int32) : Prop := wp_X4_requireElement (fun o1 => post (o1 13 8) o1) px o s0
def wp_X4_causeReason (post : Int32 → Off → Prop) (px : Nat → Off → Prop) (o : Off) : Prop := ((¬ (o 13 6) = (17 : Int32) → wj_X4_causeReason_15 post px o (0 : Int32)) ∧ ((o 13 6) = (17 : Int32) → wj_X4_causeReason_15 post px o (1 : Int32)))
set_option maxRecDepth 100000 in
set_option maxHeartbeats 4000000 in
theorem jn_X4_causeReason_15 {x : gX} {l : Launch} {g : gE} {A : Nat → Nat → Nat} {o0 : Off} {post : Int32 → Off → Prop} {px : Nat → Off → Prop} (hC : gC x l cX4_causeReason 1 RX4 g 7 111 1 6) (hZ : gZX x g (some .int) (embW g A o0) (pI (embW g A) post) (pX (embW g A) px) 1 6) : ∀ (o : Off) (s0 : Int32) , wj_X4_causeReason_15 post px o s0 → G x g 1 0 0 (embW g A o) 15 [(0, .ref (A 0 0))] [.int s0, .ref (A 0 0)] := by
  intro o s0 h
  rw [wj_X4_causeReason_15] at h
  refine g_ownVX hC hZ (ct_X4_requireElement l g A o s0 _ _ h) gY_X4_requireElement dX4_causeReason_15 18 rfl ml_X4_93 [] rfl rfl rfl 0 8 rfl rfl ⟨Nat.le_of_ble_eq_true rfl, Nat.le_of_ble_eq_true rfl⟩ (Nat.le_of_ble_eq_true rfl) ⟨Nat.le_of_ble_eq_true rfl, Nat.le_of_ble_eq_true rfl⟩ ⟨Nat.le_of_ble_eq_true rfl, Nat.le_of_ble_eq_true rfl⟩ (fun o1 h => ?_)
  refine g_widen (k2 := 1) (n2 := 6) (Nat.le_of_ble_eq_true rfl) (Nat.le_of_ble_eq_true rfl) ?_
  refine g_aload_n hC dX4_causeReason_18 19 rfl rfl 0 rfl ?_
  refine g_get hC fl_X4_55 dX4_causeReason_19 22 rfl 0 rfl rfl ?_
  refine g_widen (k2 := 1) (n2 := 6) (Nat.le_of_ble_eq_true rfl) (Nat.le_of_ble_eq_true rfl) ?_
  exact g_rx hZ (g_iret (gXQ_C hC) (gXQ_Z hZ) dX4_causeReason_22 ⟨_, _, rfl, rfl, h⟩)
set_option maxRecDepth 100000 in
set_option maxHeartbeats 4000000 in
theorem ct_X4_causeReason (l : Launch) (g : gE) (A : Nat → Nat → Nat) (o : Off) (post : Int32 → Off → Prop) (px : Nat → Off → Prop) (h : wp_X4_causeReason post px o ) : FnX l g yX4_causeReason cX4_causeReason 1 (some .int) 7 111 1 6 (embW g A o) [.ref (A 0 0)] (pI (embW g A) post) (pX (embW g A) px) := by
  refine FnX.of (by decide) (Nat.le_of_ble_eq_true rfl) (fun x hC hZ => ?_)
  rw [wp_X4_causeReason] at h
  show G x g 1 0 0 (embW g A o) 0 [(0, .ref (A 0 0))] []
  refine g_aload_n hC dX4_causeReason_0 1 rfl rfl 0 rfl ?_
  refine g_aload_n hC dX4_causeReason_1 2 rfl rfl 0 rfl ?_
  refine g_get hC fl_X4_48 dX4_causeReason_2 5 rfl 0 rfl rfl ?_
  refine g_bipush hC (17 : Int32) dX4_causeReason_5 7 rfl bipush_17 ?_
  refine g_icmp_ne hC dX4_causeReason_7 14 (by decide) 10 rfl (fun c => ?_) (fun c => ?_)
  · have h := h.1 c
    refine g_iconst hC (0 : Int32) dX4_causeReason_14 15 rfl iconst_0 ?_
    exact jn_X4_causeReason_15 hC hZ o (0 : Int32) h
  · have h := h.2 c
    refine g_iconst hC (1 : Int32) dX4_causeReason_10 11 rfl iconst_1 ?_
    refine g_goto hC dX4_causeReason_11 15 (by decide) ?_
    exact jn_X4_causeReason_15 hC hZ o (1 : Int32) h
def wj_X4_undo_16 (post : Int32 → Off → Prop) (px : Nat → Off → Prop) (o : Off) (s0 : Int32) : Prop := wp_X4_requireState (fun o1 => (∃ i3 : Nat, i3 < 8 ∧ o1 60 2 = nI ((i3 + 1) % 8) ∧ (∀ o2 : Off, o2 = put (backH o1 i3) 0 12 (sh o1 (100 + 20 * i3)) → post (o1 60 3 - 1) o2))) px o s0
def wp_X4_undo (post : Int32 → Off → Prop) (px : Nat → Off → Prop) (o : Off) : Prop := (((o 60 3) ≤ 0 → wj_X4_undo_16 post px o (0 : Int32)) ∧ (¬ (o 60 3) ≤ 0 → wj_X4_undo_16 post px o (1 : Int32)))
set_option maxRecDepth 100000 in
set_option maxHeartbeats 4000000 in
theorem jn_X4_undo_16 {x : gX} {l : Launch} {g : gE} {A : Nat → Nat → Nat} {o0 : Off} {post : Int32 → Off → Prop} {px : Nat → Off → Prop} (hC : gC x l cX4_undo 1 RX4 g 7 363 1 6) (hZ : gZX x g (some .int) (embW g A o0) (pI (embW g A) post) (pX (embW g A) px) 1 6) : ∀ (o : Off) (s0 : Int32) , wj_X4_undo_16 post px o s0 → G x g 1 0 0 (embW g A o) 16 [(0, .ref (A 0 0))] [.int s0, .ref (A 0 0)] := by
  intro o s0 h
  rw [wj_X4_undo_16] at h
  refine g_ownVX hC hZ (ct_X4_requireState l g A o s0 _ _ h) gY_X4_requireState dX4_undo_16 19 rfl ml_X4_310 [] rfl rfl rfl 0 8 rfl rfl ⟨Nat.le_of_ble_eq_true rfl, Nat.le_of_ble_eq_true rfl⟩ (Nat.le_of_ble_eq_true rfl) ⟨Nat.le_of_ble_eq_true rfl, Nat.le_of_ble_eq_true rfl⟩ ⟨Nat.le_of_ble_eq_true rfl, Nat.le_of_ble_eq_true rfl⟩ (fun o1 h => ?_)
  refine g_widen (k2 := 1) (n2 := 6) (Nat.le_of_ble_eq_true rfl) (Nat.le_of_ble_eq_true rfl) ?_
  refine g_aload_n hC dX4_undo_19 20 rfl rfl 0 rfl ?_
  refine g_get hC fl_X4_30 dX4_undo_20 23 rfl 0 rfl rfl ?_
  refine g_aload_n hC dX4_undo_23 24 rfl rfl 0 rfl ?_
  refine g_get hC fl_X4_20 dX4_undo_24 27 rfl 0 rfl rfl ?_
  obtain ⟨i3, hi8, hi, h⟩ := h
  refine g_back hC hi8 hi dX4_undo_27 ml_X4_336 30 rfl ⟨Nat.le_of_ble_eq_true rfl, Nat.le_of_ble_eq_true rfl⟩ (Nat.le_of_ble_eq_true rfl) ⟨Nat.le_of_ble_eq_true rfl, Nat.le_of_ble_eq_true rfl⟩ ?_
  obtain ⟨o2, eo2⟩ : ∃ y : Off, y = put (backH o1 i3) 0 12 (sh o1 (100 + 20 * i3)) := ⟨_, rfl⟩
  have h := h o2 eo2
  rw [← eo2]
  refine g_widen (k2 := 1) (n2 := 6) (Nat.le_of_ble_eq_true rfl) (Nat.le_of_ble_eq_true rfl) ?_
  exact g_rx hZ (g_iret (gXQ_C hC) (gXQ_Z hZ) dX4_undo_30 ⟨_, _, rfl, rfl, h⟩)
set_option maxRecDepth 100000 in
set_option maxHeartbeats 4000000 in
theorem ct_X4_undo (l : Launch) (g : gE) (A : Nat → Nat → Nat) (o : Off) (post : Int32 → Off → Prop) (px : Nat → Off → Prop) (h : wp_X4_undo post px o ) : FnX l g yX4_undo cX4_undo 1 (some .int) 7 363 1 6 (embW g A o) [.ref (A 0 0)] (pI (embW g A) post) (pX (embW g A) px) := by
  refine FnX.of (by decide) (Nat.le_of_ble_eq_true rfl) (fun x hC hZ => ?_)
  rw [wp_X4_undo] at h
  show G x g 1 0 0 (embW g A o) 0 [(0, .ref (A 0 0))] []
  refine g_aload_n hC dX4_undo_0 1 rfl rfl 0 rfl ?_
  refine g_aload_n hC dX4_undo_1 2 rfl rfl 0 rfl ?_
  refine g_get hC fl_X4_30 dX4_undo_2 5 rfl 0 rfl rfl ?_
  refine g_get hC fl_X4_333 dX4_undo_5 8 rfl 20 rfl rfl ?_
  refine g_if_le hC dX4_undo_8 15 (by decide) 11 rfl (fun c => ?_) (fun c => ?_)
  · have h := h.1 c
    refine g_iconst hC (0 : Int32) dX4_undo_15 16 rfl iconst_0 ?_
    exact jn_X4_undo_16 hC hZ o (0 : Int32) h
  · have h := h.2 c
    refine g_iconst hC (1 : Int32) dX4_undo_11 12 rfl iconst_1 ?_
    refine g_goto hC dX4_undo_12 16 (by decide) ?_
    exact jn_X4_undo_16 hC hZ o (1 : Int32) h
def wp_X4_saveSnapshot (post : Int32 → Off → Prop) (o : Off) : Prop := (∀ o1 : Off, o1 = st (put o 260 12 o) 60 4 1 → post (o1 0 0) o1)
set_option maxRecDepth 100000 in
set_option maxHeartbeats 4000000 in
theorem ct_X4_saveSnapshot (l : Launch) (g : gE) (A : Nat → Nat → Nat) (o : Off) (post : Int32 → Off → Prop) (h : wp_X4_saveSnapshot post o ) : Fn l g yX4_saveSnapshot cX4_saveSnapshot 1 (some .int) 4 363 0 0 (embW g A o) [.ref (A 0 0)] (pI (embW g A) post) := by
  refine Fn.of (by decide) (Nat.le_of_ble_eq_true rfl) (fun x hC hZ => ?_)
  rw [wp_X4_saveSnapshot] at h
  show G x g 1 0 0 (embW g A o) 0 [(0, .ref (A 0 0))] []
  refine g_aload_n hC dX4_saveSnapshot_0 1 rfl rfl 0 rfl ?_
  refine g_get hC fl_X4_30 dX4_saveSnapshot_1 4 rfl 0 rfl rfl ?_
  refine g_aload_n hC dX4_saveSnapshot_4 5 rfl rfl 0 rfl ?_
  refine g_get hC fl_X4_20 dX4_saveSnapshot_5 8 rfl 0 rfl rfl ?_
  refine g_saveO hC dX4_saveSnapshot_8 ml_X4_340 11 rfl ⟨Nat.le_of_ble_eq_true rfl, Nat.le_of_ble_eq_true rfl⟩ (Nat.le_of_ble_eq_true rfl) ⟨Nat.le_of_ble_eq_true rfl, Nat.le_of_ble_eq_true rfl⟩ ?_
  obtain ⟨o1, eo1⟩ : ∃ y : Off, y = st (put o 260 12 o) 60 4 1 := ⟨_, rfl⟩
  have h := h o1 eo1
  rw [← eo1]
  refine g_aload_n hC dX4_saveSnapshot_11 12 rfl rfl 0 rfl ?_
  refine g_get hC fl_X4_20 dX4_saveSnapshot_12 15 rfl 0 rfl rfl ?_
  refine g_get hC fl_X4_76 dX4_saveSnapshot_15 18 rfl 8 rfl rfl ?_
  exact g_iret hC hZ dX4_saveSnapshot_18 ⟨_, _, rfl, rfl, h⟩
def wp_X4_restoreSnapshot (post : Int32 → Off → Prop) (px : Nat → Off → Prop) (o : Off) : Prop := wp_X4_requireState (fun o1 => (∀ o2 : Off, o2 = put (st o1 60 3 0) 0 12 (sh o1 260) → post (o2 0 0) o2)) px o (o 60 4)
set_option maxRecDepth 100000 in
set_option maxHeartbeats 4000000 in
theorem ct_X4_restoreSnapshot (l : Launch) (g : gE) (A : Nat → Nat → Nat) (o : Off) (post : Int32 → Off → Prop) (px : Nat → Off → Prop) (h : wp_X4_restoreSnapshot post px o ) : FnX l g yX4_restoreSnapshot cX4_restoreSnapshot 1 (some .int) 7 363 1 6 (embW g A o) [.ref (A 0 0)] (pI (embW g A) post) (pX (embW g A) px) := by
  refine FnX.of (by decide) (Nat.le_of_ble_eq_true rfl) (fun x hC hZ => ?_)
  rw [wp_X4_restoreSnapshot] at h
  show G x g 1 0 0 (embW g A o) 0 [(0, .ref (A 0 0))] []
  refine g_aload_n hC dX4_restoreSnapshot_0 1 rfl rfl 0 rfl ?_
  refine g_aload_n hC dX4_restoreSnapshot_1 2 rfl rfl 0 rfl ?_
  refine g_get hC fl_X4_30 dX4_restoreSnapshot_2 5 rfl 0 rfl rfl ?_
  refine g_get hC fl_X4_343 dX4_restoreSnapshot_5 8 rfl 20 rfl rfl ?_
  refine g_ownVX hC hZ (ct_X4_requireState l g A o (o 60 4) _ _ h) gY_X4_requireState dX4_restoreSnapshot_8 11 rfl ml_X4_310 [] rfl rfl rfl 0 8 rfl rfl ⟨Nat.le_of_ble_eq_true rfl, Nat.le_of_ble_eq_true rfl⟩ (Nat.le_of_ble_eq_true rfl) ⟨Nat.le_of_ble_eq_true rfl, Nat.le_of_ble_eq_true rfl⟩ ⟨Nat.le_of_ble_eq_true rfl, Nat.le_of_ble_eq_true rfl⟩ (fun o1 h => ?_)
  refine g_widen (k2 := 1) (n2 := 6) (Nat.le_of_ble_eq_true rfl) (Nat.le_of_ble_eq_true rfl) ?_
  refine g_aload_n hC dX4_restoreSnapshot_11 12 rfl rfl 0 rfl ?_
  refine g_get hC fl_X4_30 dX4_restoreSnapshot_12 15 rfl 0 rfl rfl ?_
  refine g_aload_n hC dX4_restoreSnapshot_15 16 rfl rfl 0 rfl ?_
  refine g_get hC fl_X4_20 dX4_restoreSnapshot_16 19 rfl 0 rfl rfl ?_
  refine g_restO hC dX4_restoreSnapshot_19 ml_X4_347 22 rfl ⟨Nat.le_of_ble_eq_true rfl, Nat.le_of_ble_eq_true rfl⟩ (Nat.le_of_ble_eq_true rfl) ⟨Nat.le_of_ble_eq_true rfl, Nat.le_of_ble_eq_true rfl⟩ ?_
  obtain ⟨o2, eo2⟩ : ∃ y : Off, y = put (st o1 60 3 0) 0 12 (sh o1 260) := ⟨_, rfl⟩
  have h := h o2 eo2
  rw [← eo2]
  refine g_aload_n hC dX4_restoreSnapshot_22 23 rfl rfl 0 rfl ?_
  refine g_get hC fl_X4_20 dX4_restoreSnapshot_23 26 rfl 0 rfl rfl ?_
  refine g_get hC fl_X4_76 dX4_restoreSnapshot_26 29 rfl 8 rfl rfl ?_
  refine g_widen (k2 := 1) (n2 := 6) (Nat.le_of_ble_eq_true rfl) (Nat.le_of_ble_eq_true rfl) ?_
  exact g_rx hZ (g_iret (gXQ_C hC) (gXQ_Z hZ) dX4_restoreSnapshot_29 ⟨_, _, rfl, rfl, h⟩)
