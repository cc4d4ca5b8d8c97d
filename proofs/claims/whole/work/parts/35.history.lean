/-! the history: its object, its row of eight offices, the snapshot; one number table holds all: rows 60, and 20 rows an office from 100 on -/
def sh (E : Off) (n : Nat) : Off := fun k => E (n + k)
def put (E : Off) (n w : Nat) (o : Off) : Off := fun k => if n ≤ k ∧ k < n + w then o (k - n) else E k
def hisC (g : gE) (h : Nat → Nat) (p : Nat → Nat → Nat) (H : Off) : va_W := [(h 0, .inr (6, [.ref (h 1), .ref (p 8 0), .int (H 60 2), .int (H 60 3), .int (H 60 4)])), (h 1, .inl (g.2.1 3, 8, .inr (.inr (.inr (.inr (fun i => some (p i 0)))))))]
def hisW (g : gE) (h : Nat → Nat) (p : Nat → Nat → Nat) (H : Off) : va_W := hisC g h p H ++ (offW g (p 0) (sh H 100) ++ (offW g (p 1) (sh H 120) ++ (offW g (p 2) (sh H 140) ++ (offW g (p 3) (sh H 160) ++ (offW g (p 4) (sh H 180) ++ (offW g (p 5) (sh H 200) ++ (offW g (p 6) (sh H 220) ++ (offW g (p 7) (sh H 240) ++ (offW g (p 8) (sh H 260) ++ ([]))))))))))
theorem mvF : ∀ (Xs : List va_W) (Y R : va_W), (Xs.foldr (fun a b => a ++ b) (Y ++ R)).Perm (Y ++ Xs.foldr (fun a b => a ++ b) R)
  | [], Y, R => List.Perm.refl _
  | X :: Xs, Y, R => (List.Perm.append_left X (mvF Xs Y R)).trans (List.perm_append_comm_assoc X Y _)
theorem uw_X2 : ∀ w ∈ u_ws RX2 TX2 5, w ∈ lw_all := lw_inL _ [149, 151, 153, 155, 157] (by decide +kernel) (by decide +kernel)
theorem fl_X4_333 : gFl RX4 6 3 333 := ⟨RX2, TX2, 5, rfl, by decide, uw_X2, lw_inT 146 (by decide +kernel) rfl⟩
theorem fl_X4_343 : gFl RX4 6 4 343 := ⟨RX2, TX2, 5, rfl, by decide, uw_X2, lw_inT 148 (by decide +kernel) rfl⟩
theorem fl_X2_11 : gFl RX2 6 0 11 := ⟨RX2, TX2, 5, rfl, by decide, uw_X2, lw_inT 142 (by decide +kernel) rfl⟩
theorem ff_X2_11 : gFf RX2 6 0 11 (.array (.object "SockEmbassy$Office")) := ⟨RX2, TX2, 5, tyX2, rfl, by decide, uw_X2, lw_inT 142 (by decide +kernel) rfl, tyX2_ok, nmX2, rfl, rfl, by decide +kernel⟩
theorem fl_X2_18 : gFl RX2 6 1 18 := ⟨RX2, TX2, 5, rfl, by decide, uw_X2, lw_inT 143 (by decide +kernel) rfl⟩
theorem ff_X2_18 : gFf RX2 6 1 18 (.object "SockEmbassy$Office") := ⟨RX2, TX2, 5, tyX2, rfl, by decide, uw_X2, lw_inT 143 (by decide +kernel) rfl, tyX2_ok, nmX2, rfl, rfl, by decide +kernel⟩
theorem fl_X2_22 : gFl RX2 6 2 22 := ⟨RX2, TX2, 5, rfl, by decide, uw_X2, lw_inT 144 (by decide +kernel) rfl⟩
theorem fp_X2_22 : gFp RX2 6 2 22 .int := ⟨RX2, TX2, 5, tyX2, rfl, by decide, uw_X2, lw_inT 144 (by decide +kernel) rfl, tyX2_ok, nmX2, rfl, by decide +kernel⟩
theorem fl_X2_30 : gFl RX2 6 3 30 := ⟨RX2, TX2, 5, rfl, by decide, uw_X2, lw_inT 145 (by decide +kernel) rfl⟩
theorem fp_X2_30 : gFp RX2 6 3 30 .int := ⟨RX2, TX2, 5, tyX2, rfl, by decide, uw_X2, lw_inT 145 (by decide +kernel) rfl, tyX2_ok, nmX2, rfl, by decide +kernel⟩
theorem fl_X2_39 : gFl RX2 6 4 39 := ⟨RX2, TX2, 5, rfl, by decide, uw_X2, lw_inT 147 (by decide +kernel) rfl⟩
theorem fp_X2_39 : gFp RX2 6 4 39 .boolean := ⟨RX2, TX2, 5, tyX2, rfl, by decide, uw_X2, lw_inT 147 (by decide +kernel) rfl, tyX2_ok, nmX2, rfl, by decide +kernel⟩
/-- a copy between two offices of a world -/
theorem g_copyF {x : gX} {l : Launch} {cc : ByteArray} {nL : Nat} {own : String} {g : gE} {fr lo mc ms k n pc : Nat} {ws : va_W} {lv : List (Nat × Value)} {rest : List Value} (hC : gC x l cc nL own g fr lo mc ms) {a b : Nat → Nat} {o q : Off} {idx : Nat} (hd : decode cc pc = .ok (.invokevirtual idx, 3)) (pc2 : Nat) (e : pc + 3 = pc2) (hl : Cond.methodLink own idx yX3_copyFrom ∈ lw_all) (R : va_W) (hp : ws.Perm (offW g a o ++ (offW g b q ++ R))) {ws2 : va_W} (hp2 : (offW g a q ++ (offW g b q ++ R)).Perm ws2)
    (hR : 3 ≤ fr ∧ 342 ≤ lo) (hcat : (rest.map fun v => v.category).sum ≤ 8) (hkn : k ≤ mc ∧ n ≤ ms) (kk : G x g nL k n ws2 pc2 lv rest) : G x g nL k n ws pc lv (.ref (b 0) :: .ref (a 0) :: rest) := by
  refine g_perm hp ?_
  refine g_callV hC (ct_X3_copyFrom l g a b o q) gY_X3_copyFrom hd pc2 e hl [] R (by rw [List.nil_append, List.append_assoc]) rest rfl rfl rfl 0 7 rfl rfl ⟨hR.1, hR.2⟩ hcat hkn ?_
  rintro r w1 ⟨rfl, rfl⟩
  rw [List.nil_append, List.append_assoc]
  exact g_perm hp2 kk
def keepH (H o : Off) (i : Nat) : Off := st (st (put H (100 + 20 * i) 12 o) 60 2 (nI ((i + 1) % 8))) 60 3 (if (8 : Int32) < H 60 3 + 1 then 8 else H 60 3 + 1)
set_option maxRecDepth 100000 in
set_option maxHeartbeats 4000000 in
theorem ct_X2_keep0 (l : Launch) (g : gE) (a h : Nat → Nat) (p : Nat → Nat → Nat) (o H : Off) (hi : H 60 2 = 0) : Fn l g yX2_keep cX2_keep 2 none 3 342 0 0 (offW g a o ++ hisW g h p H) [.ref (h 0), .ref (a 0)] (fun r w => r = none ∧ w = offW g a o ++ hisW g h p (keepH H o 0)) := by
  refine Fn.of (by decide) (Nat.le_of_ble_eq_true rfl) (fun x hC hZ => ?_)
  show G x g 2 0 0 (offW g a o ++ hisW g h p H) 0 [(0, .ref (h 0)), (1, .ref (a 0))] []
  -- place 0
  refine g_aload_n hC dX2_keep_0 1 rfl rfl 0 rfl ?_
  refine g_get hC fl_X2_11 dX2_keep_1 4 rfl 12 rfl rfl ?_
  refine g_aload_n hC dX2_keep_4 5 rfl rfl 0 rfl ?_
  refine g_get hC fl_X2_22 dX2_keep_5 8 rfl 12 rfl rfl ?_
  rw [hi]
  refine g_aldq hC dX2_keep_8 9 rfl 13 rfl (vp_in_nI (n := 0) (by decide) (by decide)) ?_
  show G x g 2 0 0 (offW g a o ++ hisW g h p H) 9 [(0, .ref (h 0)), (1, .ref (a 0))] [.ref (p 0 0)]
  refine g_aload_n hC dX2_keep_9 10 rfl rfl 1 rfl ?_
  have p1 : (offW g a o ++ hisW g h p H).Perm (offW g (p 0) (sh H 100) ++ (offW g a o ++ (hisC g h p H ++ (offW g (p 1) (sh H 120) ++ (offW g (p 2) (sh H 140) ++ (offW g (p 3) (sh H 160) ++ (offW g (p 4) (sh H 180) ++ (offW g (p 5) (sh H 200) ++ (offW g (p 6) (sh H 220) ++ (offW g (p 7) (sh H 240) ++ (offW g (p 8) (sh H 260) ++ ([])))))))))))) := mvF [offW g a o, hisC g h p H] (offW g (p 0) (sh H 100)) (offW g (p 1) (sh H 120) ++ (offW g (p 2) (sh H 140) ++ (offW g (p 3) (sh H 160) ++ (offW g (p 4) (sh H 180) ++ (offW g (p 5) (sh H 200) ++ (offW g (p 6) (sh H 220) ++ (offW g (p 7) (sh H 240) ++ (offW g (p 8) (sh H 260) ++ ([])))))))))
  have p2 : (offW g (p 0) o ++ (offW g a o ++ (hisC g h p H ++ (offW g (p 1) (sh H 120) ++ (offW g (p 2) (sh H 140) ++ (offW g (p 3) (sh H 160) ++ (offW g (p 4) (sh H 180) ++ (offW g (p 5) (sh H 200) ++ (offW g (p 6) (sh H 220) ++ (offW g (p 7) (sh H 240) ++ (offW g (p 8) (sh H 260) ++ ([])))))))))))).Perm (offW g a o ++ (hisC g h p H ++ (offW g (p 0) o ++ (offW g (p 1) (sh H 120) ++ (offW g (p 2) (sh H 140) ++ (offW g (p 3) (sh H 160) ++ (offW g (p 4) (sh H 180) ++ (offW g (p 5) (sh H 200) ++ (offW g (p 6) (sh H 220) ++ (offW g (p 7) (sh H 240) ++ (offW g (p 8) (sh H 260) ++ ([])))))))))))) := (mvF [offW g a o, hisC g h p H] (offW g (p 0) o) (offW g (p 1) (sh H 120) ++ (offW g (p 2) (sh H 140) ++ (offW g (p 3) (sh H 160) ++ (offW g (p 4) (sh H 180) ++ (offW g (p 5) (sh H 200) ++ (offW g (p 6) (sh H 220) ++ (offW g (p 7) (sh H 240) ++ (offW g (p 8) (sh H 260) ++ ([])))))))))).symm
  refine g_copyF hC dX2_keep_10 13 rfl ml_X2_26 (hisC g h p H ++ (offW g (p 1) (sh H 120) ++ (offW g (p 2) (sh H 140) ++ (offW g (p 3) (sh H 160) ++ (offW g (p 4) (sh H 180) ++ (offW g (p 5) (sh H 200) ++ (offW g (p 6) (sh H 220) ++ (offW g (p 7) (sh H 240) ++ (offW g (p 8) (sh H 260) ++ ([])))))))))) p1 p2 ⟨Nat.le_of_ble_eq_true rfl, Nat.le_of_ble_eq_true rfl⟩ (Nat.le_of_ble_eq_true rfl) ⟨Nat.le_refl _, Nat.le_refl _⟩ ?_
  refine g_ws (ws2 := offW g a o ++ hisW g h p (put H 100 12 o)) rfl ?_
  refine g_aload_n hC dX2_keep_13 14 rfl rfl 0 rfl ?_
  refine g_aload_n hC dX2_keep_14 15 rfl rfl 0 rfl ?_
  refine g_get (v := .int (H 60 2)) hC fl_X2_22 dX2_keep_15 18 rfl 12 rfl rfl ?_
  rw [hi]
  refine g_iconst hC (1 : Int32) dX2_keep_18 19 rfl iconst_1 ?_
  refine g_iadd hC dX2_keep_19 20 rfl ?_
  refine g_bipush hC (8 : Int32) dX2_keep_20 22 rfl bipush_8 ?_
  refine g_irem hC dX2_keep_22 23 rfl (by decide) ?_
  refine g_put (ws2 := offW g a o ++ hisW g h p (st (put H 100 12 o) 60 2 1)) hC fp_X2_22 dX2_keep_23 26 rfl 12 rfl rfl rfl (Nat.le_of_ble_eq_true rfl) rfl ?_
  refine g_aload_n hC dX2_keep_26 27 rfl rfl 0 rfl ?_
  refine g_aload_n hC dX2_keep_27 28 rfl rfl 0 rfl ?_
  refine g_get (v := .int (H 60 3)) hC fl_X2_30 dX2_keep_28 31 rfl 12 rfl rfl ?_
  refine g_iconst hC (1 : Int32) dX2_keep_31 32 rfl iconst_1 ?_
  refine g_iadd hC dX2_keep_32 33 rfl ?_
  refine g_bipush hC (8 : Int32) dX2_keep_33 35 rfl bipush_8 ?_
  refine g_mmin hC dX2_keep_35 38 rfl mth_X2_33 mth_min.1 mth_min.2.1 mth_min.2.2 ⟨Nat.le_of_ble_eq_true rfl, Nat.le_of_ble_eq_true rfl, Nat.le_refl _, Nat.le_refl _⟩ (Nat.le_of_ble_eq_true rfl) ?_
  refine g_put (ws2 := offW g a o ++ hisW g h p (keepH H o 0)) hC fp_X2_30 dX2_keep_38 41 rfl 12 rfl rfl rfl (Nat.le_of_ble_eq_true rfl) rfl ?_
  exact g_vret hC hZ dX2_keep_41 ⟨rfl, rfl⟩
set_option maxRecDepth 100000 in
set_option maxHeartbeats 4000000 in
theorem ct_X2_keep1 (l : Launch) (g : gE) (a h : Nat → Nat) (p : Nat → Nat → Nat) (o H : Off) (hi : H 60 2 = 1) : Fn l g yX2_keep cX2_keep 2 none 3 342 0 0 (offW g a o ++ hisW g h p H) [.ref (h 0), .ref (a 0)] (fun r w => r = none ∧ w = offW g a o ++ hisW g h p (keepH H o 1)) := by
  refine Fn.of (by decide) (Nat.le_of_ble_eq_true rfl) (fun x hC hZ => ?_)
  show G x g 2 0 0 (offW g a o ++ hisW g h p H) 0 [(0, .ref (h 0)), (1, .ref (a 0))] []
  -- place 1
  refine g_aload_n hC dX2_keep_0 1 rfl rfl 0 rfl ?_
  refine g_get hC fl_X2_11 dX2_keep_1 4 rfl 12 rfl rfl ?_
  refine g_aload_n hC dX2_keep_4 5 rfl rfl 0 rfl ?_
  refine g_get hC fl_X2_22 dX2_keep_5 8 rfl 12 rfl rfl ?_
  rw [hi]
  refine g_aldq hC dX2_keep_8 9 rfl 13 rfl (vp_in_nI (n := 1) (by decide) (by decide)) ?_
  show G x g 2 0 0 (offW g a o ++ hisW g h p H) 9 [(0, .ref (h 0)), (1, .ref (a 0))] [.ref (p 1 0)]
  refine g_aload_n hC dX2_keep_9 10 rfl rfl 1 rfl ?_
  have p1 : (offW g a o ++ hisW g h p H).Perm (offW g (p 1) (sh H 120) ++ (offW g a o ++ (hisC g h p H ++ (offW g (p 0) (sh H 100) ++ (offW g (p 2) (sh H 140) ++ (offW g (p 3) (sh H 160) ++ (offW g (p 4) (sh H 180) ++ (offW g (p 5) (sh H 200) ++ (offW g (p 6) (sh H 220) ++ (offW g (p 7) (sh H 240) ++ (offW g (p 8) (sh H 260) ++ ([])))))))))))) := mvF [offW g a o, hisC g h p H, offW g (p 0) (sh H 100)] (offW g (p 1) (sh H 120)) (offW g (p 2) (sh H 140) ++ (offW g (p 3) (sh H 160) ++ (offW g (p 4) (sh H 180) ++ (offW g (p 5) (sh H 200) ++ (offW g (p 6) (sh H 220) ++ (offW g (p 7) (sh H 240) ++ (offW g (p 8) (sh H 260) ++ ([]))))))))
  have p2 : (offW g (p 1) o ++ (offW g a o ++ (hisC g h p H ++ (offW g (p 0) (sh H 100) ++ (offW g (p 2) (sh H 140) ++ (offW g (p 3) (sh H 160) ++ (offW g (p 4) (sh H 180) ++ (offW g (p 5) (sh H 200) ++ (offW g (p 6) (sh H 220) ++ (offW g (p 7) (sh H 240) ++ (offW g (p 8) (sh H 260) ++ ([])))))))))))).Perm (offW g a o ++ (hisC g h p H ++ (offW g (p 0) (sh H 100) ++ (offW g (p 1) o ++ (offW g (p 2) (sh H 140) ++ (offW g (p 3) (sh H 160) ++ (offW g (p 4) (sh H 180) ++ (offW g (p 5) (sh H 200) ++ (offW g (p 6) (sh H 220) ++ (offW g (p 7) (sh H 240) ++ (offW g (p 8) (sh H 260) ++ ([])))))))))))) := (mvF [offW g a o, hisC g h p H, offW g (p 0) (sh H 100)] (offW g (p 1) o) (offW g (p 2) (sh H 140) ++ (offW g (p 3) (sh H 160) ++ (offW g (p 4) (sh H 180) ++ (offW g (p 5) (sh H 200) ++ (offW g (p 6) (sh H 220) ++ (offW g (p 7) (sh H 240) ++ (offW g (p 8) (sh H 260) ++ ([]))))))))).symm
  refine g_copyF hC dX2_keep_10 13 rfl ml_X2_26 (hisC g h p H ++ (offW g (p 0) (sh H 100) ++ (offW g (p 2) (sh H 140) ++ (offW g (p 3) (sh H 160) ++ (offW g (p 4) (sh H 180) ++ (offW g (p 5) (sh H 200) ++ (offW g (p 6) (sh H 220) ++ (offW g (p 7) (sh H 240) ++ (offW g (p 8) (sh H 260) ++ ([])))))))))) p1 p2 ⟨Nat.le_of_ble_eq_true rfl, Nat.le_of_ble_eq_true rfl⟩ (Nat.le_of_ble_eq_true rfl) ⟨Nat.le_refl _, Nat.le_refl _⟩ ?_
  refine g_ws (ws2 := offW g a o ++ hisW g h p (put H 120 12 o)) rfl ?_
  refine g_aload_n hC dX2_keep_13 14 rfl rfl 0 rfl ?_
  refine g_aload_n hC dX2_keep_14 15 rfl rfl 0 rfl ?_
  refine g_get (v := .int (H 60 2)) hC fl_X2_22 dX2_keep_15 18 rfl 12 rfl rfl ?_
  rw [hi]
  refine g_iconst hC (1 : Int32) dX2_keep_18 19 rfl iconst_1 ?_
  refine g_iadd hC dX2_keep_19 20 rfl ?_
  refine g_bipush hC (8 : Int32) dX2_keep_20 22 rfl bipush_8 ?_
  refine g_irem hC dX2_keep_22 23 rfl (by decide) ?_
  refine g_put (ws2 := offW g a o ++ hisW g h p (st (put H 120 12 o) 60 2 2)) hC fp_X2_22 dX2_keep_23 26 rfl 12 rfl rfl rfl (Nat.le_of_ble_eq_true rfl) rfl ?_
  refine g_aload_n hC dX2_keep_26 27 rfl rfl 0 rfl ?_
  refine g_aload_n hC dX2_keep_27 28 rfl rfl 0 rfl ?_
  refine g_get (v := .int (H 60 3)) hC fl_X2_30 dX2_keep_28 31 rfl 12 rfl rfl ?_
  refine g_iconst hC (1 : Int32) dX2_keep_31 32 rfl iconst_1 ?_
  refine g_iadd hC dX2_keep_32 33 rfl ?_
  refine g_bipush hC (8 : Int32) dX2_keep_33 35 rfl bipush_8 ?_
  refine g_mmin hC dX2_keep_35 38 rfl mth_X2_33 mth_min.1 mth_min.2.1 mth_min.2.2 ⟨Nat.le_of_ble_eq_true rfl, Nat.le_of_ble_eq_true rfl, Nat.le_refl _, Nat.le_refl _⟩ (Nat.le_of_ble_eq_true rfl) ?_
  refine g_put (ws2 := offW g a o ++ hisW g h p (keepH H o 1)) hC fp_X2_30 dX2_keep_38 41 rfl 12 rfl rfl rfl (Nat.le_of_ble_eq_true rfl) rfl ?_
  exact g_vret hC hZ dX2_keep_41 ⟨rfl, rfl⟩
set_option maxRecDepth 100000 in
set_option maxHeartbeats 4000000 in
theorem ct_X2_keep2 (l : Launch) (g : gE) (a h : Nat → Nat) (p : Nat → Nat → Nat) (o H : Off) (hi : H 60 2 = 2) : Fn l g yX2_keep cX2_keep 2 none 3 342 0 0 (offW g a o ++ hisW g h p H) [.ref (h 0), .ref (a 0)] (fun r w => r = none ∧ w = offW g a o ++ hisW g h p (keepH H o 2)) := by
  refine Fn.of (by decide) (Nat.le_of_ble_eq_true rfl) (fun x hC hZ => ?_)
  show G x g 2 0 0 (offW g a o ++ hisW g h p H) 0 [(0, .ref (h 0)), (1, .ref (a 0))] []
  -- place 2
  refine g_aload_n hC dX2_keep_0 1 rfl rfl 0 rfl ?_
  refine g_get hC fl_X2_11 dX2_keep_1 4 rfl 12 rfl rfl ?_
  refine g_aload_n hC dX2_keep_4 5 rfl rfl 0 rfl ?_
  refine g_get hC fl_X2_22 dX2_keep_5 8 rfl 12 rfl rfl ?_
  rw [hi]
  refine g_aldq hC dX2_keep_8 9 rfl 13 rfl (vp_in_nI (n := 2) (by decide) (by decide)) ?_
  show G x g 2 0 0 (offW g a o ++ hisW g h p H) 9 [(0, .ref (h 0)), (1, .ref (a 0))] [.ref (p 2 0)]
  refine g_aload_n hC dX2_keep_9 10 rfl rfl 1 rfl ?_
  have p1 : (offW g a o ++ hisW g h p H).Perm (offW g (p 2) (sh H 140) ++ (offW g a o ++ (hisC g h p H ++ (offW g (p 0) (sh H 100) ++ (offW g (p 1) (sh H 120) ++ (offW g (p 3) (sh H 160) ++ (offW g (p 4) (sh H 180) ++ (offW g (p 5) (sh H 200) ++ (offW g (p 6) (sh H 220) ++ (offW g (p 7) (sh H 240) ++ (offW g (p 8) (sh H 260) ++ ([])))))))))))) := mvF [offW g a o, hisC g h p H, offW g (p 0) (sh H 100), offW g (p 1) (sh H 120)] (offW g (p 2) (sh H 140)) (offW g (p 3) (sh H 160) ++ (offW g (p 4) (sh H 180) ++ (offW g (p 5) (sh H 200) ++ (offW g (p 6) (sh H 220) ++ (offW g (p 7) (sh H 240) ++ (offW g (p 8) (sh H 260) ++ ([])))))))
  have p2 : (offW g (p 2) o ++ (offW g a o ++ (hisC g h p H ++ (offW g (p 0) (sh H 100) ++ (offW g (p 1) (sh H 120) ++ (offW g (p 3) (sh H 160) ++ (offW g (p 4) (sh H 180) ++ (offW g (p 5) (sh H 200) ++ (offW g (p 6) (sh H 220) ++ (offW g (p 7) (sh H 240) ++ (offW g (p 8) (sh H 260) ++ ([])))))))))))).Perm (offW g a o ++ (hisC g h p H ++ (offW g (p 0) (sh H 100) ++ (offW g (p 1) (sh H 120) ++ (offW g (p 2) o ++ (offW g (p 3) (sh H 160) ++ (offW g (p 4) (sh H 180) ++ (offW g (p 5) (sh H 200) ++ (offW g (p 6) (sh H 220) ++ (offW g (p 7) (sh H 240) ++ (offW g (p 8) (sh H 260) ++ ([])))))))))))) := (mvF [offW g a o, hisC g h p H, offW g (p 0) (sh H 100), offW g (p 1) (sh H 120)] (offW g (p 2) o) (offW g (p 3) (sh H 160) ++ (offW g (p 4) (sh H 180) ++ (offW g (p 5) (sh H 200) ++ (offW g (p 6) (sh H 220) ++ (offW g (p 7) (sh H 240) ++ (offW g (p 8) (sh H 260) ++ ([])))))))).symm
  refine g_copyF hC dX2_keep_10 13 rfl ml_X2_26 (hisC g h p H ++ (offW g (p 0) (sh H 100) ++ (offW g (p 1) (sh H 120) ++ (offW g (p 3) (sh H 160) ++ (offW g (p 4) (sh H 180) ++ (offW g (p 5) (sh H 200) ++ (offW g (p 6) (sh H 220) ++ (offW g (p 7) (sh H 240) ++ (offW g (p 8) (sh H 260) ++ ([])))))))))) p1 p2 ⟨Nat.le_of_ble_eq_true rfl, Nat.le_of_ble_eq_true rfl⟩ (Nat.le_of_ble_eq_true rfl) ⟨Nat.le_refl _, Nat.le_refl _⟩ ?_
  refine g_ws (ws2 := offW g a o ++ hisW g h p (put H 140 12 o)) rfl ?_
  refine g_aload_n hC dX2_keep_13 14 rfl rfl 0 rfl ?_
  refine g_aload_n hC dX2_keep_14 15 rfl rfl 0 rfl ?_
  refine g_get (v := .int (H 60 2)) hC fl_X2_22 dX2_keep_15 18 rfl 12 rfl rfl ?_
  rw [hi]
  refine g_iconst hC (1 : Int32) dX2_keep_18 19 rfl iconst_1 ?_
  refine g_iadd hC dX2_keep_19 20 rfl ?_
  refine g_bipush hC (8 : Int32) dX2_keep_20 22 rfl bipush_8 ?_
  refine g_irem hC dX2_keep_22 23 rfl (by decide) ?_
  refine g_put (ws2 := offW g a o ++ hisW g h p (st (put H 140 12 o) 60 2 3)) hC fp_X2_22 dX2_keep_23 26 rfl 12 rfl rfl rfl (Nat.le_of_ble_eq_true rfl) rfl ?_
  refine g_aload_n hC dX2_keep_26 27 rfl rfl 0 rfl ?_
  refine g_aload_n hC dX2_keep_27 28 rfl rfl 0 rfl ?_
  refine g_get (v := .int (H 60 3)) hC fl_X2_30 dX2_keep_28 31 rfl 12 rfl rfl ?_
  refine g_iconst hC (1 : Int32) dX2_keep_31 32 rfl iconst_1 ?_
  refine g_iadd hC dX2_keep_32 33 rfl ?_
  refine g_bipush hC (8 : Int32) dX2_keep_33 35 rfl bipush_8 ?_
  refine g_mmin hC dX2_keep_35 38 rfl mth_X2_33 mth_min.1 mth_min.2.1 mth_min.2.2 ⟨Nat.le_of_ble_eq_true rfl, Nat.le_of_ble_eq_true rfl, Nat.le_refl _, Nat.le_refl _⟩ (Nat.le_of_ble_eq_true rfl) ?_
  refine g_put (ws2 := offW g a o ++ hisW g h p (keepH H o 2)) hC fp_X2_30 dX2_keep_38 41 rfl 12 rfl rfl rfl (Nat.le_of_ble_eq_true rfl) rfl ?_
  exact g_vret hC hZ dX2_keep_41 ⟨rfl, rfl⟩
set_option maxRecDepth 100000 in
set_option maxHeartbeats 4000000 in
theorem ct_X2_keep3 (l : Launch) (g : gE) (a h : Nat → Nat) (p : Nat → Nat → Nat) (o H : Off) (hi : H 60 2 = 3) : Fn l g yX2_keep cX2_keep 2 none 3 342 0 0 (offW g a o ++ hisW g h p H) [.ref (h 0), .ref (a 0)] (fun r w => r = none ∧ w = offW g a o ++ hisW g h p (keepH H o 3)) := by
  refine Fn.of (by decide) (Nat.le_of_ble_eq_true rfl) (fun x hC hZ => ?_)
  show G x g 2 0 0 (offW g a o ++ hisW g h p H) 0 [(0, .ref (h 0)), (1, .ref (a 0))] []
  -- place 3
  refine g_aload_n hC dX2_keep_0 1 rfl rfl 0 rfl ?_
  refine g_get hC fl_X2_11 dX2_keep_1 4 rfl 12 rfl rfl ?_
  refine g_aload_n hC dX2_keep_4 5 rfl rfl 0 rfl ?_
  refine g_get hC fl_X2_22 dX2_keep_5 8 rfl 12 rfl rfl ?_
  rw [hi]
  refine g_aldq hC dX2_keep_8 9 rfl 13 rfl (vp_in_nI (n := 3) (by decide) (by decide)) ?_
  show G x g 2 0 0 (offW g a o ++ hisW g h p H) 9 [(0, .ref (h 0)), (1, .ref (a 0))] [.ref (p 3 0)]
  refine g_aload_n hC dX2_keep_9 10 rfl rfl 1 rfl ?_
  have p1 : (offW g a o ++ hisW g h p H).Perm (offW g (p 3) (sh H 160) ++ (offW g a o ++ (hisC g h p H ++ (offW g (p 0) (sh H 100) ++ (offW g (p 1) (sh H 120) ++ (offW g (p 2) (sh H 140) ++ (offW g (p 4) (sh H 180) ++ (offW g (p 5) (sh H 200) ++ (offW g (p 6) (sh H 220) ++ (offW g (p 7) (sh H 240) ++ (offW g (p 8) (sh H 260) ++ ([])))))))))))) := mvF [offW g a o, hisC g h p H, offW g (p 0) (sh H 100), offW g (p 1) (sh H 120), offW g (p 2) (sh H 140)] (offW g (p 3) (sh H 160)) (offW g (p 4) (sh H 180) ++ (offW g (p 5) (sh H 200) ++ (offW g (p 6) (sh H 220) ++ (offW g (p 7) (sh H 240) ++ (offW g (p 8) (sh H 260) ++ ([]))))))
  have p2 : (offW g (p 3) o ++ (offW g a o ++ (hisC g h p H ++ (offW g (p 0) (sh H 100) ++ (offW g (p 1) (sh H 120) ++ (offW g (p 2) (sh H 140) ++ (offW g (p 4) (sh H 180) ++ (offW g (p 5) (sh H 200) ++ (offW g (p 6) (sh H 220) ++ (offW g (p 7) (sh H 240) ++ (offW g (p 8) (sh H 260) ++ ([])))))))))))).Perm (offW g a o ++ (hisC g h p H ++ (offW g (p 0) (sh H 100) ++ (offW g (p 1) (sh H 120) ++ (offW g (p 2) (sh H 140) ++ (offW g (p 3) o ++ (offW g (p 4) (sh H 180) ++ (offW g (p 5) (sh H 200) ++ (offW g (p 6) (sh H 220) ++ (offW g (p 7) (sh H 240) ++ (offW g (p 8) (sh H 260) ++ ([])))))))))))) := (mvF [offW g a o, hisC g h p H, offW g (p 0) (sh H 100), offW g (p 1) (sh H 120), offW g (p 2) (sh H 140)] (offW g (p 3) o) (offW g (p 4) (sh H 180) ++ (offW g (p 5) (sh H 200) ++ (offW g (p 6) (sh H 220) ++ (offW g (p 7) (sh H 240) ++ (offW g (p 8) (sh H 260) ++ ([]))))))).symm
  refine g_copyF hC dX2_keep_10 13 rfl ml_X2_26 (hisC g h p H ++ (offW g (p 0) (sh H 100) ++ (offW g (p 1) (sh H 120) ++ (offW g (p 2) (sh H 140) ++ (offW g (p 4) (sh H 180) ++ (offW g (p 5) (sh H 200) ++ (offW g (p 6) (sh H 220) ++ (offW g (p 7) (sh H 240) ++ (offW g (p 8) (sh H 260) ++ ([])))))))))) p1 p2 ⟨Nat.le_of_ble_eq_true rfl, Nat.le_of_ble_eq_true rfl⟩ (Nat.le_of_ble_eq_true rfl) ⟨Nat.le_refl _, Nat.le_refl _⟩ ?_
  refine g_ws (ws2 := offW g a o ++ hisW g h p (put H 160 12 o)) rfl ?_
  refine g_aload_n hC dX2_keep_13 14 rfl rfl 0 rfl ?_
  refine g_aload_n hC dX2_keep_14 15 rfl rfl 0 rfl ?_
  refine g_get (v := .int (H 60 2)) hC fl_X2_22 dX2_keep_15 18 rfl 12 rfl rfl ?_
  rw [hi]
  refine g_iconst hC (1 : Int32) dX2_keep_18 19 rfl iconst_1 ?_
  refine g_iadd hC dX2_keep_19 20 rfl ?_
  refine g_bipush hC (8 : Int32) dX2_keep_20 22 rfl bipush_8 ?_
  refine g_irem hC dX2_keep_22 23 rfl (by decide) ?_
  refine g_put (ws2 := offW g a o ++ hisW g h p (st (put H 160 12 o) 60 2 4)) hC fp_X2_22 dX2_keep_23 26 rfl 12 rfl rfl rfl (Nat.le_of_ble_eq_true rfl) rfl ?_
  refine g_aload_n hC dX2_keep_26 27 rfl rfl 0 rfl ?_
  refine g_aload_n hC dX2_keep_27 28 rfl rfl 0 rfl ?_
  refine g_get (v := .int (H 60 3)) hC fl_X2_30 dX2_keep_28 31 rfl 12 rfl rfl ?_
  refine g_iconst hC (1 : Int32) dX2_keep_31 32 rfl iconst_1 ?_
  refine g_iadd hC dX2_keep_32 33 rfl ?_
  refine g_bipush hC (8 : Int32) dX2_keep_33 35 rfl bipush_8 ?_
  refine g_mmin hC dX2_keep_35 38 rfl mth_X2_33 mth_min.1 mth_min.2.1 mth_min.2.2 ⟨Nat.le_of_ble_eq_true rfl, Nat.le_of_ble_eq_true rfl, Nat.le_refl _, Nat.le_refl _⟩ (Nat.le_of_ble_eq_true rfl) ?_
  refine g_put (ws2 := offW g a o ++ hisW g h p (keepH H o 3)) hC fp_X2_30 dX2_keep_38 41 rfl 12 rfl rfl rfl (Nat.le_of_ble_eq_true rfl) rfl ?_
  exact g_vret hC hZ dX2_keep_41 ⟨rfl, rfl⟩
set_option maxRecDepth 100000 in
set_option maxHeartbeats 4000000 in
theorem ct_X2_keep4 (l : Launch) (g : gE) (a h : Nat → Nat) (p : Nat → Nat → Nat) (o H : Off) (hi : H 60 2 = 4) : Fn l g yX2_keep cX2_keep 2 none 3 342 0 0 (offW g a o ++ hisW g h p H) [.ref (h 0), .ref (a 0)] (fun r w => r = none ∧ w = offW g a o ++ hisW g h p (keepH H o 4)) := by
  refine Fn.of (by decide) (Nat.le_of_ble_eq_true rfl) (fun x hC hZ => ?_)
  show G x g 2 0 0 (offW g a o ++ hisW g h p H) 0 [(0, .ref (h 0)), (1, .ref (a 0))] []
  -- place 4
  refine g_aload_n hC dX2_keep_0 1 rfl rfl 0 rfl ?_
  refine g_get hC fl_X2_11 dX2_keep_1 4 rfl 12 rfl rfl ?_
  refine g_aload_n hC dX2_keep_4 5 rfl rfl 0 rfl ?_
  refine g_get hC fl_X2_22 dX2_keep_5 8 rfl 12 rfl rfl ?_
  rw [hi]
  refine g_aldq hC dX2_keep_8 9 rfl 13 rfl (vp_in_nI (n := 4) (by decide) (by decide)) ?_
  show G x g 2 0 0 (offW g a o ++ hisW g h p H) 9 [(0, .ref (h 0)), (1, .ref (a 0))] [.ref (p 4 0)]
  refine g_aload_n hC dX2_keep_9 10 rfl rfl 1 rfl ?_
  have p1 : (offW g a o ++ hisW g h p H).Perm (offW g (p 4) (sh H 180) ++ (offW g a o ++ (hisC g h p H ++ (offW g (p 0) (sh H 100) ++ (offW g (p 1) (sh H 120) ++ (offW g (p 2) (sh H 140) ++ (offW g (p 3) (sh H 160) ++ (offW g (p 5) (sh H 200) ++ (offW g (p 6) (sh H 220) ++ (offW g (p 7) (sh H 240) ++ (offW g (p 8) (sh H 260) ++ ([])))))))))))) := mvF [offW g a o, hisC g h p H, offW g (p 0) (sh H 100), offW g (p 1) (sh H 120), offW g (p 2) (sh H 140), offW g (p 3) (sh H 160)] (offW g (p 4) (sh H 180)) (offW g (p 5) (sh H 200) ++ (offW g (p 6) (sh H 220) ++ (offW g (p 7) (sh H 240) ++ (offW g (p 8) (sh H 260) ++ ([])))))
  have p2 : (offW g (p 4) o ++ (offW g a o ++ (hisC g h p H ++ (offW g (p 0) (sh H 100) ++ (offW g (p 1) (sh H 120) ++ (offW g (p 2) (sh H 140) ++ (offW g (p 3) (sh H 160) ++ (offW g (p 5) (sh H 200) ++ (offW g (p 6) (sh H 220) ++ (offW g (p 7) (sh H 240) ++ (offW g (p 8) (sh H 260) ++ ([])))))))))))).Perm (offW g a o ++ (hisC g h p H ++ (offW g (p 0) (sh H 100) ++ (offW g (p 1) (sh H 120) ++ (offW g (p 2) (sh H 140) ++ (offW g (p 3) (sh H 160) ++ (offW g (p 4) o ++ (offW g (p 5) (sh H 200) ++ (offW g (p 6) (sh H 220) ++ (offW g (p 7) (sh H 240) ++ (offW g (p 8) (sh H 260) ++ ([])))))))))))) := (mvF [offW g a o, hisC g h p H, offW g (p 0) (sh H 100), offW g (p 1) (sh H 120), offW g (p 2) (sh H 140), offW g (p 3) (sh H 160)] (offW g (p 4) o) (offW g (p 5) (sh H 200) ++ (offW g (p 6) (sh H 220) ++ (offW g (p 7) (sh H 240) ++ (offW g (p 8) (sh H 260) ++ ([])))))).symm
  refine g_copyF hC dX2_keep_10 13 rfl ml_X2_26 (hisC g h p H ++ (offW g (p 0) (sh H 100) ++ (offW g (p 1) (sh H 120) ++ (offW g (p 2) (sh H 140) ++ (offW g (p 3) (sh H 160) ++ (offW g (p 5) (sh H 200) ++ (offW g (p 6) (sh H 220) ++ (offW g (p 7) (sh H 240) ++ (offW g (p 8) (sh H 260) ++ ([])))))))))) p1 p2 ⟨Nat.le_of_ble_eq_true rfl, Nat.le_of_ble_eq_true rfl⟩ (Nat.le_of_ble_eq_true rfl) ⟨Nat.le_refl _, Nat.le_refl _⟩ ?_
  refine g_ws (ws2 := offW g a o ++ hisW g h p (put H 180 12 o)) rfl ?_
  refine g_aload_n hC dX2_keep_13 14 rfl rfl 0 rfl ?_
  refine g_aload_n hC dX2_keep_14 15 rfl rfl 0 rfl ?_
  refine g_get (v := .int (H 60 2)) hC fl_X2_22 dX2_keep_15 18 rfl 12 rfl rfl ?_
  rw [hi]
  refine g_iconst hC (1 : Int32) dX2_keep_18 19 rfl iconst_1 ?_
  refine g_iadd hC dX2_keep_19 20 rfl ?_
  refine g_bipush hC (8 : Int32) dX2_keep_20 22 rfl bipush_8 ?_
  refine g_irem hC dX2_keep_22 23 rfl (by decide) ?_
  refine g_put (ws2 := offW g a o ++ hisW g h p (st (put H 180 12 o) 60 2 5)) hC fp_X2_22 dX2_keep_23 26 rfl 12 rfl rfl rfl (Nat.le_of_ble_eq_true rfl) rfl ?_
  refine g_aload_n hC dX2_keep_26 27 rfl rfl 0 rfl ?_
  refine g_aload_n hC dX2_keep_27 28 rfl rfl 0 rfl ?_
  refine g_get (v := .int (H 60 3)) hC fl_X2_30 dX2_keep_28 31 rfl 12 rfl rfl ?_
  refine g_iconst hC (1 : Int32) dX2_keep_31 32 rfl iconst_1 ?_
  refine g_iadd hC dX2_keep_32 33 rfl ?_
  refine g_bipush hC (8 : Int32) dX2_keep_33 35 rfl bipush_8 ?_
  refine g_mmin hC dX2_keep_35 38 rfl mth_X2_33 mth_min.1 mth_min.2.1 mth_min.2.2 ⟨Nat.le_of_ble_eq_true rfl, Nat.le_of_ble_eq_true rfl, Nat.le_refl _, Nat.le_refl _⟩ (Nat.le_of_ble_eq_true rfl) ?_
  refine g_put (ws2 := offW g a o ++ hisW g h p (keepH H o 4)) hC fp_X2_30 dX2_keep_38 41 rfl 12 rfl rfl rfl (Nat.le_of_ble_eq_true rfl) rfl ?_
  exact g_vret hC hZ dX2_keep_41 ⟨rfl, rfl⟩
set_option maxRecDepth 100000 in
set_option maxHeartbeats 4000000 in
theorem ct_X2_keep5 (l : Launch) (g : gE) (a h : Nat → Nat) (p : Nat → Nat → Nat) (o H : Off) (hi : H 60 2 = 5) : Fn l g yX2_keep cX2_keep 2 none 3 342 0 0 (offW g a o ++ hisW g h p H) [.ref (h 0), .ref (a 0)] (fun r w => r = none ∧ w = offW g a o ++ hisW g h p (keepH H o 5)) := by
  refine Fn.of (by decide) (Nat.le_of_ble_eq_true rfl) (fun x hC hZ => ?_)
  show G x g 2 0 0 (offW g a o ++ hisW g h p H) 0 [(0, .ref (h 0)), (1, .ref (a 0))] []
  -- place 5
  refine g_aload_n hC dX2_keep_0 1 rfl rfl 0 rfl ?_
  refine g_get hC fl_X2_11 dX2_keep_1 4 rfl 12 rfl rfl ?_
  refine g_aload_n hC dX2_keep_4 5 rfl rfl 0 rfl ?_
  refine g_get hC fl_X2_22 dX2_keep_5 8 rfl 12 rfl rfl ?_
  rw [hi]
  refine g_aldq hC dX2_keep_8 9 rfl 13 rfl (vp_in_nI (n := 5) (by decide) (by decide)) ?_
  show G x g 2 0 0 (offW g a o ++ hisW g h p H) 9 [(0, .ref (h 0)), (1, .ref (a 0))] [.ref (p 5 0)]
  refine g_aload_n hC dX2_keep_9 10 rfl rfl 1 rfl ?_
  have p1 : (offW g a o ++ hisW g h p H).Perm (offW g (p 5) (sh H 200) ++ (offW g a o ++ (hisC g h p H ++ (offW g (p 0) (sh H 100) ++ (offW g (p 1) (sh H 120) ++ (offW g (p 2) (sh H 140) ++ (offW g (p 3) (sh H 160) ++ (offW g (p 4) (sh H 180) ++ (offW g (p 6) (sh H 220) ++ (offW g (p 7) (sh H 240) ++ (offW g (p 8) (sh H 260) ++ ([])))))))))))) := mvF [offW g a o, hisC g h p H, offW g (p 0) (sh H 100), offW g (p 1) (sh H 120), offW g (p 2) (sh H 140), offW g (p 3) (sh H 160), offW g (p 4) (sh H 180)] (offW g (p 5) (sh H 200)) (offW g (p 6) (sh H 220) ++ (offW g (p 7) (sh H 240) ++ (offW g (p 8) (sh H 260) ++ ([]))))
  have p2 : (offW g (p 5) o ++ (offW g a o ++ (hisC g h p H ++ (offW g (p 0) (sh H 100) ++ (offW g (p 1) (sh H 120) ++ (offW g (p 2) (sh H 140) ++ (offW g (p 3) (sh H 160) ++ (offW g (p 4) (sh H 180) ++ (offW g (p 6) (sh H 220) ++ (offW g (p 7) (sh H 240) ++ (offW g (p 8) (sh H 260) ++ ([])))))))))))).Perm (offW g a o ++ (hisC g h p H ++ (offW g (p 0) (sh H 100) ++ (offW g (p 1) (sh H 120) ++ (offW g (p 2) (sh H 140) ++ (offW g (p 3) (sh H 160) ++ (offW g (p 4) (sh H 180) ++ (offW g (p 5) o ++ (offW g (p 6) (sh H 220) ++ (offW g (p 7) (sh H 240) ++ (offW g (p 8) (sh H 260) ++ ([])))))))))))) := (mvF [offW g a o, hisC g h p H, offW g (p 0) (sh H 100), offW g (p 1) (sh H 120), offW g (p 2) (sh H 140), offW g (p 3) (sh H 160), offW g (p 4) (sh H 180)] (offW g (p 5) o) (offW g (p 6) (sh H 220) ++ (offW g (p 7) (sh H 240) ++ (offW g (p 8) (sh H 260) ++ ([]))))).symm
  refine g_copyF hC dX2_keep_10 13 rfl ml_X2_26 (hisC g h p H ++ (offW g (p 0) (sh H 100) ++ (offW g (p 1) (sh H 120) ++ (offW g (p 2) (sh H 140) ++ (offW g (p 3) (sh H 160) ++ (offW g (p 4) (sh H 180) ++ (offW g (p 6) (sh H 220) ++ (offW g (p 7) (sh H 240) ++ (offW g (p 8) (sh H 260) ++ ([])))))))))) p1 p2 ⟨Nat.le_of_ble_eq_true rfl, Nat.le_of_ble_eq_true rfl⟩ (Nat.le_of_ble_eq_true rfl) ⟨Nat.le_refl _, Nat.le_refl _⟩ ?_
  refine g_ws (ws2 := offW g a o ++ hisW g h p (put H 200 12 o)) rfl ?_
  refine g_aload_n hC dX2_keep_13 14 rfl rfl 0 rfl ?_
  refine g_aload_n hC dX2_keep_14 15 rfl rfl 0 rfl ?_
  refine g_get (v := .int (H 60 2)) hC fl_X2_22 dX2_keep_15 18 rfl 12 rfl rfl ?_
  rw [hi]
  refine g_iconst hC (1 : Int32) dX2_keep_18 19 rfl iconst_1 ?_
  refine g_iadd hC dX2_keep_19 20 rfl ?_
  refine g_bipush hC (8 : Int32) dX2_keep_20 22 rfl bipush_8 ?_
  refine g_irem hC dX2_keep_22 23 rfl (by decide) ?_
  refine g_put (ws2 := offW g a o ++ hisW g h p (st (put H 200 12 o) 60 2 6)) hC fp_X2_22 dX2_keep_23 26 rfl 12 rfl rfl rfl (Nat.le_of_ble_eq_true rfl) rfl ?_
  refine g_aload_n hC dX2_keep_26 27 rfl rfl 0 rfl ?_
  refine g_aload_n hC dX2_keep_27 28 rfl rfl 0 rfl ?_
  refine g_get (v := .int (H 60 3)) hC fl_X2_30 dX2_keep_28 31 rfl 12 rfl rfl ?_
  refine g_iconst hC (1 : Int32) dX2_keep_31 32 rfl iconst_1 ?_
  refine g_iadd hC dX2_keep_32 33 rfl ?_
  refine g_bipush hC (8 : Int32) dX2_keep_33 35 rfl bipush_8 ?_
  refine g_mmin hC dX2_keep_35 38 rfl mth_X2_33 mth_min.1 mth_min.2.1 mth_min.2.2 ⟨Nat.le_of_ble_eq_true rfl, Nat.le_of_ble_eq_true rfl, Nat.le_refl _, Nat.le_refl _⟩ (Nat.le_of_ble_eq_true rfl) ?_
  refine g_put (ws2 := offW g a o ++ hisW g h p (keepH H o 5)) hC fp_X2_30 dX2_keep_38 41 rfl 12 rfl rfl rfl (Nat.le_of_ble_eq_true rfl) rfl ?_
  exact g_vret hC hZ dX2_keep_41 ⟨rfl, rfl⟩
set_option maxRecDepth 100000 in
set_option maxHeartbeats 4000000 in
theorem ct_X2_keep6 (l : Launch) (g : gE) (a h : Nat → Nat) (p : Nat → Nat → Nat) (o H : Off) (hi : H 60 2 = 6) : Fn l g yX2_keep cX2_keep 2 none 3 342 0 0 (offW g a o ++ hisW g h p H) [.ref (h 0), .ref (a 0)] (fun r w => r = none ∧ w = offW g a o ++ hisW g h p (keepH H o 6)) := by
  refine Fn.of (by decide) (Nat.le_of_ble_eq_true rfl) (fun x hC hZ => ?_)
  show G x g 2 0 0 (offW g a o ++ hisW g h p H) 0 [(0, .ref (h 0)), (1, .ref (a 0))] []
  -- place 6
  refine g_aload_n hC dX2_keep_0 1 rfl rfl 0 rfl ?_
  refine g_get hC fl_X2_11 dX2_keep_1 4 rfl 12 rfl rfl ?_
  refine g_aload_n hC dX2_keep_4 5 rfl rfl 0 rfl ?_
  refine g_get hC fl_X2_22 dX2_keep_5 8 rfl 12 rfl rfl ?_
  rw [hi]
  refine g_aldq hC dX2_keep_8 9 rfl 13 rfl (vp_in_nI (n := 6) (by decide) (by decide)) ?_
  show G x g 2 0 0 (offW g a o ++ hisW g h p H) 9 [(0, .ref (h 0)), (1, .ref (a 0))] [.ref (p 6 0)]
  refine g_aload_n hC dX2_keep_9 10 rfl rfl 1 rfl ?_
  have p1 : (offW g a o ++ hisW g h p H).Perm (offW g (p 6) (sh H 220) ++ (offW g a o ++ (hisC g h p H ++ (offW g (p 0) (sh H 100) ++ (offW g (p 1) (sh H 120) ++ (offW g (p 2) (sh H 140) ++ (offW g (p 3) (sh H 160) ++ (offW g (p 4) (sh H 180) ++ (offW g (p 5) (sh H 200) ++ (offW g (p 7) (sh H 240) ++ (offW g (p 8) (sh H 260) ++ ([])))))))))))) := mvF [offW g a o, hisC g h p H, offW g (p 0) (sh H 100), offW g (p 1) (sh H 120), offW g (p 2) (sh H 140), offW g (p 3) (sh H 160), offW g (p 4) (sh H 180), offW g (p 5) (sh H 200)] (offW g (p 6) (sh H 220)) (offW g (p 7) (sh H 240) ++ (offW g (p 8) (sh H 260) ++ ([])))
  have p2 : (offW g (p 6) o ++ (offW g a o ++ (hisC g h p H ++ (offW g (p 0) (sh H 100) ++ (offW g (p 1) (sh H 120) ++ (offW g (p 2) (sh H 140) ++ (offW g (p 3) (sh H 160) ++ (offW g (p 4) (sh H 180) ++ (offW g (p 5) (sh H 200) ++ (offW g (p 7) (sh H 240) ++ (offW g (p 8) (sh H 260) ++ ([])))))))))))).Perm (offW g a o ++ (hisC g h p H ++ (offW g (p 0) (sh H 100) ++ (offW g (p 1) (sh H 120) ++ (offW g (p 2) (sh H 140) ++ (offW g (p 3) (sh H 160) ++ (offW g (p 4) (sh H 180) ++ (offW g (p 5) (sh H 200) ++ (offW g (p 6) o ++ (offW g (p 7) (sh H 240) ++ (offW g (p 8) (sh H 260) ++ ([])))))))))))) := (mvF [offW g a o, hisC g h p H, offW g (p 0) (sh H 100), offW g (p 1) (sh H 120), offW g (p 2) (sh H 140), offW g (p 3) (sh H 160), offW g (p 4) (sh H 180), offW g (p 5) (sh H 200)] (offW g (p 6) o) (offW g (p 7) (sh H 240) ++ (offW g (p 8) (sh H 260) ++ ([])))).symm
  refine g_copyF hC dX2_keep_10 13 rfl ml_X2_26 (hisC g h p H ++ (offW g (p 0) (sh H 100) ++ (offW g (p 1) (sh H 120) ++ (offW g (p 2) (sh H 140) ++ (offW g (p 3) (sh H 160) ++ (offW g (p 4) (sh H 180) ++ (offW g (p 5) (sh H 200) ++ (offW g (p 7) (sh H 240) ++ (offW g (p 8) (sh H 260) ++ ([])))))))))) p1 p2 ⟨Nat.le_of_ble_eq_true rfl, Nat.le_of_ble_eq_true rfl⟩ (Nat.le_of_ble_eq_true rfl) ⟨Nat.le_refl _, Nat.le_refl _⟩ ?_
  refine g_ws (ws2 := offW g a o ++ hisW g h p (put H 220 12 o)) rfl ?_
  refine g_aload_n hC dX2_keep_13 14 rfl rfl 0 rfl ?_
  refine g_aload_n hC dX2_keep_14 15 rfl rfl 0 rfl ?_
  refine g_get (v := .int (H 60 2)) hC fl_X2_22 dX2_keep_15 18 rfl 12 rfl rfl ?_
  rw [hi]
  refine g_iconst hC (1 : Int32) dX2_keep_18 19 rfl iconst_1 ?_
  refine g_iadd hC dX2_keep_19 20 rfl ?_
  refine g_bipush hC (8 : Int32) dX2_keep_20 22 rfl bipush_8 ?_
  refine g_irem hC dX2_keep_22 23 rfl (by decide) ?_
  refine g_put (ws2 := offW g a o ++ hisW g h p (st (put H 220 12 o) 60 2 7)) hC fp_X2_22 dX2_keep_23 26 rfl 12 rfl rfl rfl (Nat.le_of_ble_eq_true rfl) rfl ?_
  refine g_aload_n hC dX2_keep_26 27 rfl rfl 0 rfl ?_
  refine g_aload_n hC dX2_keep_27 28 rfl rfl 0 rfl ?_
  refine g_get (v := .int (H 60 3)) hC fl_X2_30 dX2_keep_28 31 rfl 12 rfl rfl ?_
  refine g_iconst hC (1 : Int32) dX2_keep_31 32 rfl iconst_1 ?_
  refine g_iadd hC dX2_keep_32 33 rfl ?_
  refine g_bipush hC (8 : Int32) dX2_keep_33 35 rfl bipush_8 ?_
  refine g_mmin hC dX2_keep_35 38 rfl mth_X2_33 mth_min.1 mth_min.2.1 mth_min.2.2 ⟨Nat.le_of_ble_eq_true rfl, Nat.le_of_ble_eq_true rfl, Nat.le_refl _, Nat.le_refl _⟩ (Nat.le_of_ble_eq_true rfl) ?_
  refine g_put (ws2 := offW g a o ++ hisW g h p (keepH H o 6)) hC fp_X2_30 dX2_keep_38 41 rfl 12 rfl rfl rfl (Nat.le_of_ble_eq_true rfl) rfl ?_
  exact g_vret hC hZ dX2_keep_41 ⟨rfl, rfl⟩
set_option maxRecDepth 100000 in
set_option maxHeartbeats 4000000 in
theorem ct_X2_keep7 (l : Launch) (g : gE) (a h : Nat → Nat) (p : Nat → Nat → Nat) (o H : Off) (hi : H 60 2 = 7) : Fn l g yX2_keep cX2_keep 2 none 3 342 0 0 (offW g a o ++ hisW g h p H) [.ref (h 0), .ref (a 0)] (fun r w => r = none ∧ w = offW g a o ++ hisW g h p (keepH H o 7)) := by
  refine Fn.of (by decide) (Nat.le_of_ble_eq_true rfl) (fun x hC hZ => ?_)
  show G x g 2 0 0 (offW g a o ++ hisW g h p H) 0 [(0, .ref (h 0)), (1, .ref (a 0))] []
  -- place 7
  refine g_aload_n hC dX2_keep_0 1 rfl rfl 0 rfl ?_
  refine g_get hC fl_X2_11 dX2_keep_1 4 rfl 12 rfl rfl ?_
  refine g_aload_n hC dX2_keep_4 5 rfl rfl 0 rfl ?_
  refine g_get hC fl_X2_22 dX2_keep_5 8 rfl 12 rfl rfl ?_
  rw [hi]
  refine g_aldq hC dX2_keep_8 9 rfl 13 rfl (vp_in_nI (n := 7) (by decide) (by decide)) ?_
  show G x g 2 0 0 (offW g a o ++ hisW g h p H) 9 [(0, .ref (h 0)), (1, .ref (a 0))] [.ref (p 7 0)]
  refine g_aload_n hC dX2_keep_9 10 rfl rfl 1 rfl ?_
  have p1 : (offW g a o ++ hisW g h p H).Perm (offW g (p 7) (sh H 240) ++ (offW g a o ++ (hisC g h p H ++ (offW g (p 0) (sh H 100) ++ (offW g (p 1) (sh H 120) ++ (offW g (p 2) (sh H 140) ++ (offW g (p 3) (sh H 160) ++ (offW g (p 4) (sh H 180) ++ (offW g (p 5) (sh H 200) ++ (offW g (p 6) (sh H 220) ++ (offW g (p 8) (sh H 260) ++ ([])))))))))))) := mvF [offW g a o, hisC g h p H, offW g (p 0) (sh H 100), offW g (p 1) (sh H 120), offW g (p 2) (sh H 140), offW g (p 3) (sh H 160), offW g (p 4) (sh H 180), offW g (p 5) (sh H 200), offW g (p 6) (sh H 220)] (offW g (p 7) (sh H 240)) (offW g (p 8) (sh H 260) ++ ([]))
  have p2 : (offW g (p 7) o ++ (offW g a o ++ (hisC g h p H ++ (offW g (p 0) (sh H 100) ++ (offW g (p 1) (sh H 120) ++ (offW g (p 2) (sh H 140) ++ (offW g (p 3) (sh H 160) ++ (offW g (p 4) (sh H 180) ++ (offW g (p 5) (sh H 200) ++ (offW g (p 6) (sh H 220) ++ (offW g (p 8) (sh H 260) ++ ([])))))))))))).Perm (offW g a o ++ (hisC g h p H ++ (offW g (p 0) (sh H 100) ++ (offW g (p 1) (sh H 120) ++ (offW g (p 2) (sh H 140) ++ (offW g (p 3) (sh H 160) ++ (offW g (p 4) (sh H 180) ++ (offW g (p 5) (sh H 200) ++ (offW g (p 6) (sh H 220) ++ (offW g (p 7) o ++ (offW g (p 8) (sh H 260) ++ ([])))))))))))) := (mvF [offW g a o, hisC g h p H, offW g (p 0) (sh H 100), offW g (p 1) (sh H 120), offW g (p 2) (sh H 140), offW g (p 3) (sh H 160), offW g (p 4) (sh H 180), offW g (p 5) (sh H 200), offW g (p 6) (sh H 220)] (offW g (p 7) o) (offW g (p 8) (sh H 260) ++ ([]))).symm
  refine g_copyF hC dX2_keep_10 13 rfl ml_X2_26 (hisC g h p H ++ (offW g (p 0) (sh H 100) ++ (offW g (p 1) (sh H 120) ++ (offW g (p 2) (sh H 140) ++ (offW g (p 3) (sh H 160) ++ (offW g (p 4) (sh H 180) ++ (offW g (p 5) (sh H 200) ++ (offW g (p 6) (sh H 220) ++ (offW g (p 8) (sh H 260) ++ ([])))))))))) p1 p2 ⟨Nat.le_of_ble_eq_true rfl, Nat.le_of_ble_eq_true rfl⟩ (Nat.le_of_ble_eq_true rfl) ⟨Nat.le_refl _, Nat.le_refl _⟩ ?_
  refine g_ws (ws2 := offW g a o ++ hisW g h p (put H 240 12 o)) rfl ?_
  refine g_aload_n hC dX2_keep_13 14 rfl rfl 0 rfl ?_
  refine g_aload_n hC dX2_keep_14 15 rfl rfl 0 rfl ?_
  refine g_get (v := .int (H 60 2)) hC fl_X2_22 dX2_keep_15 18 rfl 12 rfl rfl ?_
  rw [hi]
  refine g_iconst hC (1 : Int32) dX2_keep_18 19 rfl iconst_1 ?_
  refine g_iadd hC dX2_keep_19 20 rfl ?_
  refine g_bipush hC (8 : Int32) dX2_keep_20 22 rfl bipush_8 ?_
  refine g_irem hC dX2_keep_22 23 rfl (by decide) ?_
  refine g_put (ws2 := offW g a o ++ hisW g h p (st (put H 240 12 o) 60 2 0)) hC fp_X2_22 dX2_keep_23 26 rfl 12 rfl rfl rfl (Nat.le_of_ble_eq_true rfl) rfl ?_
  refine g_aload_n hC dX2_keep_26 27 rfl rfl 0 rfl ?_
  refine g_aload_n hC dX2_keep_27 28 rfl rfl 0 rfl ?_
  refine g_get (v := .int (H 60 3)) hC fl_X2_30 dX2_keep_28 31 rfl 12 rfl rfl ?_
  refine g_iconst hC (1 : Int32) dX2_keep_31 32 rfl iconst_1 ?_
  refine g_iadd hC dX2_keep_32 33 rfl ?_
  refine g_bipush hC (8 : Int32) dX2_keep_33 35 rfl bipush_8 ?_
  refine g_mmin hC dX2_keep_35 38 rfl mth_X2_33 mth_min.1 mth_min.2.1 mth_min.2.2 ⟨Nat.le_of_ble_eq_true rfl, Nat.le_of_ble_eq_true rfl, Nat.le_refl _, Nat.le_refl _⟩ (Nat.le_of_ble_eq_true rfl) ?_
  refine g_put (ws2 := offW g a o ++ hisW g h p (keepH H o 7)) hC fp_X2_30 dX2_keep_38 41 rfl 12 rfl rfl rfl (Nat.le_of_ble_eq_true rfl) rfl ?_
  exact g_vret hC hZ dX2_keep_41 ⟨rfl, rfl⟩
theorem ct_X2_keep (l : Launch) (g : gE) (a h : Nat → Nat) (p : Nat → Nat → Nat) (o H : Off) (i : Nat) (hi8 : i < 8) (hi : H 60 2 = nI i) : Fn l g yX2_keep cX2_keep 2 none 3 342 0 0 (offW g a o ++ hisW g h p H) [.ref (h 0), .ref (a 0)] (fun r w => r = none ∧ w = offW g a o ++ hisW g h p (keepH H o i)) := by
  rcases (show i = 0 ∨ i = 1 ∨ i = 2 ∨ i = 3 ∨ i = 4 ∨ i = 5 ∨ i = 6 ∨ i = 7 by omega) with rfl | rfl | rfl | rfl | rfl | rfl | rfl | rfl
  · exact ct_X2_keep0 l g a h p o H hi
  · exact ct_X2_keep1 l g a h p o H hi
  · exact ct_X2_keep2 l g a h p o H hi
  · exact ct_X2_keep3 l g a h p o H hi
  · exact ct_X2_keep4 l g a h p o H hi
  · exact ct_X2_keep5 l g a h p o H hi
  · exact ct_X2_keep6 l g a h p o H hi
  · exact ct_X2_keep7 l g a h p o H hi
def backH (H : Off) (i : Nat) : Off := st (st H 60 2 (nI i)) 60 3 (H 60 3 - 1)
set_option maxRecDepth 100000 in
set_option maxHeartbeats 4000000 in
theorem ct_X2_takeBack0 (l : Launch) (g : gE) (a h : Nat → Nat) (p : Nat → Nat → Nat) (o H : Off) (hi : H 60 2 = 1) : Fn l g yX2_takeBack cX2_takeBack 2 (some .int) 3 342 0 0 (offW g a o ++ hisW g h p H) [.ref (h 0), .ref (a 0)] (fun r w => r = some (.int (H 60 3 - 1)) ∧ w = offW g a (sh H 100) ++ hisW g h p (backH H 0)) := by
  refine Fn.of (by decide) (Nat.le_of_ble_eq_true rfl) (fun x hC hZ => ?_)
  show G x g 2 0 0 (offW g a o ++ hisW g h p H) 0 [(0, .ref (h 0)), (1, .ref (a 0))] []
  refine g_aload_n hC dX2_takeBack_0 1 rfl rfl 0 rfl ?_
  refine g_aload_n hC dX2_takeBack_1 2 rfl rfl 0 rfl ?_
  refine g_get (v := .int (H 60 2)) hC fl_X2_22 dX2_takeBack_2 5 rfl 12 rfl rfl ?_
  rw [hi]
  refine g_bipush hC (8 : Int32) dX2_takeBack_5 7 rfl bipush_8 ?_
  refine g_iadd hC dX2_takeBack_7 8 rfl ?_
  refine g_iconst hC (1 : Int32) dX2_takeBack_8 9 rfl iconst_1 ?_
  refine g_isub hC dX2_takeBack_9 10 rfl ?_
  refine g_bipush hC (8 : Int32) dX2_takeBack_10 12 rfl bipush_8 ?_
  refine g_irem hC dX2_takeBack_12 13 rfl (by decide) ?_
  refine g_put (ws2 := offW g a o ++ hisW g h p (st H 60 2 0)) hC fp_X2_22 dX2_takeBack_13 16 rfl 12 rfl rfl rfl (Nat.le_of_ble_eq_true rfl) rfl ?_
  refine g_aload_n hC dX2_takeBack_16 17 rfl rfl 0 rfl ?_
  refine g_dup hC dX2_takeBack_17 18 rfl rfl ?_
  refine g_get (v := .int (H 60 3)) hC fl_X2_30 dX2_takeBack_18 21 rfl 12 rfl rfl ?_
  refine g_iconst hC (1 : Int32) dX2_takeBack_21 22 rfl iconst_1 ?_
  refine g_isub hC dX2_takeBack_22 23 rfl ?_
  obtain ⟨B, eB⟩ : ∃ y : Off, y = backH H 0 := ⟨_, rfl⟩
  refine g_put (ws2 := offW g a o ++ hisW g h p B) hC fp_X2_30 dX2_takeBack_23 26 rfl 12 rfl rfl rfl (Nat.le_of_ble_eq_true rfl) (by subst eB; rfl) ?_
  have b2 : B 60 2 = 0 := by rw [eB]; rfl
  have b3 : B 60 3 = H 60 3 - 1 := by rw [eB]; rfl
  have b4 : offW g a (sh B 100) = offW g a (sh H 100) := by subst eB; rfl
  refine g_aload_n hC dX2_takeBack_26 27 rfl rfl 1 rfl ?_
  refine g_aload_n hC dX2_takeBack_27 28 rfl rfl 0 rfl ?_
  refine g_get hC fl_X2_11 dX2_takeBack_28 31 rfl 12 rfl rfl ?_
  refine g_aload_n hC dX2_takeBack_31 32 rfl rfl 0 rfl ?_
  refine g_get (v := .int (B 60 2)) hC fl_X2_22 dX2_takeBack_32 35 rfl 12 rfl rfl ?_
  rw [b2]
  refine g_aldq hC dX2_takeBack_35 36 rfl 13 rfl (vp_in_nI (n := 0) (by decide) (by decide)) ?_
  show G x g 2 0 0 (offW g a o ++ hisW g h p B) 36 [(0, .ref (h 0)), (1, .ref (a 0))] [.ref (p 0 0), .ref (a 0)]
  have p1 : (offW g a o ++ hisW g h p B).Perm (offW g a o ++ (offW g (p 0) (sh B 100) ++ (hisC g h p B ++ (offW g (p 1) (sh B 120) ++ (offW g (p 2) (sh B 140) ++ (offW g (p 3) (sh B 160) ++ (offW g (p 4) (sh B 180) ++ (offW g (p 5) (sh B 200) ++ (offW g (p 6) (sh B 220) ++ (offW g (p 7) (sh B 240) ++ (offW g (p 8) (sh B 260) ++ ([])))))))))))) := List.Perm.append_left _ (mvF [hisC g h p B] (offW g (p 0) (sh B 100)) (offW g (p 1) (sh B 120) ++ (offW g (p 2) (sh B 140) ++ (offW g (p 3) (sh B 160) ++ (offW g (p 4) (sh B 180) ++ (offW g (p 5) (sh B 200) ++ (offW g (p 6) (sh B 220) ++ (offW g (p 7) (sh B 240) ++ (offW g (p 8) (sh B 260) ++ ([]))))))))))
  have p2 : (offW g a (sh B 100) ++ (offW g (p 0) (sh B 100) ++ (hisC g h p B ++ (offW g (p 1) (sh B 120) ++ (offW g (p 2) (sh B 140) ++ (offW g (p 3) (sh B 160) ++ (offW g (p 4) (sh B 180) ++ (offW g (p 5) (sh B 200) ++ (offW g (p 6) (sh B 220) ++ (offW g (p 7) (sh B 240) ++ (offW g (p 8) (sh B 260) ++ ([])))))))))))).Perm (offW g a (sh B 100) ++ hisW g h p B) := List.Perm.append_left _ (mvF [hisC g h p B] (offW g (p 0) (sh B 100)) (offW g (p 1) (sh B 120) ++ (offW g (p 2) (sh B 140) ++ (offW g (p 3) (sh B 160) ++ (offW g (p 4) (sh B 180) ++ (offW g (p 5) (sh B 200) ++ (offW g (p 6) (sh B 220) ++ (offW g (p 7) (sh B 240) ++ (offW g (p 8) (sh B 260) ++ ([])))))))))).symm
  refine g_copyF hC dX2_takeBack_36 39 rfl ml_X2_26 (hisC g h p B ++ (offW g (p 1) (sh B 120) ++ (offW g (p 2) (sh B 140) ++ (offW g (p 3) (sh B 160) ++ (offW g (p 4) (sh B 180) ++ (offW g (p 5) (sh B 200) ++ (offW g (p 6) (sh B 220) ++ (offW g (p 7) (sh B 240) ++ (offW g (p 8) (sh B 260) ++ ([])))))))))) p1 p2 ⟨Nat.le_of_ble_eq_true rfl, Nat.le_of_ble_eq_true rfl⟩ (Nat.le_of_ble_eq_true rfl) ⟨Nat.le_refl _, Nat.le_refl _⟩ ?_
  refine g_aload_n hC dX2_takeBack_39 40 rfl rfl 0 rfl ?_
  refine g_get (v := .int (B 60 3)) hC fl_X2_30 dX2_takeBack_40 43 rfl 12 rfl rfl ?_
  exact g_iret hC hZ dX2_takeBack_43 ⟨by rw [b3], by rw [b4, eB]⟩
set_option maxRecDepth 100000 in
set_option maxHeartbeats 4000000 in
theorem ct_X2_takeBack1 (l : Launch) (g : gE) (a h : Nat → Nat) (p : Nat → Nat → Nat) (o H : Off) (hi : H 60 2 = 2) : Fn l g yX2_takeBack cX2_takeBack 2 (some .int) 3 342 0 0 (offW g a o ++ hisW g h p H) [.ref (h 0), .ref (a 0)] (fun r w => r = some (.int (H 60 3 - 1)) ∧ w = offW g a (sh H 120) ++ hisW g h p (backH H 1)) := by
  refine Fn.of (by decide) (Nat.le_of_ble_eq_true rfl) (fun x hC hZ => ?_)
  show G x g 2 0 0 (offW g a o ++ hisW g h p H) 0 [(0, .ref (h 0)), (1, .ref (a 0))] []
  refine g_aload_n hC dX2_takeBack_0 1 rfl rfl 0 rfl ?_
  refine g_aload_n hC dX2_takeBack_1 2 rfl rfl 0 rfl ?_
  refine g_get (v := .int (H 60 2)) hC fl_X2_22 dX2_takeBack_2 5 rfl 12 rfl rfl ?_
  rw [hi]
  refine g_bipush hC (8 : Int32) dX2_takeBack_5 7 rfl bipush_8 ?_
  refine g_iadd hC dX2_takeBack_7 8 rfl ?_
  refine g_iconst hC (1 : Int32) dX2_takeBack_8 9 rfl iconst_1 ?_
  refine g_isub hC dX2_takeBack_9 10 rfl ?_
  refine g_bipush hC (8 : Int32) dX2_takeBack_10 12 rfl bipush_8 ?_
  refine g_irem hC dX2_takeBack_12 13 rfl (by decide) ?_
  refine g_put (ws2 := offW g a o ++ hisW g h p (st H 60 2 1)) hC fp_X2_22 dX2_takeBack_13 16 rfl 12 rfl rfl rfl (Nat.le_of_ble_eq_true rfl) rfl ?_
  refine g_aload_n hC dX2_takeBack_16 17 rfl rfl 0 rfl ?_
  refine g_dup hC dX2_takeBack_17 18 rfl rfl ?_
  refine g_get (v := .int (H 60 3)) hC fl_X2_30 dX2_takeBack_18 21 rfl 12 rfl rfl ?_
  refine g_iconst hC (1 : Int32) dX2_takeBack_21 22 rfl iconst_1 ?_
  refine g_isub hC dX2_takeBack_22 23 rfl ?_
  obtain ⟨B, eB⟩ : ∃ y : Off, y = backH H 1 := ⟨_, rfl⟩
  refine g_put (ws2 := offW g a o ++ hisW g h p B) hC fp_X2_30 dX2_takeBack_23 26 rfl 12 rfl rfl rfl (Nat.le_of_ble_eq_true rfl) (by subst eB; rfl) ?_
  have b2 : B 60 2 = 1 := by rw [eB]; rfl
  have b3 : B 60 3 = H 60 3 - 1 := by rw [eB]; rfl
  have b4 : offW g a (sh B 120) = offW g a (sh H 120) := by subst eB; rfl
  refine g_aload_n hC dX2_takeBack_26 27 rfl rfl 1 rfl ?_
  refine g_aload_n hC dX2_takeBack_27 28 rfl rfl 0 rfl ?_
  refine g_get hC fl_X2_11 dX2_takeBack_28 31 rfl 12 rfl rfl ?_
  refine g_aload_n hC dX2_takeBack_31 32 rfl rfl 0 rfl ?_
  refine g_get (v := .int (B 60 2)) hC fl_X2_22 dX2_takeBack_32 35 rfl 12 rfl rfl ?_
  rw [b2]
  refine g_aldq hC dX2_takeBack_35 36 rfl 13 rfl (vp_in_nI (n := 1) (by decide) (by decide)) ?_
  show G x g 2 0 0 (offW g a o ++ hisW g h p B) 36 [(0, .ref (h 0)), (1, .ref (a 0))] [.ref (p 1 0), .ref (a 0)]
  have p1 : (offW g a o ++ hisW g h p B).Perm (offW g a o ++ (offW g (p 1) (sh B 120) ++ (hisC g h p B ++ (offW g (p 0) (sh B 100) ++ (offW g (p 2) (sh B 140) ++ (offW g (p 3) (sh B 160) ++ (offW g (p 4) (sh B 180) ++ (offW g (p 5) (sh B 200) ++ (offW g (p 6) (sh B 220) ++ (offW g (p 7) (sh B 240) ++ (offW g (p 8) (sh B 260) ++ ([])))))))))))) := List.Perm.append_left _ (mvF [hisC g h p B, offW g (p 0) (sh B 100)] (offW g (p 1) (sh B 120)) (offW g (p 2) (sh B 140) ++ (offW g (p 3) (sh B 160) ++ (offW g (p 4) (sh B 180) ++ (offW g (p 5) (sh B 200) ++ (offW g (p 6) (sh B 220) ++ (offW g (p 7) (sh B 240) ++ (offW g (p 8) (sh B 260) ++ ([])))))))))
  have p2 : (offW g a (sh B 120) ++ (offW g (p 1) (sh B 120) ++ (hisC g h p B ++ (offW g (p 0) (sh B 100) ++ (offW g (p 2) (sh B 140) ++ (offW g (p 3) (sh B 160) ++ (offW g (p 4) (sh B 180) ++ (offW g (p 5) (sh B 200) ++ (offW g (p 6) (sh B 220) ++ (offW g (p 7) (sh B 240) ++ (offW g (p 8) (sh B 260) ++ ([])))))))))))).Perm (offW g a (sh B 120) ++ hisW g h p B) := List.Perm.append_left _ (mvF [hisC g h p B, offW g (p 0) (sh B 100)] (offW g (p 1) (sh B 120)) (offW g (p 2) (sh B 140) ++ (offW g (p 3) (sh B 160) ++ (offW g (p 4) (sh B 180) ++ (offW g (p 5) (sh B 200) ++ (offW g (p 6) (sh B 220) ++ (offW g (p 7) (sh B 240) ++ (offW g (p 8) (sh B 260) ++ ([]))))))))).symm
  refine g_copyF hC dX2_takeBack_36 39 rfl ml_X2_26 (hisC g h p B ++ (offW g (p 0) (sh B 100) ++ (offW g (p 2) (sh B 140) ++ (offW g (p 3) (sh B 160) ++ (offW g (p 4) (sh B 180) ++ (offW g (p 5) (sh B 200) ++ (offW g (p 6) (sh B 220) ++ (offW g (p 7) (sh B 240) ++ (offW g (p 8) (sh B 260) ++ ([])))))))))) p1 p2 ⟨Nat.le_of_ble_eq_true rfl, Nat.le_of_ble_eq_true rfl⟩ (Nat.le_of_ble_eq_true rfl) ⟨Nat.le_refl _, Nat.le_refl _⟩ ?_
  refine g_aload_n hC dX2_takeBack_39 40 rfl rfl 0 rfl ?_
  refine g_get (v := .int (B 60 3)) hC fl_X2_30 dX2_takeBack_40 43 rfl 12 rfl rfl ?_
  exact g_iret hC hZ dX2_takeBack_43 ⟨by rw [b3], by rw [b4, eB]⟩
set_option maxRecDepth 100000 in
set_option maxHeartbeats 4000000 in
theorem ct_X2_takeBack2 (l : Launch) (g : gE) (a h : Nat → Nat) (p : Nat → Nat → Nat) (o H : Off) (hi : H 60 2 = 3) : Fn l g yX2_takeBack cX2_takeBack 2 (some .int) 3 342 0 0 (offW g a o ++ hisW g h p H) [.ref (h 0), .ref (a 0)] (fun r w => r = some (.int (H 60 3 - 1)) ∧ w = offW g a (sh H 140) ++ hisW g h p (backH H 2)) := by
  refine Fn.of (by decide) (Nat.le_of_ble_eq_true rfl) (fun x hC hZ => ?_)
  show G x g 2 0 0 (offW g a o ++ hisW g h p H) 0 [(0, .ref (h 0)), (1, .ref (a 0))] []
  refine g_aload_n hC dX2_takeBack_0 1 rfl rfl 0 rfl ?_
  refine g_aload_n hC dX2_takeBack_1 2 rfl rfl 0 rfl ?_
  refine g_get (v := .int (H 60 2)) hC fl_X2_22 dX2_takeBack_2 5 rfl 12 rfl rfl ?_
  rw [hi]
  refine g_bipush hC (8 : Int32) dX2_takeBack_5 7 rfl bipush_8 ?_
  refine g_iadd hC dX2_takeBack_7 8 rfl ?_
  refine g_iconst hC (1 : Int32) dX2_takeBack_8 9 rfl iconst_1 ?_
  refine g_isub hC dX2_takeBack_9 10 rfl ?_
  refine g_bipush hC (8 : Int32) dX2_takeBack_10 12 rfl bipush_8 ?_
  refine g_irem hC dX2_takeBack_12 13 rfl (by decide) ?_
  refine g_put (ws2 := offW g a o ++ hisW g h p (st H 60 2 2)) hC fp_X2_22 dX2_takeBack_13 16 rfl 12 rfl rfl rfl (Nat.le_of_ble_eq_true rfl) rfl ?_
  refine g_aload_n hC dX2_takeBack_16 17 rfl rfl 0 rfl ?_
  refine g_dup hC dX2_takeBack_17 18 rfl rfl ?_
  refine g_get (v := .int (H 60 3)) hC fl_X2_30 dX2_takeBack_18 21 rfl 12 rfl rfl ?_
  refine g_iconst hC (1 : Int32) dX2_takeBack_21 22 rfl iconst_1 ?_
  refine g_isub hC dX2_takeBack_22 23 rfl ?_
  obtain ⟨B, eB⟩ : ∃ y : Off, y = backH H 2 := ⟨_, rfl⟩
  refine g_put (ws2 := offW g a o ++ hisW g h p B) hC fp_X2_30 dX2_takeBack_23 26 rfl 12 rfl rfl rfl (Nat.le_of_ble_eq_true rfl) (by subst eB; rfl) ?_
  have b2 : B 60 2 = 2 := by rw [eB]; rfl
  have b3 : B 60 3 = H 60 3 - 1 := by rw [eB]; rfl
  have b4 : offW g a (sh B 140) = offW g a (sh H 140) := by subst eB; rfl
  refine g_aload_n hC dX2_takeBack_26 27 rfl rfl 1 rfl ?_
  refine g_aload_n hC dX2_takeBack_27 28 rfl rfl 0 rfl ?_
  refine g_get hC fl_X2_11 dX2_takeBack_28 31 rfl 12 rfl rfl ?_
  refine g_aload_n hC dX2_takeBack_31 32 rfl rfl 0 rfl ?_
  refine g_get (v := .int (B 60 2)) hC fl_X2_22 dX2_takeBack_32 35 rfl 12 rfl rfl ?_
  rw [b2]
  refine g_aldq hC dX2_takeBack_35 36 rfl 13 rfl (vp_in_nI (n := 2) (by decide) (by decide)) ?_
  show G x g 2 0 0 (offW g a o ++ hisW g h p B) 36 [(0, .ref (h 0)), (1, .ref (a 0))] [.ref (p 2 0), .ref (a 0)]
  have p1 : (offW g a o ++ hisW g h p B).Perm (offW g a o ++ (offW g (p 2) (sh B 140) ++ (hisC g h p B ++ (offW g (p 0) (sh B 100) ++ (offW g (p 1) (sh B 120) ++ (offW g (p 3) (sh B 160) ++ (offW g (p 4) (sh B 180) ++ (offW g (p 5) (sh B 200) ++ (offW g (p 6) (sh B 220) ++ (offW g (p 7) (sh B 240) ++ (offW g (p 8) (sh B 260) ++ ([])))))))))))) := List.Perm.append_left _ (mvF [hisC g h p B, offW g (p 0) (sh B 100), offW g (p 1) (sh B 120)] (offW g (p 2) (sh B 140)) (offW g (p 3) (sh B 160) ++ (offW g (p 4) (sh B 180) ++ (offW g (p 5) (sh B 200) ++ (offW g (p 6) (sh B 220) ++ (offW g (p 7) (sh B 240) ++ (offW g (p 8) (sh B 260) ++ ([]))))))))
  have p2 : (offW g a (sh B 140) ++ (offW g (p 2) (sh B 140) ++ (hisC g h p B ++ (offW g (p 0) (sh B 100) ++ (offW g (p 1) (sh B 120) ++ (offW g (p 3) (sh B 160) ++ (offW g (p 4) (sh B 180) ++ (offW g (p 5) (sh B 200) ++ (offW g (p 6) (sh B 220) ++ (offW g (p 7) (sh B 240) ++ (offW g (p 8) (sh B 260) ++ ([])))))))))))).Perm (offW g a (sh B 140) ++ hisW g h p B) := List.Perm.append_left _ (mvF [hisC g h p B, offW g (p 0) (sh B 100), offW g (p 1) (sh B 120)] (offW g (p 2) (sh B 140)) (offW g (p 3) (sh B 160) ++ (offW g (p 4) (sh B 180) ++ (offW g (p 5) (sh B 200) ++ (offW g (p 6) (sh B 220) ++ (offW g (p 7) (sh B 240) ++ (offW g (p 8) (sh B 260) ++ ([])))))))).symm
  refine g_copyF hC dX2_takeBack_36 39 rfl ml_X2_26 (hisC g h p B ++ (offW g (p 0) (sh B 100) ++ (offW g (p 1) (sh B 120) ++ (offW g (p 3) (sh B 160) ++ (offW g (p 4) (sh B 180) ++ (offW g (p 5) (sh B 200) ++ (offW g (p 6) (sh B 220) ++ (offW g (p 7) (sh B 240) ++ (offW g (p 8) (sh B 260) ++ ([])))))))))) p1 p2 ⟨Nat.le_of_ble_eq_true rfl, Nat.le_of_ble_eq_true rfl⟩ (Nat.le_of_ble_eq_true rfl) ⟨Nat.le_refl _, Nat.le_refl _⟩ ?_
  refine g_aload_n hC dX2_takeBack_39 40 rfl rfl 0 rfl ?_
  refine g_get (v := .int (B 60 3)) hC fl_X2_30 dX2_takeBack_40 43 rfl 12 rfl rfl ?_
  exact g_iret hC hZ dX2_takeBack_43 ⟨by rw [b3], by rw [b4, eB]⟩
set_option maxRecDepth 100000 in
set_option maxHeartbeats 4000000 in
theorem ct_X2_takeBack3 (l : Launch) (g : gE) (a h : Nat → Nat) (p : Nat → Nat → Nat) (o H : Off) (hi : H 60 2 = 4) : Fn l g yX2_takeBack cX2_takeBack 2 (some .int) 3 342 0 0 (offW g a o ++ hisW g h p H) [.ref (h 0), .ref (a 0)] (fun r w => r = some (.int (H 60 3 - 1)) ∧ w = offW g a (sh H 160) ++ hisW g h p (backH H 3)) := by
  refine Fn.of (by decide) (Nat.le_of_ble_eq_true rfl) (fun x hC hZ => ?_)
  show G x g 2 0 0 (offW g a o ++ hisW g h p H) 0 [(0, .ref (h 0)), (1, .ref (a 0))] []
  refine g_aload_n hC dX2_takeBack_0 1 rfl rfl 0 rfl ?_
  refine g_aload_n hC dX2_takeBack_1 2 rfl rfl 0 rfl ?_
  refine g_get (v := .int (H 60 2)) hC fl_X2_22 dX2_takeBack_2 5 rfl 12 rfl rfl ?_
  rw [hi]
  refine g_bipush hC (8 : Int32) dX2_takeBack_5 7 rfl bipush_8 ?_
  refine g_iadd hC dX2_takeBack_7 8 rfl ?_
  refine g_iconst hC (1 : Int32) dX2_takeBack_8 9 rfl iconst_1 ?_
  refine g_isub hC dX2_takeBack_9 10 rfl ?_
  refine g_bipush hC (8 : Int32) dX2_takeBack_10 12 rfl bipush_8 ?_
  refine g_irem hC dX2_takeBack_12 13 rfl (by decide) ?_
  refine g_put (ws2 := offW g a o ++ hisW g h p (st H 60 2 3)) hC fp_X2_22 dX2_takeBack_13 16 rfl 12 rfl rfl rfl (Nat.le_of_ble_eq_true rfl) rfl ?_
  refine g_aload_n hC dX2_takeBack_16 17 rfl rfl 0 rfl ?_
  refine g_dup hC dX2_takeBack_17 18 rfl rfl ?_
  refine g_get (v := .int (H 60 3)) hC fl_X2_30 dX2_takeBack_18 21 rfl 12 rfl rfl ?_
  refine g_iconst hC (1 : Int32) dX2_takeBack_21 22 rfl iconst_1 ?_
  refine g_isub hC dX2_takeBack_22 23 rfl ?_
  obtain ⟨B, eB⟩ : ∃ y : Off, y = backH H 3 := ⟨_, rfl⟩
  refine g_put (ws2 := offW g a o ++ hisW g h p B) hC fp_X2_30 dX2_takeBack_23 26 rfl 12 rfl rfl rfl (Nat.le_of_ble_eq_true rfl) (by subst eB; rfl) ?_
  have b2 : B 60 2 = 3 := by rw [eB]; rfl
  have b3 : B 60 3 = H 60 3 - 1 := by rw [eB]; rfl
  have b4 : offW g a (sh B 160) = offW g a (sh H 160) := by subst eB; rfl
  refine g_aload_n hC dX2_takeBack_26 27 rfl rfl 1 rfl ?_
  refine g_aload_n hC dX2_takeBack_27 28 rfl rfl 0 rfl ?_
  refine g_get hC fl_X2_11 dX2_takeBack_28 31 rfl 12 rfl rfl ?_
  refine g_aload_n hC dX2_takeBack_31 32 rfl rfl 0 rfl ?_
  refine g_get (v := .int (B 60 2)) hC fl_X2_22 dX2_takeBack_32 35 rfl 12 rfl rfl ?_
  rw [b2]
  refine g_aldq hC dX2_takeBack_35 36 rfl 13 rfl (vp_in_nI (n := 3) (by decide) (by decide)) ?_
  show G x g 2 0 0 (offW g a o ++ hisW g h p B) 36 [(0, .ref (h 0)), (1, .ref (a 0))] [.ref (p 3 0), .ref (a 0)]
  have p1 : (offW g a o ++ hisW g h p B).Perm (offW g a o ++ (offW g (p 3) (sh B 160) ++ (hisC g h p B ++ (offW g (p 0) (sh B 100) ++ (offW g (p 1) (sh B 120) ++ (offW g (p 2) (sh B 140) ++ (offW g (p 4) (sh B 180) ++ (offW g (p 5) (sh B 200) ++ (offW g (p 6) (sh B 220) ++ (offW g (p 7) (sh B 240) ++ (offW g (p 8) (sh B 260) ++ ([])))))))))))) := List.Perm.append_left _ (mvF [hisC g h p B, offW g (p 0) (sh B 100), offW g (p 1) (sh B 120), offW g (p 2) (sh B 140)] (offW g (p 3) (sh B 160)) (offW g (p 4) (sh B 180) ++ (offW g (p 5) (sh B 200) ++ (offW g (p 6) (sh B 220) ++ (offW g (p 7) (sh B 240) ++ (offW g (p 8) (sh B 260) ++ ([])))))))
  have p2 : (offW g a (sh B 160) ++ (offW g (p 3) (sh B 160) ++ (hisC g h p B ++ (offW g (p 0) (sh B 100) ++ (offW g (p 1) (sh B 120) ++ (offW g (p 2) (sh B 140) ++ (offW g (p 4) (sh B 180) ++ (offW g (p 5) (sh B 200) ++ (offW g (p 6) (sh B 220) ++ (offW g (p 7) (sh B 240) ++ (offW g (p 8) (sh B 260) ++ ([])))))))))))).Perm (offW g a (sh B 160) ++ hisW g h p B) := List.Perm.append_left _ (mvF [hisC g h p B, offW g (p 0) (sh B 100), offW g (p 1) (sh B 120), offW g (p 2) (sh B 140)] (offW g (p 3) (sh B 160)) (offW g (p 4) (sh B 180) ++ (offW g (p 5) (sh B 200) ++ (offW g (p 6) (sh B 220) ++ (offW g (p 7) (sh B 240) ++ (offW g (p 8) (sh B 260) ++ ([]))))))).symm
  refine g_copyF hC dX2_takeBack_36 39 rfl ml_X2_26 (hisC g h p B ++ (offW g (p 0) (sh B 100) ++ (offW g (p 1) (sh B 120) ++ (offW g (p 2) (sh B 140) ++ (offW g (p 4) (sh B 180) ++ (offW g (p 5) (sh B 200) ++ (offW g (p 6) (sh B 220) ++ (offW g (p 7) (sh B 240) ++ (offW g (p 8) (sh B 260) ++ ([])))))))))) p1 p2 ⟨Nat.le_of_ble_eq_true rfl, Nat.le_of_ble_eq_true rfl⟩ (Nat.le_of_ble_eq_true rfl) ⟨Nat.le_refl _, Nat.le_refl _⟩ ?_
  refine g_aload_n hC dX2_takeBack_39 40 rfl rfl 0 rfl ?_
  refine g_get (v := .int (B 60 3)) hC fl_X2_30 dX2_takeBack_40 43 rfl 12 rfl rfl ?_
  exact g_iret hC hZ dX2_takeBack_43 ⟨by rw [b3], by rw [b4, eB]⟩
set_option maxRecDepth 100000 in
set_option maxHeartbeats 4000000 in
theorem ct_X2_takeBack4 (l : Launch) (g : gE) (a h : Nat → Nat) (p : Nat → Nat → Nat) (o H : Off) (hi : H 60 2 = 5) : Fn l g yX2_takeBack cX2_takeBack 2 (some .int) 3 342 0 0 (offW g a o ++ hisW g h p H) [.ref (h 0), .ref (a 0)] (fun r w => r = some (.int (H 60 3 - 1)) ∧ w = offW g a (sh H 180) ++ hisW g h p (backH H 4)) := by
  refine Fn.of (by decide) (Nat.le_of_ble_eq_true rfl) (fun x hC hZ => ?_)
  show G x g 2 0 0 (offW g a o ++ hisW g h p H) 0 [(0, .ref (h 0)), (1, .ref (a 0))] []
  refine g_aload_n hC dX2_takeBack_0 1 rfl rfl 0 rfl ?_
  refine g_aload_n hC dX2_takeBack_1 2 rfl rfl 0 rfl ?_
  refine g_get (v := .int (H 60 2)) hC fl_X2_22 dX2_takeBack_2 5 rfl 12 rfl rfl ?_
  rw [hi]
  refine g_bipush hC (8 : Int32) dX2_takeBack_5 7 rfl bipush_8 ?_
  refine g_iadd hC dX2_takeBack_7 8 rfl ?_
  refine g_iconst hC (1 : Int32) dX2_takeBack_8 9 rfl iconst_1 ?_
  refine g_isub hC dX2_takeBack_9 10 rfl ?_
  refine g_bipush hC (8 : Int32) dX2_takeBack_10 12 rfl bipush_8 ?_
  refine g_irem hC dX2_takeBack_12 13 rfl (by decide) ?_
  refine g_put (ws2 := offW g a o ++ hisW g h p (st H 60 2 4)) hC fp_X2_22 dX2_takeBack_13 16 rfl 12 rfl rfl rfl (Nat.le_of_ble_eq_true rfl) rfl ?_
  refine g_aload_n hC dX2_takeBack_16 17 rfl rfl 0 rfl ?_
  refine g_dup hC dX2_takeBack_17 18 rfl rfl ?_
  refine g_get (v := .int (H 60 3)) hC fl_X2_30 dX2_takeBack_18 21 rfl 12 rfl rfl ?_
  refine g_iconst hC (1 : Int32) dX2_takeBack_21 22 rfl iconst_1 ?_
  refine g_isub hC dX2_takeBack_22 23 rfl ?_
  obtain ⟨B, eB⟩ : ∃ y : Off, y = backH H 4 := ⟨_, rfl⟩
  refine g_put (ws2 := offW g a o ++ hisW g h p B) hC fp_X2_30 dX2_takeBack_23 26 rfl 12 rfl rfl rfl (Nat.le_of_ble_eq_true rfl) (by subst eB; rfl) ?_
  have b2 : B 60 2 = 4 := by rw [eB]; rfl
  have b3 : B 60 3 = H 60 3 - 1 := by rw [eB]; rfl
  have b4 : offW g a (sh B 180) = offW g a (sh H 180) := by subst eB; rfl
  refine g_aload_n hC dX2_takeBack_26 27 rfl rfl 1 rfl ?_
  refine g_aload_n hC dX2_takeBack_27 28 rfl rfl 0 rfl ?_
  refine g_get hC fl_X2_11 dX2_takeBack_28 31 rfl 12 rfl rfl ?_
  refine g_aload_n hC dX2_takeBack_31 32 rfl rfl 0 rfl ?_
  refine g_get (v := .int (B 60 2)) hC fl_X2_22 dX2_takeBack_32 35 rfl 12 rfl rfl ?_
  rw [b2]
  refine g_aldq hC dX2_takeBack_35 36 rfl 13 rfl (vp_in_nI (n := 4) (by decide) (by decide)) ?_
  show G x g 2 0 0 (offW g a o ++ hisW g h p B) 36 [(0, .ref (h 0)), (1, .ref (a 0))] [.ref (p 4 0), .ref (a 0)]
  have p1 : (offW g a o ++ hisW g h p B).Perm (offW g a o ++ (offW g (p 4) (sh B 180) ++ (hisC g h p B ++ (offW g (p 0) (sh B 100) ++ (offW g (p 1) (sh B 120) ++ (offW g (p 2) (sh B 140) ++ (offW g (p 3) (sh B 160) ++ (offW g (p 5) (sh B 200) ++ (offW g (p 6) (sh B 220) ++ (offW g (p 7) (sh B 240) ++ (offW g (p 8) (sh B 260) ++ ([])))))))))))) := List.Perm.append_left _ (mvF [hisC g h p B, offW g (p 0) (sh B 100), offW g (p 1) (sh B 120), offW g (p 2) (sh B 140), offW g (p 3) (sh B 160)] (offW g (p 4) (sh B 180)) (offW g (p 5) (sh B 200) ++ (offW g (p 6) (sh B 220) ++ (offW g (p 7) (sh B 240) ++ (offW g (p 8) (sh B 260) ++ ([]))))))
  have p2 : (offW g a (sh B 180) ++ (offW g (p 4) (sh B 180) ++ (hisC g h p B ++ (offW g (p 0) (sh B 100) ++ (offW g (p 1) (sh B 120) ++ (offW g (p 2) (sh B 140) ++ (offW g (p 3) (sh B 160) ++ (offW g (p 5) (sh B 200) ++ (offW g (p 6) (sh B 220) ++ (offW g (p 7) (sh B 240) ++ (offW g (p 8) (sh B 260) ++ ([])))))))))))).Perm (offW g a (sh B 180) ++ hisW g h p B) := List.Perm.append_left _ (mvF [hisC g h p B, offW g (p 0) (sh B 100), offW g (p 1) (sh B 120), offW g (p 2) (sh B 140), offW g (p 3) (sh B 160)] (offW g (p 4) (sh B 180)) (offW g (p 5) (sh B 200) ++ (offW g (p 6) (sh B 220) ++ (offW g (p 7) (sh B 240) ++ (offW g (p 8) (sh B 260) ++ ([])))))).symm
  refine g_copyF hC dX2_takeBack_36 39 rfl ml_X2_26 (hisC g h p B ++ (offW g (p 0) (sh B 100) ++ (offW g (p 1) (sh B 120) ++ (offW g (p 2) (sh B 140) ++ (offW g (p 3) (sh B 160) ++ (offW g (p 5) (sh B 200) ++ (offW g (p 6) (sh B 220) ++ (offW g (p 7) (sh B 240) ++ (offW g (p 8) (sh B 260) ++ ([])))))))))) p1 p2 ⟨Nat.le_of_ble_eq_true rfl, Nat.le_of_ble_eq_true rfl⟩ (Nat.le_of_ble_eq_true rfl) ⟨Nat.le_refl _, Nat.le_refl _⟩ ?_
  refine g_aload_n hC dX2_takeBack_39 40 rfl rfl 0 rfl ?_
  refine g_get (v := .int (B 60 3)) hC fl_X2_30 dX2_takeBack_40 43 rfl 12 rfl rfl ?_
  exact g_iret hC hZ dX2_takeBack_43 ⟨by rw [b3], by rw [b4, eB]⟩
set_option maxRecDepth 100000 in
set_option maxHeartbeats 4000000 in
theorem ct_X2_takeBack5 (l : Launch) (g : gE) (a h : Nat → Nat) (p : Nat → Nat → Nat) (o H : Off) (hi : H 60 2 = 6) : Fn l g yX2_takeBack cX2_takeBack 2 (some .int) 3 342 0 0 (offW g a o ++ hisW g h p H) [.ref (h 0), .ref (a 0)] (fun r w => r = some (.int (H 60 3 - 1)) ∧ w = offW g a (sh H 200) ++ hisW g h p (backH H 5)) := by
  refine Fn.of (by decide) (Nat.le_of_ble_eq_true rfl) (fun x hC hZ => ?_)
  show G x g 2 0 0 (offW g a o ++ hisW g h p H) 0 [(0, .ref (h 0)), (1, .ref (a 0))] []
  refine g_aload_n hC dX2_takeBack_0 1 rfl rfl 0 rfl ?_
  refine g_aload_n hC dX2_takeBack_1 2 rfl rfl 0 rfl ?_
  refine g_get (v := .int (H 60 2)) hC fl_X2_22 dX2_takeBack_2 5 rfl 12 rfl rfl ?_
  rw [hi]
  refine g_bipush hC (8 : Int32) dX2_takeBack_5 7 rfl bipush_8 ?_
  refine g_iadd hC dX2_takeBack_7 8 rfl ?_
  refine g_iconst hC (1 : Int32) dX2_takeBack_8 9 rfl iconst_1 ?_
  refine g_isub hC dX2_takeBack_9 10 rfl ?_
  refine g_bipush hC (8 : Int32) dX2_takeBack_10 12 rfl bipush_8 ?_
  refine g_irem hC dX2_takeBack_12 13 rfl (by decide) ?_
  refine g_put (ws2 := offW g a o ++ hisW g h p (st H 60 2 5)) hC fp_X2_22 dX2_takeBack_13 16 rfl 12 rfl rfl rfl (Nat.le_of_ble_eq_true rfl) rfl ?_
  refine g_aload_n hC dX2_takeBack_16 17 rfl rfl 0 rfl ?_
  refine g_dup hC dX2_takeBack_17 18 rfl rfl ?_
  refine g_get (v := .int (H 60 3)) hC fl_X2_30 dX2_takeBack_18 21 rfl 12 rfl rfl ?_
  refine g_iconst hC (1 : Int32) dX2_takeBack_21 22 rfl iconst_1 ?_
  refine g_isub hC dX2_takeBack_22 23 rfl ?_
  obtain ⟨B, eB⟩ : ∃ y : Off, y = backH H 5 := ⟨_, rfl⟩
  refine g_put (ws2 := offW g a o ++ hisW g h p B) hC fp_X2_30 dX2_takeBack_23 26 rfl 12 rfl rfl rfl (Nat.le_of_ble_eq_true rfl) (by subst eB; rfl) ?_
  have b2 : B 60 2 = 5 := by rw [eB]; rfl
  have b3 : B 60 3 = H 60 3 - 1 := by rw [eB]; rfl
  have b4 : offW g a (sh B 200) = offW g a (sh H 200) := by subst eB; rfl
  refine g_aload_n hC dX2_takeBack_26 27 rfl rfl 1 rfl ?_
  refine g_aload_n hC dX2_takeBack_27 28 rfl rfl 0 rfl ?_
  refine g_get hC fl_X2_11 dX2_takeBack_28 31 rfl 12 rfl rfl ?_
  refine g_aload_n hC dX2_takeBack_31 32 rfl rfl 0 rfl ?_
  refine g_get (v := .int (B 60 2)) hC fl_X2_22 dX2_takeBack_32 35 rfl 12 rfl rfl ?_
  rw [b2]
  refine g_aldq hC dX2_takeBack_35 36 rfl 13 rfl (vp_in_nI (n := 5) (by decide) (by decide)) ?_
  show G x g 2 0 0 (offW g a o ++ hisW g h p B) 36 [(0, .ref (h 0)), (1, .ref (a 0))] [.ref (p 5 0), .ref (a 0)]
  have p1 : (offW g a o ++ hisW g h p B).Perm (offW g a o ++ (offW g (p 5) (sh B 200) ++ (hisC g h p B ++ (offW g (p 0) (sh B 100) ++ (offW g (p 1) (sh B 120) ++ (offW g (p 2) (sh B 140) ++ (offW g (p 3) (sh B 160) ++ (offW g (p 4) (sh B 180) ++ (offW g (p 6) (sh B 220) ++ (offW g (p 7) (sh B 240) ++ (offW g (p 8) (sh B 260) ++ ([])))))))))))) := List.Perm.append_left _ (mvF [hisC g h p B, offW g (p 0) (sh B 100), offW g (p 1) (sh B 120), offW g (p 2) (sh B 140), offW g (p 3) (sh B 160), offW g (p 4) (sh B 180)] (offW g (p 5) (sh B 200)) (offW g (p 6) (sh B 220) ++ (offW g (p 7) (sh B 240) ++ (offW g (p 8) (sh B 260) ++ ([])))))
  have p2 : (offW g a (sh B 200) ++ (offW g (p 5) (sh B 200) ++ (hisC g h p B ++ (offW g (p 0) (sh B 100) ++ (offW g (p 1) (sh B 120) ++ (offW g (p 2) (sh B 140) ++ (offW g (p 3) (sh B 160) ++ (offW g (p 4) (sh B 180) ++ (offW g (p 6) (sh B 220) ++ (offW g (p 7) (sh B 240) ++ (offW g (p 8) (sh B 260) ++ ([])))))))))))).Perm (offW g a (sh B 200) ++ hisW g h p B) := List.Perm.append_left _ (mvF [hisC g h p B, offW g (p 0) (sh B 100), offW g (p 1) (sh B 120), offW g (p 2) (sh B 140), offW g (p 3) (sh B 160), offW g (p 4) (sh B 180)] (offW g (p 5) (sh B 200)) (offW g (p 6) (sh B 220) ++ (offW g (p 7) (sh B 240) ++ (offW g (p 8) (sh B 260) ++ ([]))))).symm
  refine g_copyF hC dX2_takeBack_36 39 rfl ml_X2_26 (hisC g h p B ++ (offW g (p 0) (sh B 100) ++ (offW g (p 1) (sh B 120) ++ (offW g (p 2) (sh B 140) ++ (offW g (p 3) (sh B 160) ++ (offW g (p 4) (sh B 180) ++ (offW g (p 6) (sh B 220) ++ (offW g (p 7) (sh B 240) ++ (offW g (p 8) (sh B 260) ++ ([])))))))))) p1 p2 ⟨Nat.le_of_ble_eq_true rfl, Nat.le_of_ble_eq_true rfl⟩ (Nat.le_of_ble_eq_true rfl) ⟨Nat.le_refl _, Nat.le_refl _⟩ ?_
  refine g_aload_n hC dX2_takeBack_39 40 rfl rfl 0 rfl ?_
  refine g_get (v := .int (B 60 3)) hC fl_X2_30 dX2_takeBack_40 43 rfl 12 rfl rfl ?_
  exact g_iret hC hZ dX2_takeBack_43 ⟨by rw [b3], by rw [b4, eB]⟩
set_option maxRecDepth 100000 in
set_option maxHeartbeats 4000000 in
theorem ct_X2_takeBack6 (l : Launch) (g : gE) (a h : Nat → Nat) (p : Nat → Nat → Nat) (o H : Off) (hi : H 60 2 = 7) : Fn l g yX2_takeBack cX2_takeBack 2 (some .int) 3 342 0 0 (offW g a o ++ hisW g h p H) [.ref (h 0), .ref (a 0)] (fun r w => r = some (.int (H 60 3 - 1)) ∧ w = offW g a (sh H 220) ++ hisW g h p (backH H 6)) := by
  refine Fn.of (by decide) (Nat.le_of_ble_eq_true rfl) (fun x hC hZ => ?_)
  show G x g 2 0 0 (offW g a o ++ hisW g h p H) 0 [(0, .ref (h 0)), (1, .ref (a 0))] []
  refine g_aload_n hC dX2_takeBack_0 1 rfl rfl 0 rfl ?_
  refine g_aload_n hC dX2_takeBack_1 2 rfl rfl 0 rfl ?_
  refine g_get (v := .int (H 60 2)) hC fl_X2_22 dX2_takeBack_2 5 rfl 12 rfl rfl ?_
  rw [hi]
  refine g_bipush hC (8 : Int32) dX2_takeBack_5 7 rfl bipush_8 ?_
  refine g_iadd hC dX2_takeBack_7 8 rfl ?_
  refine g_iconst hC (1 : Int32) dX2_takeBack_8 9 rfl iconst_1 ?_
  refine g_isub hC dX2_takeBack_9 10 rfl ?_
  refine g_bipush hC (8 : Int32) dX2_takeBack_10 12 rfl bipush_8 ?_
  refine g_irem hC dX2_takeBack_12 13 rfl (by decide) ?_
  refine g_put (ws2 := offW g a o ++ hisW g h p (st H 60 2 6)) hC fp_X2_22 dX2_takeBack_13 16 rfl 12 rfl rfl rfl (Nat.le_of_ble_eq_true rfl) rfl ?_
  refine g_aload_n hC dX2_takeBack_16 17 rfl rfl 0 rfl ?_
  refine g_dup hC dX2_takeBack_17 18 rfl rfl ?_
  refine g_get (v := .int (H 60 3)) hC fl_X2_30 dX2_takeBack_18 21 rfl 12 rfl rfl ?_
  refine g_iconst hC (1 : Int32) dX2_takeBack_21 22 rfl iconst_1 ?_
  refine g_isub hC dX2_takeBack_22 23 rfl ?_
  obtain ⟨B, eB⟩ : ∃ y : Off, y = backH H 6 := ⟨_, rfl⟩
  refine g_put (ws2 := offW g a o ++ hisW g h p B) hC fp_X2_30 dX2_takeBack_23 26 rfl 12 rfl rfl rfl (Nat.le_of_ble_eq_true rfl) (by subst eB; rfl) ?_
  have b2 : B 60 2 = 6 := by rw [eB]; rfl
  have b3 : B 60 3 = H 60 3 - 1 := by rw [eB]; rfl
  have b4 : offW g a (sh B 220) = offW g a (sh H 220) := by subst eB; rfl
  refine g_aload_n hC dX2_takeBack_26 27 rfl rfl 1 rfl ?_
  refine g_aload_n hC dX2_takeBack_27 28 rfl rfl 0 rfl ?_
  refine g_get hC fl_X2_11 dX2_takeBack_28 31 rfl 12 rfl rfl ?_
  refine g_aload_n hC dX2_takeBack_31 32 rfl rfl 0 rfl ?_
  refine g_get (v := .int (B 60 2)) hC fl_X2_22 dX2_takeBack_32 35 rfl 12 rfl rfl ?_
  rw [b2]
  refine g_aldq hC dX2_takeBack_35 36 rfl 13 rfl (vp_in_nI (n := 6) (by decide) (by decide)) ?_
  show G x g 2 0 0 (offW g a o ++ hisW g h p B) 36 [(0, .ref (h 0)), (1, .ref (a 0))] [.ref (p 6 0), .ref (a 0)]
  have p1 : (offW g a o ++ hisW g h p B).Perm (offW g a o ++ (offW g (p 6) (sh B 220) ++ (hisC g h p B ++ (offW g (p 0) (sh B 100) ++ (offW g (p 1) (sh B 120) ++ (offW g (p 2) (sh B 140) ++ (offW g (p 3) (sh B 160) ++ (offW g (p 4) (sh B 180) ++ (offW g (p 5) (sh B 200) ++ (offW g (p 7) (sh B 240) ++ (offW g (p 8) (sh B 260) ++ ([])))))))))))) := List.Perm.append_left _ (mvF [hisC g h p B, offW g (p 0) (sh B 100), offW g (p 1) (sh B 120), offW g (p 2) (sh B 140), offW g (p 3) (sh B 160), offW g (p 4) (sh B 180), offW g (p 5) (sh B 200)] (offW g (p 6) (sh B 220)) (offW g (p 7) (sh B 240) ++ (offW g (p 8) (sh B 260) ++ ([]))))
  have p2 : (offW g a (sh B 220) ++ (offW g (p 6) (sh B 220) ++ (hisC g h p B ++ (offW g (p 0) (sh B 100) ++ (offW g (p 1) (sh B 120) ++ (offW g (p 2) (sh B 140) ++ (offW g (p 3) (sh B 160) ++ (offW g (p 4) (sh B 180) ++ (offW g (p 5) (sh B 200) ++ (offW g (p 7) (sh B 240) ++ (offW g (p 8) (sh B 260) ++ ([])))))))))))).Perm (offW g a (sh B 220) ++ hisW g h p B) := List.Perm.append_left _ (mvF [hisC g h p B, offW g (p 0) (sh B 100), offW g (p 1) (sh B 120), offW g (p 2) (sh B 140), offW g (p 3) (sh B 160), offW g (p 4) (sh B 180), offW g (p 5) (sh B 200)] (offW g (p 6) (sh B 220)) (offW g (p 7) (sh B 240) ++ (offW g (p 8) (sh B 260) ++ ([])))).symm
  refine g_copyF hC dX2_takeBack_36 39 rfl ml_X2_26 (hisC g h p B ++ (offW g (p 0) (sh B 100) ++ (offW g (p 1) (sh B 120) ++ (offW g (p 2) (sh B 140) ++ (offW g (p 3) (sh B 160) ++ (offW g (p 4) (sh B 180) ++ (offW g (p 5) (sh B 200) ++ (offW g (p 7) (sh B 240) ++ (offW g (p 8) (sh B 260) ++ ([])))))))))) p1 p2 ⟨Nat.le_of_ble_eq_true rfl, Nat.le_of_ble_eq_true rfl⟩ (Nat.le_of_ble_eq_true rfl) ⟨Nat.le_refl _, Nat.le_refl _⟩ ?_
  refine g_aload_n hC dX2_takeBack_39 40 rfl rfl 0 rfl ?_
  refine g_get (v := .int (B 60 3)) hC fl_X2_30 dX2_takeBack_40 43 rfl 12 rfl rfl ?_
  exact g_iret hC hZ dX2_takeBack_43 ⟨by rw [b3], by rw [b4, eB]⟩
set_option maxRecDepth 100000 in
set_option maxHeartbeats 4000000 in
theorem ct_X2_takeBack7 (l : Launch) (g : gE) (a h : Nat → Nat) (p : Nat → Nat → Nat) (o H : Off) (hi : H 60 2 = 0) : Fn l g yX2_takeBack cX2_takeBack 2 (some .int) 3 342 0 0 (offW g a o ++ hisW g h p H) [.ref (h 0), .ref (a 0)] (fun r w => r = some (.int (H 60 3 - 1)) ∧ w = offW g a (sh H 240) ++ hisW g h p (backH H 7)) := by
  refine Fn.of (by decide) (Nat.le_of_ble_eq_true rfl) (fun x hC hZ => ?_)
  show G x g 2 0 0 (offW g a o ++ hisW g h p H) 0 [(0, .ref (h 0)), (1, .ref (a 0))] []
  refine g_aload_n hC dX2_takeBack_0 1 rfl rfl 0 rfl ?_
  refine g_aload_n hC dX2_takeBack_1 2 rfl rfl 0 rfl ?_
  refine g_get (v := .int (H 60 2)) hC fl_X2_22 dX2_takeBack_2 5 rfl 12 rfl rfl ?_
  rw [hi]
  refine g_bipush hC (8 : Int32) dX2_takeBack_5 7 rfl bipush_8 ?_
  refine g_iadd hC dX2_takeBack_7 8 rfl ?_
  refine g_iconst hC (1 : Int32) dX2_takeBack_8 9 rfl iconst_1 ?_
  refine g_isub hC dX2_takeBack_9 10 rfl ?_
  refine g_bipush hC (8 : Int32) dX2_takeBack_10 12 rfl bipush_8 ?_
  refine g_irem hC dX2_takeBack_12 13 rfl (by decide) ?_
  refine g_put (ws2 := offW g a o ++ hisW g h p (st H 60 2 7)) hC fp_X2_22 dX2_takeBack_13 16 rfl 12 rfl rfl rfl (Nat.le_of_ble_eq_true rfl) rfl ?_
  refine g_aload_n hC dX2_takeBack_16 17 rfl rfl 0 rfl ?_
  refine g_dup hC dX2_takeBack_17 18 rfl rfl ?_
  refine g_get (v := .int (H 60 3)) hC fl_X2_30 dX2_takeBack_18 21 rfl 12 rfl rfl ?_
  refine g_iconst hC (1 : Int32) dX2_takeBack_21 22 rfl iconst_1 ?_
  refine g_isub hC dX2_takeBack_22 23 rfl ?_
  obtain ⟨B, eB⟩ : ∃ y : Off, y = backH H 7 := ⟨_, rfl⟩
  refine g_put (ws2 := offW g a o ++ hisW g h p B) hC fp_X2_30 dX2_takeBack_23 26 rfl 12 rfl rfl rfl (Nat.le_of_ble_eq_true rfl) (by subst eB; rfl) ?_
  have b2 : B 60 2 = 7 := by rw [eB]; rfl
  have b3 : B 60 3 = H 60 3 - 1 := by rw [eB]; rfl
  have b4 : offW g a (sh B 240) = offW g a (sh H 240) := by subst eB; rfl
  refine g_aload_n hC dX2_takeBack_26 27 rfl rfl 1 rfl ?_
  refine g_aload_n hC dX2_takeBack_27 28 rfl rfl 0 rfl ?_
  refine g_get hC fl_X2_11 dX2_takeBack_28 31 rfl 12 rfl rfl ?_
  refine g_aload_n hC dX2_takeBack_31 32 rfl rfl 0 rfl ?_
  refine g_get (v := .int (B 60 2)) hC fl_X2_22 dX2_takeBack_32 35 rfl 12 rfl rfl ?_
  rw [b2]
  refine g_aldq hC dX2_takeBack_35 36 rfl 13 rfl (vp_in_nI (n := 7) (by decide) (by decide)) ?_
  show G x g 2 0 0 (offW g a o ++ hisW g h p B) 36 [(0, .ref (h 0)), (1, .ref (a 0))] [.ref (p 7 0), .ref (a 0)]
  have p1 : (offW g a o ++ hisW g h p B).Perm (offW g a o ++ (offW g (p 7) (sh B 240) ++ (hisC g h p B ++ (offW g (p 0) (sh B 100) ++ (offW g (p 1) (sh B 120) ++ (offW g (p 2) (sh B 140) ++ (offW g (p 3) (sh B 160) ++ (offW g (p 4) (sh B 180) ++ (offW g (p 5) (sh B 200) ++ (offW g (p 6) (sh B 220) ++ (offW g (p 8) (sh B 260) ++ ([])))))))))))) := List.Perm.append_left _ (mvF [hisC g h p B, offW g (p 0) (sh B 100), offW g (p 1) (sh B 120), offW g (p 2) (sh B 140), offW g (p 3) (sh B 160), offW g (p 4) (sh B 180), offW g (p 5) (sh B 200), offW g (p 6) (sh B 220)] (offW g (p 7) (sh B 240)) (offW g (p 8) (sh B 260) ++ ([])))
  have p2 : (offW g a (sh B 240) ++ (offW g (p 7) (sh B 240) ++ (hisC g h p B ++ (offW g (p 0) (sh B 100) ++ (offW g (p 1) (sh B 120) ++ (offW g (p 2) (sh B 140) ++ (offW g (p 3) (sh B 160) ++ (offW g (p 4) (sh B 180) ++ (offW g (p 5) (sh B 200) ++ (offW g (p 6) (sh B 220) ++ (offW g (p 8) (sh B 260) ++ ([])))))))))))).Perm (offW g a (sh B 240) ++ hisW g h p B) := List.Perm.append_left _ (mvF [hisC g h p B, offW g (p 0) (sh B 100), offW g (p 1) (sh B 120), offW g (p 2) (sh B 140), offW g (p 3) (sh B 160), offW g (p 4) (sh B 180), offW g (p 5) (sh B 200), offW g (p 6) (sh B 220)] (offW g (p 7) (sh B 240)) (offW g (p 8) (sh B 260) ++ ([]))).symm
  refine g_copyF hC dX2_takeBack_36 39 rfl ml_X2_26 (hisC g h p B ++ (offW g (p 0) (sh B 100) ++ (offW g (p 1) (sh B 120) ++ (offW g (p 2) (sh B 140) ++ (offW g (p 3) (sh B 160) ++ (offW g (p 4) (sh B 180) ++ (offW g (p 5) (sh B 200) ++ (offW g (p 6) (sh B 220) ++ (offW g (p 8) (sh B 260) ++ ([])))))))))) p1 p2 ⟨Nat.le_of_ble_eq_true rfl, Nat.le_of_ble_eq_true rfl⟩ (Nat.le_of_ble_eq_true rfl) ⟨Nat.le_refl _, Nat.le_refl _⟩ ?_
  refine g_aload_n hC dX2_takeBack_39 40 rfl rfl 0 rfl ?_
  refine g_get (v := .int (B 60 3)) hC fl_X2_30 dX2_takeBack_40 43 rfl 12 rfl rfl ?_
  exact g_iret hC hZ dX2_takeBack_43 ⟨by rw [b3], by rw [b4, eB]⟩
theorem ct_X2_takeBack (l : Launch) (g : gE) (a h : Nat → Nat) (p : Nat → Nat → Nat) (o H : Off) (i : Nat) (hi8 : i < 8) (hi : H 60 2 = nI ((i + 1) % 8)) : Fn l g yX2_takeBack cX2_takeBack 2 (some .int) 3 342 0 0 (offW g a o ++ hisW g h p H) [.ref (h 0), .ref (a 0)] (fun r w => r = some (.int (H 60 3 - 1)) ∧ w = offW g a (sh H (100 + 20 * i)) ++ hisW g h p (backH H i)) := by
  rcases (show i = 0 ∨ i = 1 ∨ i = 2 ∨ i = 3 ∨ i = 4 ∨ i = 5 ∨ i = 6 ∨ i = 7 by omega) with rfl | rfl | rfl | rfl | rfl | rfl | rfl | rfl
  · exact ct_X2_takeBack0 l g a h p o H hi
  · exact ct_X2_takeBack1 l g a h p o H hi
  · exact ct_X2_takeBack2 l g a h p o H hi
  · exact ct_X2_takeBack3 l g a h p o H hi
  · exact ct_X2_takeBack4 l g a h p o H hi
  · exact ct_X2_takeBack5 l g a h p o H hi
  · exact ct_X2_takeBack6 l g a h p o H hi
  · exact ct_X2_takeBack7 l g a h p o H hi
set_option maxRecDepth 100000 in
set_option maxHeartbeats 4000000 in
theorem ct_X2_save (l : Launch) (g : gE) (a h : Nat → Nat) (p : Nat → Nat → Nat) (o H : Off) : Fn l g yX2_save cX2_save 2 none 3 342 0 0 (offW g a o ++ hisW g h p H) [.ref (h 0), .ref (a 0)] (fun r w => r = none ∧ w = offW g a o ++ hisW g h p (st (put H 260 12 o) 60 4 1)) := by
  refine Fn.of (by decide) (Nat.le_of_ble_eq_true rfl) (fun x hC hZ => ?_)
  show G x g 2 0 0 (offW g a o ++ hisW g h p H) 0 [(0, .ref (h 0)), (1, .ref (a 0))] []
  refine g_aload_n hC dX2_save_0 1 rfl rfl 0 rfl ?_
  refine g_get hC fl_X2_18 dX2_save_1 4 rfl 12 rfl rfl ?_
  refine g_aload_n hC dX2_save_4 5 rfl rfl 1 rfl ?_
  have p1 : (offW g a o ++ hisW g h p H).Perm (offW g (p 8) (sh H 260) ++ (offW g a o ++ (hisC g h p H ++ (offW g (p 0) (sh H 100) ++ (offW g (p 1) (sh H 120) ++ (offW g (p 2) (sh H 140) ++ (offW g (p 3) (sh H 160) ++ (offW g (p 4) (sh H 180) ++ (offW g (p 5) (sh H 200) ++ (offW g (p 6) (sh H 220) ++ (offW g (p 7) (sh H 240) ++ ([])))))))))))) := mvF [offW g a o, hisC g h p H, offW g (p 0) (sh H 100), offW g (p 1) (sh H 120), offW g (p 2) (sh H 140), offW g (p 3) (sh H 160), offW g (p 4) (sh H 180), offW g (p 5) (sh H 200), offW g (p 6) (sh H 220), offW g (p 7) (sh H 240)] (offW g (p 8) (sh H 260)) []
  have p2 : (offW g (p 8) o ++ (offW g a o ++ (hisC g h p H ++ (offW g (p 0) (sh H 100) ++ (offW g (p 1) (sh H 120) ++ (offW g (p 2) (sh H 140) ++ (offW g (p 3) (sh H 160) ++ (offW g (p 4) (sh H 180) ++ (offW g (p 5) (sh H 200) ++ (offW g (p 6) (sh H 220) ++ (offW g (p 7) (sh H 240) ++ ([])))))))))))).Perm (offW g a o ++ (hisC g h p H ++ (offW g (p 0) (sh H 100) ++ (offW g (p 1) (sh H 120) ++ (offW g (p 2) (sh H 140) ++ (offW g (p 3) (sh H 160) ++ (offW g (p 4) (sh H 180) ++ (offW g (p 5) (sh H 200) ++ (offW g (p 6) (sh H 220) ++ (offW g (p 7) (sh H 240) ++ (offW g (p 8) o ++ ([])))))))))))) := (mvF [offW g a o, hisC g h p H, offW g (p 0) (sh H 100), offW g (p 1) (sh H 120), offW g (p 2) (sh H 140), offW g (p 3) (sh H 160), offW g (p 4) (sh H 180), offW g (p 5) (sh H 200), offW g (p 6) (sh H 220), offW g (p 7) (sh H 240)] (offW g (p 8) o) []).symm
  refine g_copyF hC dX2_save_5 8 rfl ml_X2_26 (hisC g h p H ++ (offW g (p 0) (sh H 100) ++ (offW g (p 1) (sh H 120) ++ (offW g (p 2) (sh H 140) ++ (offW g (p 3) (sh H 160) ++ (offW g (p 4) (sh H 180) ++ (offW g (p 5) (sh H 200) ++ (offW g (p 6) (sh H 220) ++ (offW g (p 7) (sh H 240) ++ ([])))))))))) p1 p2 ⟨Nat.le_of_ble_eq_true rfl, Nat.le_of_ble_eq_true rfl⟩ (Nat.le_of_ble_eq_true rfl) ⟨Nat.le_refl _, Nat.le_refl _⟩ ?_
  refine g_ws (ws2 := offW g a o ++ hisW g h p (put H 260 12 o)) rfl ?_
  refine g_aload_n hC dX2_save_8 9 rfl rfl 0 rfl ?_
  refine g_iconst hC (1 : Int32) dX2_save_9 10 rfl iconst_1 ?_
  refine g_put (ws2 := offW g a o ++ hisW g h p (st (put H 260 12 o) 60 4 1)) hC fp_X2_39 dX2_save_10 13 rfl 12 rfl rfl rfl (Nat.le_of_ble_eq_true rfl) rfl ?_
  exact g_vret hC hZ dX2_save_13 ⟨rfl, rfl⟩
set_option maxRecDepth 100000 in
set_option maxHeartbeats 4000000 in
theorem ct_X2_restore (l : Launch) (g : gE) (a h : Nat → Nat) (p : Nat → Nat → Nat) (o H : Off) : Fn l g yX2_restore cX2_restore 2 none 3 342 0 0 (offW g a o ++ hisW g h p H) [.ref (h 0), .ref (a 0)] (fun r w => r = none ∧ w = offW g a (sh H 260) ++ hisW g h p (st H 60 3 0)) := by
  refine Fn.of (by decide) (Nat.le_of_ble_eq_true rfl) (fun x hC hZ => ?_)
  show G x g 2 0 0 (offW g a o ++ hisW g h p H) 0 [(0, .ref (h 0)), (1, .ref (a 0))] []
  refine g_aload_n hC dX2_restore_0 1 rfl rfl 1 rfl ?_
  refine g_aload_n hC dX2_restore_1 2 rfl rfl 0 rfl ?_
  refine g_get hC fl_X2_18 dX2_restore_2 5 rfl 12 rfl rfl ?_
  have p1 : (offW g a o ++ hisW g h p H).Perm (offW g a o ++ (offW g (p 8) (sh H 260) ++ (hisC g h p H ++ (offW g (p 0) (sh H 100) ++ (offW g (p 1) (sh H 120) ++ (offW g (p 2) (sh H 140) ++ (offW g (p 3) (sh H 160) ++ (offW g (p 4) (sh H 180) ++ (offW g (p 5) (sh H 200) ++ (offW g (p 6) (sh H 220) ++ (offW g (p 7) (sh H 240) ++ ([])))))))))))) := List.Perm.append_left _ (mvF [hisC g h p H, offW g (p 0) (sh H 100), offW g (p 1) (sh H 120), offW g (p 2) (sh H 140), offW g (p 3) (sh H 160), offW g (p 4) (sh H 180), offW g (p 5) (sh H 200), offW g (p 6) (sh H 220), offW g (p 7) (sh H 240)] (offW g (p 8) (sh H 260)) [])
  have p2 : (offW g a (sh H 260) ++ (offW g (p 8) (sh H 260) ++ (hisC g h p H ++ (offW g (p 0) (sh H 100) ++ (offW g (p 1) (sh H 120) ++ (offW g (p 2) (sh H 140) ++ (offW g (p 3) (sh H 160) ++ (offW g (p 4) (sh H 180) ++ (offW g (p 5) (sh H 200) ++ (offW g (p 6) (sh H 220) ++ (offW g (p 7) (sh H 240) ++ ([])))))))))))).Perm (offW g a (sh H 260) ++ hisW g h p H) := List.Perm.append_left _ (mvF [hisC g h p H, offW g (p 0) (sh H 100), offW g (p 1) (sh H 120), offW g (p 2) (sh H 140), offW g (p 3) (sh H 160), offW g (p 4) (sh H 180), offW g (p 5) (sh H 200), offW g (p 6) (sh H 220), offW g (p 7) (sh H 240)] (offW g (p 8) (sh H 260)) []).symm
  refine g_copyF hC dX2_restore_5 8 rfl ml_X2_26 (hisC g h p H ++ (offW g (p 0) (sh H 100) ++ (offW g (p 1) (sh H 120) ++ (offW g (p 2) (sh H 140) ++ (offW g (p 3) (sh H 160) ++ (offW g (p 4) (sh H 180) ++ (offW g (p 5) (sh H 200) ++ (offW g (p 6) (sh H 220) ++ (offW g (p 7) (sh H 240) ++ ([])))))))))) p1 p2 ⟨Nat.le_of_ble_eq_true rfl, Nat.le_of_ble_eq_true rfl⟩ (Nat.le_of_ble_eq_true rfl) ⟨Nat.le_refl _, Nat.le_refl _⟩ ?_
  refine g_aload_n hC dX2_restore_8 9 rfl rfl 0 rfl ?_
  refine g_iconst hC (0 : Int32) dX2_restore_9 10 rfl iconst_0 ?_
  refine g_put (ws2 := offW g a (sh H 260) ++ hisW g h p (st H 60 3 0)) hC fp_X2_30 dX2_restore_10 13 rfl 12 rfl rfl rfl (Nat.le_of_ble_eq_true rfl) rfl ?_
  exact g_vret hC hZ dX2_restore_13 ⟨rfl, rfl⟩
