/-! ===== one command carried out on both sides ===== -/
abbrev foX (post : Int32 → Off → Prop) (o : Off) (q : Nat) (v1 v2 v3 : Int32) : Prop := ((v3 = (97 : Int32) → wp_X0_applying (fun v6 o4 => (∀ o5 : Off, o5 = put o 0 13 o4 → post v6 o5)) o v1 v2) ∧ (¬ v3 = (97 : Int32) → ((v3 = (98 : Int32) → wp_X0_banning (fun v7 => post v7 o) o v1 (((v2).toUInt32 % 65536).toInt32)) ∧ (¬ v3 = (98 : Int32) → ((v3 = (100 : Int32) → wp_X0_deciding (fun v8 => post v8 o) o v1) ∧ (¬ v3 = (100 : Int32) → ((v3 = (101 : Int32) → wp_X0_endingTreaty (fun v9 => post v9 o) o v1 v2) ∧ (¬ v3 = (101 : Int32) → ((v3 = (106 : Int32) → wp_X0_pairing (fun v12 o10 => (∀ o11 : Off, o11 = put o 0 13 o10 → post v12 o11)) o v1 v2) ∧ (¬ v3 = (106 : Int32) → ((v3 = (107 : Int32) → wp_X0_separating (fun v15 o13 => (∀ o14 : Off, o14 = put o 0 13 o13 → post v15 o14)) o v1) ∧ (¬ v3 = (107 : Int32) → ((v3 = (108 : Int32) → wp_X0_leaving (fun v18 o16 => (∀ o17 : Off, o17 = put o 0 13 o16 → post v18 o17)) o v1) ∧ (¬ v3 = (108 : Int32) → ((v3 = (109 : Int32) → wp_X0_moving (fun v21 o19 => (∀ o20 : Off, o20 = put o 0 13 o19 → post v21 o20)) o v1 v2) ∧ (¬ v3 = (109 : Int32) → ((v3 = (110 : Int32) → wp_X0_adding (fun v24 o22 => (∀ o23 : Off, o23 = put o 0 13 o22 → post v24 o23)) o (((v1).toUInt32 % 65536).toInt32) v2) ∧ (¬ v3 = (110 : Int32) → ((v3 = (112 : Int32) → wp_X0_appealing (fun v27 o25 => (∀ o26 : Off, o26 = put o 0 13 o25 → post v27 o26)) o v1) ∧ (¬ v3 = (112 : Int32) → ((v3 = (113 : Int32) → wp_X0_settingQuota (fun v28 => post v28 o) o v1 v2) ∧ (¬ v3 = (113 : Int32) → ((v3 = (114 : Int32) → wp_X0_renewing (fun v31 o29 => (∀ o30 : Off, o30 = put o 0 13 o29 → post v31 o30)) o v1 v2) ∧ (¬ v3 = (114 : Int32) → ((v3 = (116 : Int32) → wp_X1_value (fun v32 => wp_X0_signing (fun v35 o33 => (∀ o34 : Off, o34 = put o 0 13 o33 → post v35 o34)) o v1 v2 (((v32).toUInt32 % 65536).toInt32)) (sh o 40) (nI q) (2 : Int32)) ∧ (¬ v3 = (116 : Int32) → ((v3 = (117 : Int32) → wp_X0_banning (fun v36 => post v36 o) o v1 (((v2).toUInt32 % 65536).toInt32)) ∧ (¬ v3 = (117 : Int32) → ((v3 = (119 : Int32) → wp_X0_withdrawing (fun v39 o37 => (∀ o38 : Off, o38 = put o 0 13 o37 → post v39 o38)) o v1) ∧ (¬ v3 = (119 : Int32) → wp_X0_passing (fun v40 => post v40 o) o v1))))))))))))))))))))))))))))))
abbrev coX (post : Off → Prop) (o : Off) (q : Nat) (v1 v2 v3 : Int32) : Prop := ((v3 = (97 : Int32) → wp_X3_file (fun v6 o4 => (∀ o5 : Off, o5 = put o 0 12 o4 → post o5)) o v1 v2) ∧ (¬ v3 = (97 : Int32) → ((v3 = (98 : Int32) → wp_X3_forbid (fun v9 o7 => (∀ o8 : Off, o8 = put o 0 12 o7 → post o8)) o v1 (((v2).toUInt32 % 65536).toInt32)) ∧ (¬ v3 = (98 : Int32) → ((v3 = (100 : Int32) → wp_X3_decideAll (fun v12 o10 => (∀ o11 : Off, o11 = put o 0 12 o10 → post o11)) o v1) ∧ (¬ v3 = (100 : Int32) → ((v3 = (101 : Int32) → wp_X3_cancel (fun v15 o13 => (∀ o14 : Off, o14 = put o 0 12 o13 → post o14)) o v1 v2) ∧ (¬ v3 = (101 : Int32) → ((v3 = (106 : Int32) → wp_X3_join (fun v18 o16 => (∀ o17 : Off, o17 = put o 0 12 o16 → post o17)) o v1 v2) ∧ (¬ v3 = (106 : Int32) → ((v3 = (107 : Int32) → wp_X3_part (fun v21 o19 => (∀ o20 : Off, o20 = put o 0 12 o19 → post o20)) o v1) ∧ (¬ v3 = (107 : Int32) → ((v3 = (108 : Int32) → wp_X3_release (fun v24 o22 => (∀ o23 : Off, o23 = put o 0 12 o22 → post o23)) o v1) ∧ (¬ v3 = (108 : Int32) → ((v3 = (109 : Int32) → wp_X3_transfer (fun v27 o25 => (∀ o26 : Off, o26 = put o 0 12 o25 → post o26)) o v1 v2) ∧ (¬ v3 = (109 : Int32) → ((v3 = (110 : Int32) → wp_X3_add (fun v30 o28 => (∀ o29 : Off, o29 = put o 0 12 o28 → post o29)) o (((v1).toUInt32 % 65536).toInt32) v2) ∧ (¬ v3 = (110 : Int32) → ((v3 = (112 : Int32) → wp_X3_raise (fun v33 o31 => (∀ o32 : Off, o32 = put o 0 12 o31 → post o32)) o v1) ∧ (¬ v3 = (112 : Int32) → ((v3 = (113 : Int32) → wp_X3_changeQuota (fun v36 o34 => (∀ o35 : Off, o35 = put o 0 12 o34 → post o35)) o v1 v2) ∧ (¬ v3 = (113 : Int32) → ((v3 = (114 : Int32) → wp_X3_extend (fun v39 o37 => (∀ o38 : Off, o38 = put o 0 12 o37 → post o38)) o v1 v2) ∧ (¬ v3 = (114 : Int32) → ((v3 = (116 : Int32) → wp_X1_value (fun v40 => wp_X3_sign (fun v43 o41 => (∀ o42 : Off, o42 = put o 0 12 o41 → post o42)) o v1 v2 (((v40).toUInt32 % 65536).toInt32)) (sh o 40) (nI q) (2 : Int32)) ∧ (¬ v3 = (116 : Int32) → ((v3 = (117 : Int32) → wp_X3_permit (fun v46 o44 => (∀ o45 : Off, o45 = put o 0 12 o44 → post o45)) o v1 (((v2).toUInt32 % 65536).toInt32)) ∧ (¬ v3 = (117 : Int32) → ((v3 = (119 : Int32) → wp_X3_dropApplication (fun v49 o47 => (∀ o48 : Off, o48 = put o 0 12 o47 → post o48)) o v1) ∧ (¬ v3 = (119 : Int32) → wp_X3_advance (fun v52 o50 => (∀ o51 : Off, o51 = put o 0 12 o50 → post o51)) o v1))))))))))))))))))))))))))))))
abbrev caX (post : Int32 → Off → Prop) (o : Off) (q : Nat) (v1 v2 v3 : Int32) : Prop := (((o 8 q) = (97 : Int32) → wp_X5_isSock (fun v4 => ((v4 = 0 → post (1 : Int32) o) ∧ (¬ v4 = 0 → wp_X5_isDrawer (fun v5 => ((¬ v5 = 0 → wp_X5_cannotApply (fun v7 o6 => ((v7 = 0 → wp_X5_applies (fun v9 o8 => post (0 : Int32) o8) o6 v1 v2) ∧ (¬ v7 = 0 → post (2 : Int32) o6))) o v1) ∧ (v5 = 0 → post (1 : Int32) o))) v2))) o v1) ∧ (¬ (o 8 q) = (97 : Int32) → (((o 8 q) = (98 : Int32) → wp_X5_isDrawer (fun v10 => ((¬ v10 = 0 → (vp_in (nI q) 32 ∧ ((¬ (o 8 q) = (98 : Int32) → wj_X5_carries_528 post o (0 : Int32) v2 v1) ∧ ((o 8 q) = (98 : Int32) → wj_X5_carries_528 post o (1 : Int32) v2 v1)))) ∧ (v10 = 0 → post (1 : Int32) o))) v1) ∧ (¬ (o 8 q) = (98 : Int32) → (((o 8 q) = (100 : Int32) → wp_X5_isDrawer (fun v13 => ((¬ v13 = 0 → wp_X5_decides (fun v15 o14 => post (0 : Int32) o14) o v1) ∧ (v13 = 0 → post (1 : Int32) o))) v1) ∧ (¬ (o 8 q) = (100 : Int32) → (((o 8 q) = (101 : Int32) → wp_X5_noTreaty (fun v16 => ((v16 ≤ 0 → wp_X5_signs (fun v18 o17 => post (0 : Int32) o17) o v1 v2 (0 : Int32)) ∧ (¬ v16 ≤ 0 → post (1 : Int32) o))) o v1 v2) ∧ (¬ (o 8 q) = (101 : Int32) → (((o 8 q) = (106 : Int32) → wp_X5_isSock (fun v19 => ((v19 = 0 → post (1 : Int32) o) ∧ (¬ v19 = 0 → wp_X5_isSock (fun v20 => ((v20 = 0 → post (1 : Int32) o) ∧ (¬ v20 = 0 → ((¬ v1 = v2 → wp_X5_cannotPair (fun v22 o21 => ((v22 = 0 → wp_X5_pairs (fun v24 o23 => post (0 : Int32) o23) o21 v1 v2) ∧ (¬ v22 = 0 → post (2 : Int32) o21))) o v1 v2) ∧ (v1 = v2 → post (1 : Int32) o))))) o v2))) o v1) ∧ (¬ (o 8 q) = (106 : Int32) → (((o 8 q) = (107 : Int32) → wp_X5_isSock (fun v25 => ((¬ v25 = 0 → wp_X5_cannotSeparate (fun v27 o26 => ((v27 = 0 → wp_X5_separates (fun v29 o28 => post (0 : Int32) o28) o26 v1) ∧ (¬ v27 = 0 → post (2 : Int32) o26))) o v1) ∧ (v25 = 0 → post (1 : Int32) o))) o v1) ∧ (¬ (o 8 q) = (107 : Int32) → (((o 8 q) = (108 : Int32) → wp_X5_isSock (fun v30 => ((¬ v30 = 0 → wp_X5_cannotLeave (fun v32 o31 => ((v32 = 0 → wp_X5_leaves (fun v34 o33 => post (0 : Int32) o33) o31 v1) ∧ (¬ v32 = 0 → post (2 : Int32) o31))) o v1) ∧ (v30 = 0 → post (1 : Int32) o))) o v1) ∧ (¬ (o 8 q) = (108 : Int32) → (((o 8 q) = (109 : Int32) → wp_X5_isSock (fun v35 => ((v35 = 0 → post (1 : Int32) o) ∧ (¬ v35 = 0 → wp_X5_isDrawer (fun v36 => ((¬ v36 = 0 → wp_X5_cannotMove (fun v38 o37 => ((v38 = 0 → wp_X5_moves (fun v40 o39 => post (0 : Int32) o39) o37 v1 v2) ∧ (¬ v38 = 0 → post (2 : Int32) o37))) o v1 v2) ∧ (v36 = 0 → post (1 : Int32) o))) v2))) o v1) ∧ (¬ (o 8 q) = (109 : Int32) → (((o 8 q) = (110 : Int32) → wp_X5_isKind (fun v41 => ((¬ v41 = 0 → wp_X5_tooMany (fun v43 o42 => ((v43 = 0 → wp_X5_adds (fun v45 o44 => post (0 : Int32) o44) o42 v1 v2) ∧ (¬ v43 = 0 → post (2 : Int32) o42))) o ) ∧ (v41 = 0 → post (1 : Int32) o))) v1 v2) ∧ (¬ (o 8 q) = (110 : Int32) → (((o 8 q) = (112 : Int32) → wp_X5_isSock (fun v46 => ((¬ v46 = 0 → wp_X5_cannotAppeal (fun v48 o47 => ((v48 = 0 → wp_X5_appeals (fun v50 o49 => post (0 : Int32) o49) o47 v1) ∧ (¬ v48 = 0 → post (2 : Int32) o47))) o v1) ∧ (v46 = 0 → post (1 : Int32) o))) o v1) ∧ (¬ (o 8 q) = (112 : Int32) → (((o 8 q) = (113 : Int32) → wp_X5_isDrawer (fun v51 => ((v51 = 0 → post (1 : Int32) o) ∧ (¬ v51 = 0 → wp_X5_in (fun v52 => ((¬ v52 = 0 → wp_X5_limits (fun v54 o53 => post (0 : Int32) o53) o v1 v2) ∧ (v52 = 0 → post (1 : Int32) o))) v2 (0 : Int32) (9 : Int32)))) v1) ∧ (¬ (o 8 q) = (113 : Int32) → (((o 8 q) = (114 : Int32) → wp_X5_isSock (fun v55 => ((v55 = 0 → post (1 : Int32) o) ∧ (¬ v55 = 0 → wp_X5_in (fun v56 => ((¬ v56 = 0 → wp_X5_cannotRenew (fun v58 o57 => ((v58 = 0 → wp_X5_renews (fun v60 o59 => post (0 : Int32) o59) o57 v1 v2) ∧ (¬ v58 = 0 → post (2 : Int32) o57))) o v1 v2) ∧ (v56 = 0 → post (1 : Int32) o))) v2 (1 : Int32) (9 : Int32)))) o v1) ∧ (¬ (o 8 q) = (114 : Int32) → (((o 8 q) = (116 : Int32) → wp_X5_isDrawer (fun v61 => ((v61 = 0 → post (1 : Int32) o) ∧ (¬ v61 = 0 → wp_X5_isDrawer (fun v62 => ((v62 = 0 → post (1 : Int32) o) ∧ (¬ v62 = 0 → ((¬ v1 = v2 → wp_X5_cannotSign (fun v64 o63 => ((v64 = 0 → wp_X5_signs (fun v66 o65 => post (0 : Int32) o65) o63 v1 v2 v3) ∧ (¬ v64 = 0 → post (2 : Int32) o63))) o v1 v2) ∧ (v1 = v2 → post (1 : Int32) o))))) v2))) v1) ∧ (¬ (o 8 q) = (116 : Int32) → (((o 8 q) = (117 : Int32) → wp_X5_isDrawer (fun v67 => ((¬ v67 = 0 → (vp_in (nI q) 32 ∧ ((¬ (o 8 q) = (98 : Int32) → wj_X5_carries_528 post o (0 : Int32) v2 v1) ∧ ((o 8 q) = (98 : Int32) → wj_X5_carries_528 post o (1 : Int32) v2 v1)))) ∧ (v67 = 0 → post (1 : Int32) o))) v1) ∧ (¬ (o 8 q) = (117 : Int32) → (((o 8 q) = (119 : Int32) → wp_X5_isSock (fun v68 => ((¬ v68 = 0 → wp_X5_cannotWithdraw (fun v70 o69 => ((v70 = 0 → wp_X5_withdraws (fun v72 o71 => post (0 : Int32) o71) o69 v1) ∧ (¬ v70 = 0 → post (2 : Int32) o69))) o v1) ∧ (v68 = 0 → post (1 : Int32) o))) o v1) ∧ (¬ (o 8 q) = (119 : Int32) → wp_X5_in (fun v73 => ((¬ v73 = 0 → wp_X5_passes (fun v75 o74 => post (0 : Int32) o74) o v1) ∧ (v73 = 0 → post (1 : Int32) o))) v1 (1 : Int32) (20 : Int32)))))))))))))))))))))))))))))))
theorem x1_val {post : Int32 → Prop} {E : Off} {q cnt i : Nat} (h4 : E 40 4 = nI cnt) (hq : q < cnt) (hc : cnt ≤ 20) (hi : i < 3) (h : post (E 43 (3 * q + i))) : wp_X1_value post (sh E 40) (nI q) (nI i) := by
  have h4' : sh E 40 0 4 = nI cnt := h4
  unfold wp_X1_value
  rw [h4', show (3 : Int32) = nI 3 from rfl, nI_mul, nI_add, kc (by omega)]
  refine iF (nI_pos (by omega)) (iF (by rw [nI_lei (by omega) (by omega)]; omega) ⟨vpk (by omega) (by omega), ?_⟩)
  rw [Nat.mul_comm q 3]
  exact h
theorem x1_let {post : Int32 → Prop} {E : Off} {q cnt : Nat} (h4 : E 40 4 = nI cnt) (hq : q < cnt) (hc : cnt ≤ 20) (h : post (E 42 q)) : wp_X1_letter post (sh E 40) (nI q) := by
  have h4' : sh E 40 0 4 = nI cnt := h4
  unfold wp_X1_letter
  rw [h4', kc (by omega)]
  exact iF (nI_pos (by omega)) (iF (by rw [nI_lei (by omega) (by omega)]; omega) ⟨vpk (by omega) (by omega), h⟩)
theorem fo_pre {post : Int32 → Off → Prop} {E : Off} {q cnt : Nat} (h4 : E 40 4 = nI cnt) (hq : q < cnt) (hc : cnt ≤ 20) (h : foX post E q (E 43 (3 * q + 0)) (E 43 (3 * q + 1)) (E 42 q)) : wp_X4_faultOf post E (nI q) :=
  x1_val (i := 0) h4 hq hc (by omega) (x1_val (i := 1) h4 hq hc (by omega) (x1_let h4 hq hc h))
theorem co_pre {post : Off → Prop} {E : Off} {q cnt : Nat} (h4 : E 40 4 = nI cnt) (hq : q < cnt) (hc : cnt ≤ 20) (h : coX post E q (E 43 (3 * q + 0)) (E 43 (3 * q + 1)) (E 42 q)) : wp_X4_carryOut post E (nI q) :=
  x1_val (i := 0) h4 hq hc (by omega) (x1_val (i := 1) h4 hq hc (by omega) (x1_let h4 hq hc h))
theorem ca_pre {post : Int32 → Off → Prop} {M : Off} {q : Nat} (hq : q < 32) (h : caX post M q (M 9 (3 * q + 0)) (M 9 (3 * q + 1)) (M 9 (3 * q + 2))) : wp_X5_carries post M (nI q) := by
  unfold wp_X5_carries
  rw [show (3 : Int32) * nI q = nI (3 * q) by rw [show (3 : Int32) = nI 3 from rfl, nI_mul], nI_add1, show nI (3 * q) + 2 = nI (3 * q + 2) by rw [show (2 : Int32) = nI 2 from rfl, nI_add], kc (by omega), kc (by omega), kc (by omega), kc (by omega)]
  refine ⟨vpk (by omega) (by omega), fun v1 e1 => ⟨vpk (by omega) (by omega), fun v2 e2 => ⟨vpk (by omega) (by omega), fun v3 e3 => ⟨vpk (by omega) (by omega), ?_⟩⟩⟩⟩
  subst e1; subst e2; subst e3
  exact h
def carR (E M : Off) (T q : Nat) : Prop := ∃ T1, T ≤ T1 ∧ T1 ≤ T + 20 ∧ (
  (∃ code : Int32, ¬ code = 0 ∧ code ≤ 0 ∧ (∀ post : Int32 → Off → Prop, post code E → wp_X4_faultOf post E (nI q)) ∧ (∀ post : Int32 → Off → Prop, post 1 M → wp_X5_carries post M (nI q))) ∨
  (∃ (r : Nat) (d : Int32), 1 ≤ r ∧ r ≤ 16 ∧ (∀ E2 : Off, (∀ k, k ≠ 12 → E2 k = E k) → ∀ post : Int32 → Off → Prop, post (nI r) (st E2 12 0 d) → wp_X4_faultOf post E2 (nI q)) ∧ (∀ post : Int32 → Off → Prop, post 2 (st (st M 0 11 (nI r)) 0 12 d) → wp_X5_carries post M (nI q))) ∨
  ((∀ post : Int32 → Off → Prop, post 0 E → wp_X4_faultOf post E (nI q)) ∧ ∃ M1 O : Off, (∀ post : Int32 → Off → Prop, post 0 M1 → wp_X5_carries post M (nI q)) ∧ (∀ post : Off → Prop, post (put E 0 12 O) → wp_X4_carryOut post E (nI q)) ∧ (∀ r, r ≠ 1 → M1 r = M r) ∧ oK O (M1 1) T1))
theorem car_of {C A : wT} {R : wR} {B : Int32 → Int32 → Prop} {E M : Off} {T T1 q : Nat} {G : (Int32 → Off → Prop) → Off → (Int32 → Off → Prop)} (h1 : T ≤ T1) (h2 : T1 ≤ T + 20) (ho : outc C A R B E M T1) (hB : ∀ code n, B code n → ¬ code = 0 ∧ code ≤ 0)
    (hf : ∀ E2 : Off, (∀ k, k ≠ 12 → E2 k = E k) → ∀ post : Int32 → Off → Prop, C (G post E2) E2 → wp_X4_faultOf post E2 (nI q))
    (hG : ∀ (post : Int32 → Off → Prop) (E2 : Off) (v : Int32) (o1 : Off), (o1 = E2 ∨ ∃ d, o1 = st E2 12 0 d) → post v o1 → G post E2 v o1)
    (hc : ∀ post : Off → Prop, A (fun _ o4 => ∀ o5 : Off, o5 = put E 0 12 o4 → post o5) E → wp_X4_carryOut post E (nI q))
    (hr : ∀ post : Int32 → Off → Prop, R (fun _ => post 1 M) (fun o => post 2 o) (fun _ o => post 0 o) M → wp_X5_carries post M (nI q)) : carR E M T q := by
  refine ⟨T1, h1, h2, ?_⟩
  rcases ho with ⟨code, n, hb, hC, hR⟩ | ⟨r, d, r1, r2, hC, hR⟩ | ⟨hC, v, M1, hR, hM, hA⟩
  · exact Or.inl ⟨code, (hB code n hb).1, (hB code n hb).2, fun post h => hf E (fun _ _ => rfl) post (hC _ (hG post E _ _ (Or.inl rfl) h)), fun post h => hr post (hR _ _ _ h)⟩
  · exact Or.inr (Or.inl ⟨r, d, r1, r2, fun E2 hE post h => hf E2 hE post (hC E2 (fun k hk => hE k (by omega)) _ (hG post E2 _ _ (Or.inr ⟨d, rfl⟩) h)), fun post h => hr post (hR _ _ _ h)⟩)
  · obtain ⟨O, hA, hN⟩ := hA E (fun _ _ => rfl)
    refine Or.inr (Or.inr ⟨fun post h => hf E (fun _ _ => rfl) post (hC _ (hG post E _ _ (Or.inl rfl) h)), M1, O, fun post h => hr post (hR _ _ _ h), fun post h => hc post (hA _ (fun o5 e5 => by subst e5; exact h)), hM, hN⟩)
abbrev gPut (post : Int32 → Off → Prop) (E2 : Off) : Int32 → Off → Prop := fun v o4 => ∀ o5 : Off, o5 = put E2 0 13 o4 → post v o5
theorem gPut_h (post : Int32 → Off → Prop) (E2 : Off) (v : Int32) (o1 : Off) (h : o1 = E2 ∨ ∃ d, o1 = st E2 12 0 d) (hp : post v o1) : gPut post E2 v o1 := putG (E := E2) (P := post) v o1 h hp
abbrev gId (post : Int32 → Off → Prop) (_ : Off) : Int32 → Off → Prop := post
theorem bB1 : ∀ code n, B1 code n → ¬ code = 0 ∧ code ≤ 0 := fun code n h => by rw [h.1]; decide
theorem bB2 : ∀ code n, B2 code n → ¬ code = 0 ∧ code ≤ 0 := fun code n h => by rcases h with h | h <;> rw [h.1] <;> decide
theorem bB3 : ∀ code n, B3 code n → ¬ code = 0 ∧ code ≤ 0 := fun code n h => by rcases h with h | h <;> rw [h.1] <;> decide
theorem bBm2 : ∀ code n, Bm2 code n → ¬ code = 0 ∧ code ≤ 0 := fun code n h => by rw [h.1]; decide
theorem s5_dr_mono {P Q : Int32 → Prop} {p : Int32} (h : ∀ v, P v → Q v) (hp : wp_X5_isDrawer P p) : wp_X5_isDrawer Q p :=
  ⟨fun y => ⟨(hp.1 y).1, h _ (hp.1 y).2⟩, fun y => ⟨fun z => ⟨((hp.2 y).1 z).1, h _ ((hp.2 y).1 z).2⟩, fun z => ⟨((hp.2 y).2 z).1, h _ ((hp.2 y).2 z).2⟩⟩⟩
/-- a command kept on both sides -/
def CQ (E M : Off) (q cnt : Nat) (p : Int32 × List Int32) : Prop := E 40 4 = nI cnt ∧ q < cnt ∧ cnt ≤ 20 ∧ E 42 q = p.1 ∧ M 8 q = p.1 ∧ ∀ i, i < p.2.length → E 43 (3 * q + i) = p.2.getD i 0 ∧ M 9 (3 * q + i) = p.2.getD i 0
theorem car_97 {E M : Off} {c T q cnt : Nat} {x y : Int32} (hR : rE E (M 1) c) (hV : vN (M 1) c T) (hT0 : T ≤ 10240) (hq : CQ E M q cnt (97, [x, y])) : carR E M T q := by
  obtain ⟨h4, hq1, hc20, hl, hm8, hv⟩ := hq
  have ex0 : E 43 (3 * q + 0) = x := (hv 0 (by simp)).1
  have em0 : M 9 (3 * q + 0) = x := (hv 0 (by simp)).2
  have ex1 : E 43 (3 * q + 1) = y := (hv 1 (by simp)).1
  have em1 : M 9 (3 * q + 1) = y := (hv 1 (by simp)).2
  have hl : E 42 q = 97 := hl
  have hm8 : M 8 q = 97 := hm8
  refine car_of (C := C_a x y) (A := A_a x y) (R := R_a x y) (B := B1) (G := gPut) (T1 := T) (Nat.le_refl _) (by omega) (out_a hR hV hT0 x y) bB1 (fun E2 hE post h => ?_) gPut_h (fun post h => ?_) (fun post h => ?_)
  · have k40 := hE 40 (by decide)
    have k42 := hE 42 (by decide)
    have k43 := hE 43 (by decide)
    refine fo_pre (by rw [k40]; exact h4) hq1 hc20 ?_
    rw [k42, hl, k43, ex0, ex1]
    exact iT rfl (h)
  · refine co_pre h4 hq1 hc20 ?_
    rw [hl, ex0, ex1]
    exact iT rfl (h)
  · refine ca_pre (by omega) ?_
    unfold caX
    rw [hm8, em0, em1]
    exact iT rfl (h)
theorem car_98 {E M : Off} {c T q cnt : Nat} {x y : Int32} (hR : rE E (M 1) c) (hV : vN (M 1) c T) (hT0 : T ≤ 10240) (hq : CQ E M q cnt (98, [x, y])) (hcol : isCol y) : carR E M T q := by
  obtain ⟨h4, hq1, hc20, hl, hm8, hv⟩ := hq
  have ex0 : E 43 (3 * q + 0) = x := (hv 0 (by simp)).1
  have em0 : M 9 (3 * q + 0) = x := (hv 0 (by simp)).2
  have ex1 : E 43 (3 * q + 1) = y := (hv 1 (by simp)).1
  have em1 : M 9 (3 * q + 1) = y := (hv 1 (by simp)).2
  have hl : E 42 q = 98 := hl
  have hm8 : M 8 q = 98 := hm8
  have hu : ((y).toUInt32 % 65536).toInt32 = y := (col_yes hcol).2
  refine car_of (C := C_b x y) (A := A_b x y) (R := R_b2 x y) (B := B2) (G := gId) (T1 := T) (Nat.le_refl _) (by omega) (outcN_o (out_b2 hR hV hT0 x y hcol)) bB2 (fun E2 hE post h => ?_) (fun _ _ _ _ _ h => h) (fun post h => ?_) (fun post h => ?_)
  · have k40 := hE 40 (by decide)
    have k42 := hE 42 (by decide)
    have k43 := hE 43 (by decide)
    refine fo_pre (by rw [k40]; exact h4) hq1 hc20 ?_
    rw [k42, hl, k43, ex0, ex1]
    refine iF (by decide) (iT rfl (?_))
    rw [hu]
    exact h
  · refine co_pre h4 hq1 hc20 ?_
    rw [hl, ex0, ex1]
    refine iF (by decide) (iT rfl (?_))
    rw [hu]
    exact h
  · refine ca_pre (by omega) ?_
    unfold caX
    rw [hm8, em0, em1]
    exact iF (by decide) (iT rfl (s5_dr_mono (fun v hv2 => ⟨fun y => ⟨vpk (by omega) (by omega), jT rfl (hv2.1 y)⟩, hv2.2⟩) h))
theorem car_100 {E M : Off} {c T q cnt : Nat} {x : Int32} (hR : rE E (M 1) c) (hV : vN (M 1) c T) (hT0 : T ≤ 10240) (hq : CQ E M q cnt (100, [x])) : carR E M T q := by
  obtain ⟨h4, hq1, hc20, hl, hm8, hv⟩ := hq
  have ex0 : E 43 (3 * q + 0) = x := (hv 0 (by simp)).1
  have em0 : M 9 (3 * q + 0) = x := (hv 0 (by simp)).2
  have hl : E 42 q = 100 := hl
  have hm8 : M 8 q = 100 := hm8
  refine car_of (C := C_d x) (A := A_d x) (R := R_d2 x) (B := B1) (G := gId) (T1 := T) (Nat.le_refl _) (by omega) (outcN_o (out_d2 hR hV hT0 x)) bB1 (fun E2 hE post h => ?_) (fun _ _ _ _ _ h => h) (fun post h => ?_) (fun post h => ?_)
  · have k40 := hE 40 (by decide)
    have k42 := hE 42 (by decide)
    have k43 := hE 43 (by decide)
    refine fo_pre (by rw [k40]; exact h4) hq1 hc20 ?_
    rw [k42, hl, k43, ex0]
    exact iF (by decide) (iF (by decide) (iT rfl (h)))
  · refine co_pre h4 hq1 hc20 ?_
    rw [hl, ex0]
    exact iF (by decide) (iF (by decide) (iT rfl (h)))
  · refine ca_pre (by omega) ?_
    unfold caX
    rw [hm8, em0]
    exact iF (by decide) (iF (by decide) (iT rfl (h)))
theorem car_101 {E M : Off} {c T q cnt : Nat} {x y : Int32} (hR : rE E (M 1) c) (hV : vN (M 1) c T) (hT0 : T ≤ 10240) (hq : CQ E M q cnt (101, [x, y])) : carR E M T q := by
  obtain ⟨h4, hq1, hc20, hl, hm8, hv⟩ := hq
  have ex0 : E 43 (3 * q + 0) = x := (hv 0 (by simp)).1
  have em0 : M 9 (3 * q + 0) = x := (hv 0 (by simp)).2
  have ex1 : E 43 (3 * q + 1) = y := (hv 1 (by simp)).1
  have em1 : M 9 (3 * q + 1) = y := (hv 1 (by simp)).2
  have hl : E 42 q = 101 := hl
  have hm8 : M 8 q = 101 := hm8
  refine car_of (C := C_e x y) (A := A_e x y) (R := R_e x y) (B := B3) (G := gId) (T1 := T) (Nat.le_refl _) (by omega) (outcN_o (out_e hR hV hT0 x y)) bB3 (fun E2 hE post h => ?_) (fun _ _ _ _ _ h => h) (fun post h => ?_) (fun post h => ?_)
  · have k40 := hE 40 (by decide)
    have k42 := hE 42 (by decide)
    have k43 := hE 43 (by decide)
    refine fo_pre (by rw [k40]; exact h4) hq1 hc20 ?_
    rw [k42, hl, k43, ex0, ex1]
    exact iF (by decide) (iF (by decide) (iF (by decide) (iT rfl (h))))
  · refine co_pre h4 hq1 hc20 ?_
    rw [hl, ex0, ex1]
    exact iF (by decide) (iF (by decide) (iF (by decide) (iT rfl (h))))
  · refine ca_pre (by omega) ?_
    unfold caX
    rw [hm8, em0, em1]
    exact iF (by decide) (iF (by decide) (iF (by decide) (iT rfl (h))))
theorem car_106 {E M : Off} {c T q cnt : Nat} {x y : Int32} (hR : rE E (M 1) c) (hV : vN (M 1) c T) (hT0 : T ≤ 10240) (hq : CQ E M q cnt (106, [x, y])) : carR E M T q := by
  obtain ⟨h4, hq1, hc20, hl, hm8, hv⟩ := hq
  have ex0 : E 43 (3 * q + 0) = x := (hv 0 (by simp)).1
  have em0 : M 9 (3 * q + 0) = x := (hv 0 (by simp)).2
  have ex1 : E 43 (3 * q + 1) = y := (hv 1 (by simp)).1
  have em1 : M 9 (3 * q + 1) = y := (hv 1 (by simp)).2
  have hl : E 42 q = 106 := hl
  have hm8 : M 8 q = 106 := hm8
  refine car_of (C := C_j x y) (A := A_j x y) (R := R_j2 x y) (B := B2) (G := gPut) (T1 := T) (Nat.le_refl _) (by omega) (out_j2 hR hV hT0 x y) bB2 (fun E2 hE post h => ?_) gPut_h (fun post h => ?_) (fun post h => ?_)
  · have k40 := hE 40 (by decide)
    have k42 := hE 42 (by decide)
    have k43 := hE 43 (by decide)
    refine fo_pre (by rw [k40]; exact h4) hq1 hc20 ?_
    rw [k42, hl, k43, ex0, ex1]
    exact iF (by decide) (iF (by decide) (iF (by decide) (iF (by decide) (iT rfl (h)))))
  · refine co_pre h4 hq1 hc20 ?_
    rw [hl, ex0, ex1]
    exact iF (by decide) (iF (by decide) (iF (by decide) (iF (by decide) (iT rfl (h)))))
  · refine ca_pre (by omega) ?_
    unfold caX
    rw [hm8, em0, em1]
    exact iF (by decide) (iF (by decide) (iF (by decide) (iF (by decide) (iT rfl (h)))))
theorem car_107 {E M : Off} {c T q cnt : Nat} {x : Int32} (hR : rE E (M 1) c) (hV : vN (M 1) c T) (hT0 : T ≤ 10240) (hq : CQ E M q cnt (107, [x])) : carR E M T q := by
  obtain ⟨h4, hq1, hc20, hl, hm8, hv⟩ := hq
  have ex0 : E 43 (3 * q + 0) = x := (hv 0 (by simp)).1
  have em0 : M 9 (3 * q + 0) = x := (hv 0 (by simp)).2
  have hl : E 42 q = 107 := hl
  have hm8 : M 8 q = 107 := hm8
  refine car_of (C := C_k x) (A := A_k x) (R := R_k x) (B := B1) (G := gPut) (T1 := T) (Nat.le_refl _) (by omega) (out_k hR hV hT0 x) bB1 (fun E2 hE post h => ?_) gPut_h (fun post h => ?_) (fun post h => ?_)
  · have k40 := hE 40 (by decide)
    have k42 := hE 42 (by decide)
    have k43 := hE 43 (by decide)
    refine fo_pre (by rw [k40]; exact h4) hq1 hc20 ?_
    rw [k42, hl, k43, ex0]
    exact iF (by decide) (iF (by decide) (iF (by decide) (iF (by decide) (iF (by decide) (iT rfl (h))))))
  · refine co_pre h4 hq1 hc20 ?_
    rw [hl, ex0]
    exact iF (by decide) (iF (by decide) (iF (by decide) (iF (by decide) (iF (by decide) (iT rfl (h))))))
  · refine ca_pre (by omega) ?_
    unfold caX
    rw [hm8, em0]
    exact iF (by decide) (iF (by decide) (iF (by decide) (iF (by decide) (iF (by decide) (iT rfl (h))))))
theorem car_108 {E M : Off} {c T q cnt : Nat} {x : Int32} (hR : rE E (M 1) c) (hV : vN (M 1) c T) (hT0 : T ≤ 10240) (hq : CQ E M q cnt (108, [x])) : carR E M T q := by
  obtain ⟨h4, hq1, hc20, hl, hm8, hv⟩ := hq
  have ex0 : E 43 (3 * q + 0) = x := (hv 0 (by simp)).1
  have em0 : M 9 (3 * q + 0) = x := (hv 0 (by simp)).2
  have hl : E 42 q = 108 := hl
  have hm8 : M 8 q = 108 := hm8
  refine car_of (C := C_l x) (A := A_l x) (R := R_l x) (B := B1) (G := gPut) (T1 := T) (Nat.le_refl _) (by omega) (out_l hR hV hT0 x) bB1 (fun E2 hE post h => ?_) gPut_h (fun post h => ?_) (fun post h => ?_)
  · have k40 := hE 40 (by decide)
    have k42 := hE 42 (by decide)
    have k43 := hE 43 (by decide)
    refine fo_pre (by rw [k40]; exact h4) hq1 hc20 ?_
    rw [k42, hl, k43, ex0]
    exact iF (by decide) (iF (by decide) (iF (by decide) (iF (by decide) (iF (by decide) (iF (by decide) (iT rfl (h)))))))
  · refine co_pre h4 hq1 hc20 ?_
    rw [hl, ex0]
    exact iF (by decide) (iF (by decide) (iF (by decide) (iF (by decide) (iF (by decide) (iF (by decide) (iT rfl (h)))))))
  · refine ca_pre (by omega) ?_
    unfold caX
    rw [hm8, em0]
    exact iF (by decide) (iF (by decide) (iF (by decide) (iF (by decide) (iF (by decide) (iF (by decide) (iT rfl (h)))))))
theorem car_109 {E M : Off} {c T q cnt : Nat} {x y : Int32} (hR : rE E (M 1) c) (hV : vN (M 1) c T) (hT0 : T ≤ 10240) (hq : CQ E M q cnt (109, [x, y])) : carR E M T q := by
  obtain ⟨h4, hq1, hc20, hl, hm8, hv⟩ := hq
  have ex0 : E 43 (3 * q + 0) = x := (hv 0 (by simp)).1
  have em0 : M 9 (3 * q + 0) = x := (hv 0 (by simp)).2
  have ex1 : E 43 (3 * q + 1) = y := (hv 1 (by simp)).1
  have em1 : M 9 (3 * q + 1) = y := (hv 1 (by simp)).2
  have hl : E 42 q = 109 := hl
  have hm8 : M 8 q = 109 := hm8
  refine car_of (C := C_m x y) (A := A_m x y) (R := R_m x y) (B := B1) (G := gPut) (T1 := T) (Nat.le_refl _) (by omega) (out_m hR hV hT0 x y) bB1 (fun E2 hE post h => ?_) gPut_h (fun post h => ?_) (fun post h => ?_)
  · have k40 := hE 40 (by decide)
    have k42 := hE 42 (by decide)
    have k43 := hE 43 (by decide)
    refine fo_pre (by rw [k40]; exact h4) hq1 hc20 ?_
    rw [k42, hl, k43, ex0, ex1]
    exact iF (by decide) (iF (by decide) (iF (by decide) (iF (by decide) (iF (by decide) (iF (by decide) (iF (by decide) (iT rfl (h))))))))
  · refine co_pre h4 hq1 hc20 ?_
    rw [hl, ex0, ex1]
    exact iF (by decide) (iF (by decide) (iF (by decide) (iF (by decide) (iF (by decide) (iF (by decide) (iF (by decide) (iT rfl (h))))))))
  · refine ca_pre (by omega) ?_
    unfold caX
    rw [hm8, em0, em1]
    exact iF (by decide) (iF (by decide) (iF (by decide) (iF (by decide) (iF (by decide) (iF (by decide) (iF (by decide) (iT rfl (h))))))))
theorem car_110 {E M : Off} {c T q cnt : Nat} {x y : Int32} (hR : rE E (M 1) c) (hV : vN (M 1) c T) (hT0 : T ≤ 10240) (hq : CQ E M q cnt (110, [x, y])) (hcol : isCol x) : carR E M T q := by
  obtain ⟨h4, hq1, hc20, hl, hm8, hv⟩ := hq
  have ex0 : E 43 (3 * q + 0) = x := (hv 0 (by simp)).1
  have em0 : M 9 (3 * q + 0) = x := (hv 0 (by simp)).2
  have ex1 : E 43 (3 * q + 1) = y := (hv 1 (by simp)).1
  have em1 : M 9 (3 * q + 1) = y := (hv 1 (by simp)).2
  have hl : E 42 q = 110 := hl
  have hm8 : M 8 q = 110 := hm8
  have hu : ((x).toUInt32 % 65536).toInt32 = x := (col_yes hcol).2
  refine car_of (C := C_n x y) (A := A_n x y) (R := R_n x y) (B := Bm2) (G := gPut) (T1 := T) (Nat.le_refl _) (by omega) (out_n hR hV hT0 x y) bBm2 (fun E2 hE post h => ?_) gPut_h (fun post h => ?_) (fun post h => ?_)
  · have k40 := hE 40 (by decide)
    have k42 := hE 42 (by decide)
    have k43 := hE 43 (by decide)
    refine fo_pre (by rw [k40]; exact h4) hq1 hc20 ?_
    rw [k42, hl, k43, ex0, ex1]
    refine iF (by decide) (iF (by decide) (iF (by decide) (iF (by decide) (iF (by decide) (iF (by decide) (iF (by decide) (iF (by decide) (iT rfl (?_)))))))))
    rw [hu]
    exact h
  · refine co_pre h4 hq1 hc20 ?_
    rw [hl, ex0, ex1]
    refine iF (by decide) (iF (by decide) (iF (by decide) (iF (by decide) (iF (by decide) (iF (by decide) (iF (by decide) (iF (by decide) (iT rfl (?_)))))))))
    rw [hu]
    exact h
  · refine ca_pre (by omega) ?_
    unfold caX
    rw [hm8, em0, em1]
    exact iF (by decide) (iF (by decide) (iF (by decide) (iF (by decide) (iF (by decide) (iF (by decide) (iF (by decide) (iF (by decide) (iT rfl (h)))))))))
theorem car_112 {E M : Off} {c T q cnt : Nat} {x : Int32} (hR : rE E (M 1) c) (hV : vN (M 1) c T) (hT0 : T ≤ 10240) (hq : CQ E M q cnt (112, [x])) : carR E M T q := by
  obtain ⟨h4, hq1, hc20, hl, hm8, hv⟩ := hq
  have ex0 : E 43 (3 * q + 0) = x := (hv 0 (by simp)).1
  have em0 : M 9 (3 * q + 0) = x := (hv 0 (by simp)).2
  have hl : E 42 q = 112 := hl
  have hm8 : M 8 q = 112 := hm8
  refine car_of (C := C_p x) (A := A_p x) (R := R_p x) (B := B1) (G := gPut) (T1 := T) (Nat.le_refl _) (by omega) (out_p hR hV hT0 x) bB1 (fun E2 hE post h => ?_) gPut_h (fun post h => ?_) (fun post h => ?_)
  · have k40 := hE 40 (by decide)
    have k42 := hE 42 (by decide)
    have k43 := hE 43 (by decide)
    refine fo_pre (by rw [k40]; exact h4) hq1 hc20 ?_
    rw [k42, hl, k43, ex0]
    exact iF (by decide) (iF (by decide) (iF (by decide) (iF (by decide) (iF (by decide) (iF (by decide) (iF (by decide) (iF (by decide) (iF (by decide) (iT rfl (h))))))))))
  · refine co_pre h4 hq1 hc20 ?_
    rw [hl, ex0]
    exact iF (by decide) (iF (by decide) (iF (by decide) (iF (by decide) (iF (by decide) (iF (by decide) (iF (by decide) (iF (by decide) (iF (by decide) (iT rfl (h))))))))))
  · refine ca_pre (by omega) ?_
    unfold caX
    rw [hm8, em0]
    exact iF (by decide) (iF (by decide) (iF (by decide) (iF (by decide) (iF (by decide) (iF (by decide) (iF (by decide) (iF (by decide) (iF (by decide) (iT rfl (h))))))))))
theorem car_113 {E M : Off} {c T q cnt : Nat} {x y : Int32} (hR : rE E (M 1) c) (hV : vN (M 1) c T) (hT0 : T ≤ 10240) (hq : CQ E M q cnt (113, [x, y])) : carR E M T q := by
  obtain ⟨h4, hq1, hc20, hl, hm8, hv⟩ := hq
  have ex0 : E 43 (3 * q + 0) = x := (hv 0 (by simp)).1
  have em0 : M 9 (3 * q + 0) = x := (hv 0 (by simp)).2
  have ex1 : E 43 (3 * q + 1) = y := (hv 1 (by simp)).1
  have em1 : M 9 (3 * q + 1) = y := (hv 1 (by simp)).2
  have hl : E 42 q = 113 := hl
  have hm8 : M 8 q = 113 := hm8
  refine car_of (C := C_q x y) (A := A_q x y) (R := R_q2 x y) (B := B2) (G := gId) (T1 := T) (Nat.le_refl _) (by omega) (outcN_o (out_q2 hR hV hT0 x y)) bB2 (fun E2 hE post h => ?_) (fun _ _ _ _ _ h => h) (fun post h => ?_) (fun post h => ?_)
  · have k40 := hE 40 (by decide)
    have k42 := hE 42 (by decide)
    have k43 := hE 43 (by decide)
    refine fo_pre (by rw [k40]; exact h4) hq1 hc20 ?_
    rw [k42, hl, k43, ex0, ex1]
    exact iF (by decide) (iF (by decide) (iF (by decide) (iF (by decide) (iF (by decide) (iF (by decide) (iF (by decide) (iF (by decide) (iF (by decide) (iF (by decide) (iT rfl (h)))))))))))
  · refine co_pre h4 hq1 hc20 ?_
    rw [hl, ex0, ex1]
    exact iF (by decide) (iF (by decide) (iF (by decide) (iF (by decide) (iF (by decide) (iF (by decide) (iF (by decide) (iF (by decide) (iF (by decide) (iF (by decide) (iT rfl (h)))))))))))
  · refine ca_pre (by omega) ?_
    unfold caX
    rw [hm8, em0, em1]
    exact iF (by decide) (iF (by decide) (iF (by decide) (iF (by decide) (iF (by decide) (iF (by decide) (iF (by decide) (iF (by decide) (iF (by decide) (iF (by decide) (iT rfl (h)))))))))))
theorem car_114 {E M : Off} {c T q cnt : Nat} {x y : Int32} (hR : rE E (M 1) c) (hV : vN (M 1) c T) (hT0 : T ≤ 10240) (hq : CQ E M q cnt (114, [x, y])) : carR E M T q := by
  obtain ⟨h4, hq1, hc20, hl, hm8, hv⟩ := hq
  have ex0 : E 43 (3 * q + 0) = x := (hv 0 (by simp)).1
  have em0 : M 9 (3 * q + 0) = x := (hv 0 (by simp)).2
  have ex1 : E 43 (3 * q + 1) = y := (hv 1 (by simp)).1
  have em1 : M 9 (3 * q + 1) = y := (hv 1 (by simp)).2
  have hl : E 42 q = 114 := hl
  have hm8 : M 8 q = 114 := hm8
  refine car_of (C := C_r x y) (A := A_r x y) (R := R_r2 x y) (B := B2) (G := gPut) (T1 := T) (Nat.le_refl _) (by omega) (out_r2 hR hV hT0 x y) bB2 (fun E2 hE post h => ?_) gPut_h (fun post h => ?_) (fun post h => ?_)
  · have k40 := hE 40 (by decide)
    have k42 := hE 42 (by decide)
    have k43 := hE 43 (by decide)
    refine fo_pre (by rw [k40]; exact h4) hq1 hc20 ?_
    rw [k42, hl, k43, ex0, ex1]
    exact iF (by decide) (iF (by decide) (iF (by decide) (iF (by decide) (iF (by decide) (iF (by decide) (iF (by decide) (iF (by decide) (iF (by decide) (iF (by decide) (iF (by decide) (iT rfl (h))))))))))))
  · refine co_pre h4 hq1 hc20 ?_
    rw [hl, ex0, ex1]
    exact iF (by decide) (iF (by decide) (iF (by decide) (iF (by decide) (iF (by decide) (iF (by decide) (iF (by decide) (iF (by decide) (iF (by decide) (iF (by decide) (iF (by decide) (iT rfl (h))))))))))))
  · refine ca_pre (by omega) ?_
    unfold caX
    rw [hm8, em0, em1]
    exact iF (by decide) (iF (by decide) (iF (by decide) (iF (by decide) (iF (by decide) (iF (by decide) (iF (by decide) (iF (by decide) (iF (by decide) (iF (by decide) (iF (by decide) (iT rfl (h))))))))))))
theorem car_116 {E M : Off} {c T q cnt : Nat} {x y w : Int32} (hR : rE E (M 1) c) (hV : vN (M 1) c T) (hT0 : T ≤ 10240) (hq : CQ E M q cnt (116, [x, y, w])) (hcls : isCls w) : carR E M T q := by
  obtain ⟨h4, hq1, hc20, hl, hm8, hv⟩ := hq
  have ex0 : E 43 (3 * q + 0) = x := (hv 0 (by simp)).1
  have em0 : M 9 (3 * q + 0) = x := (hv 0 (by simp)).2
  have ex1 : E 43 (3 * q + 1) = y := (hv 1 (by simp)).1
  have em1 : M 9 (3 * q + 1) = y := (hv 1 (by simp)).2
  have ex2 : E 43 (3 * q + 2) = w := (hv 2 (by simp)).1
  have em2 : M 9 (3 * q + 2) = w := (hv 2 (by simp)).2
  have hl : E 42 q = 116 := hl
  have hm8 : M 8 q = 116 := hm8
  have hu : ((w).toUInt32 % 65536).toInt32 = w := (cls_yes hcls).2.1
  refine car_of (C := C_t x y w) (A := A_t x y w) (R := R_t2 x y w) (B := B2) (G := gPut) (T1 := T) (Nat.le_refl _) (by omega) (out_t2 hR hV hT0 x y w hcls) bB2 (fun E2 hE post h => ?_) gPut_h (fun post h => ?_) (fun post h => ?_)
  · have k40 := hE 40 (by decide)
    have k42 := hE 42 (by decide)
    have k43 := hE 43 (by decide)
    refine fo_pre (by rw [k40]; exact h4) hq1 hc20 ?_
    rw [k42, hl, k43, ex0, ex1]
    refine iF (by decide) (iF (by decide) (iF (by decide) (iF (by decide) (iF (by decide) (iF (by decide) (iF (by decide) (iF (by decide) (iF (by decide) (iF (by decide) (iF (by decide) (iF (by decide) (iT rfl (x1_val (i := 2) (by rw [k40]; exact h4) hq1 hc20 (by omega) ?_)))))))))))))
    rw [k43, ex2, hu]
    exact h
  · refine co_pre h4 hq1 hc20 ?_
    rw [hl, ex0, ex1]
    refine iF (by decide) (iF (by decide) (iF (by decide) (iF (by decide) (iF (by decide) (iF (by decide) (iF (by decide) (iF (by decide) (iF (by decide) (iF (by decide) (iF (by decide) (iF (by decide) (iT rfl (x1_val (i := 2) h4 hq1 hc20 (by omega) ?_)))))))))))))
    rw [ex2, hu]
    exact h
  · refine ca_pre (by omega) ?_
    unfold caX
    rw [hm8, em0, em1, em2]
    exact iF (by decide) (iF (by decide) (iF (by decide) (iF (by decide) (iF (by decide) (iF (by decide) (iF (by decide) (iF (by decide) (iF (by decide) (iF (by decide) (iF (by decide) (iF (by decide) (iT rfl (h)))))))))))))
theorem car_117 {E M : Off} {c T q cnt : Nat} {x y : Int32} (hR : rE E (M 1) c) (hV : vN (M 1) c T) (hT0 : T ≤ 10240) (hq : CQ E M q cnt (117, [x, y])) (hcol : isCol y) : carR E M T q := by
  obtain ⟨h4, hq1, hc20, hl, hm8, hv⟩ := hq
  have ex0 : E 43 (3 * q + 0) = x := (hv 0 (by simp)).1
  have em0 : M 9 (3 * q + 0) = x := (hv 0 (by simp)).2
  have ex1 : E 43 (3 * q + 1) = y := (hv 1 (by simp)).1
  have em1 : M 9 (3 * q + 1) = y := (hv 1 (by simp)).2
  have hl : E 42 q = 117 := hl
  have hm8 : M 8 q = 117 := hm8
  have hu : ((y).toUInt32 % 65536).toInt32 = y := (col_yes hcol).2
  refine car_of (C := C_u x y) (A := A_u x y) (R := R_u2 x y) (B := B2) (G := gId) (T1 := T) (Nat.le_refl _) (by omega) (outcN_o (out_u2 hR hV hT0 x y hcol)) bB2 (fun E2 hE post h => ?_) (fun _ _ _ _ _ h => h) (fun post h => ?_) (fun post h => ?_)
  · have k40 := hE 40 (by decide)
    have k42 := hE 42 (by decide)
    have k43 := hE 43 (by decide)
    refine fo_pre (by rw [k40]; exact h4) hq1 hc20 ?_
    rw [k42, hl, k43, ex0, ex1]
    refine iF (by decide) (iF (by decide) (iF (by decide) (iF (by decide) (iF (by decide) (iF (by decide) (iF (by decide) (iF (by decide) (iF (by decide) (iF (by decide) (iF (by decide) (iF (by decide) (iF (by decide) (iT rfl (?_))))))))))))))
    rw [hu]
    exact h
  · refine co_pre h4 hq1 hc20 ?_
    rw [hl, ex0, ex1]
    refine iF (by decide) (iF (by decide) (iF (by decide) (iF (by decide) (iF (by decide) (iF (by decide) (iF (by decide) (iF (by decide) (iF (by decide) (iF (by decide) (iF (by decide) (iF (by decide) (iF (by decide) (iT rfl (?_))))))))))))))
    rw [hu]
    exact h
  · refine ca_pre (by omega) ?_
    unfold caX
    rw [hm8, em0, em1]
    exact iF (by decide) (iF (by decide) (iF (by decide) (iF (by decide) (iF (by decide) (iF (by decide) (iF (by decide) (iF (by decide) (iF (by decide) (iF (by decide) (iF (by decide) (iF (by decide) (iF (by decide) (iT rfl (s5_dr_mono (fun v hv2 => ⟨fun y => ⟨vpk (by omega) (by omega), jF (by decide) (hv2.1 y)⟩, hv2.2⟩) h))))))))))))))
theorem car_119 {E M : Off} {c T q cnt : Nat} {x : Int32} (hR : rE E (M 1) c) (hV : vN (M 1) c T) (hT0 : T ≤ 10240) (hq : CQ E M q cnt (119, [x])) : carR E M T q := by
  obtain ⟨h4, hq1, hc20, hl, hm8, hv⟩ := hq
  have ex0 : E 43 (3 * q + 0) = x := (hv 0 (by simp)).1
  have em0 : M 9 (3 * q + 0) = x := (hv 0 (by simp)).2
  have hl : E 42 q = 119 := hl
  have hm8 : M 8 q = 119 := hm8
  refine car_of (C := C_w x) (A := A_w x) (R := R_w x) (B := B1) (G := gPut) (T1 := T) (Nat.le_refl _) (by omega) (out_w hR hV hT0 x) bB1 (fun E2 hE post h => ?_) gPut_h (fun post h => ?_) (fun post h => ?_)
  · have k40 := hE 40 (by decide)
    have k42 := hE 42 (by decide)
    have k43 := hE 43 (by decide)
    refine fo_pre (by rw [k40]; exact h4) hq1 hc20 ?_
    rw [k42, hl, k43, ex0]
    exact iF (by decide) (iF (by decide) (iF (by decide) (iF (by decide) (iF (by decide) (iF (by decide) (iF (by decide) (iF (by decide) (iF (by decide) (iF (by decide) (iF (by decide) (iF (by decide) (iF (by decide) (iF (by decide) (iT rfl (h)))))))))))))))
  · refine co_pre h4 hq1 hc20 ?_
    rw [hl, ex0]
    exact iF (by decide) (iF (by decide) (iF (by decide) (iF (by decide) (iF (by decide) (iF (by decide) (iF (by decide) (iF (by decide) (iF (by decide) (iF (by decide) (iF (by decide) (iF (by decide) (iF (by decide) (iF (by decide) (iT rfl (h)))))))))))))))
  · refine ca_pre (by omega) ?_
    unfold caX
    rw [hm8, em0]
    exact iF (by decide) (iF (by decide) (iF (by decide) (iF (by decide) (iF (by decide) (iF (by decide) (iF (by decide) (iF (by decide) (iF (by decide) (iF (by decide) (iF (by decide) (iF (by decide) (iF (by decide) (iF (by decide) (iT rfl (h)))))))))))))))
theorem car_121 {E M : Off} {c T q cnt : Nat} {x : Int32} (hR : rE E (M 1) c) (hV : vN (M 1) c T) (hT0 : T ≤ 10240) (hq : CQ E M q cnt (121, [x])) : carR E M T q := by
  obtain ⟨h4, hq1, hc20, hl, hm8, hv⟩ := hq
  have ex0 : E 43 (3 * q + 0) = x := (hv 0 (by simp)).1
  have em0 : M 9 (3 * q + 0) = x := (hv 0 (by simp)).2
  have hl : E 42 q = 121 := hl
  have hm8 : M 8 q = 121 := hm8
  refine car_of (C := C_y x) (A := A_y x) (R := R_y2 x) (B := Bm2) (G := gId) (T1 := T + 20) (by omega) (by omega) (outcN_o (out_y2 hR hV hT0 x)) bBm2 (fun E2 hE post h => ?_) (fun _ _ _ _ _ h => h) (fun post h => ?_) (fun post h => ?_)
  · have k40 := hE 40 (by decide)
    have k42 := hE 42 (by decide)
    have k43 := hE 43 (by decide)
    refine fo_pre (by rw [k40]; exact h4) hq1 hc20 ?_
    rw [k42, hl, k43, ex0]
    exact iF (by decide) (iF (by decide) (iF (by decide) (iF (by decide) (iF (by decide) (iF (by decide) (iF (by decide) (iF (by decide) (iF (by decide) (iF (by decide) (iF (by decide) (iF (by decide) (iF (by decide) (iF (by decide) (iF (by decide) (h)))))))))))))))
  · refine co_pre h4 hq1 hc20 ?_
    rw [hl, ex0]
    exact iF (by decide) (iF (by decide) (iF (by decide) (iF (by decide) (iF (by decide) (iF (by decide) (iF (by decide) (iF (by decide) (iF (by decide) (iF (by decide) (iF (by decide) (iF (by decide) (iF (by decide) (iF (by decide) (iF (by decide) (h)))))))))))))))
  · refine ca_pre (by omega) ?_
    unfold caX
    rw [hm8, em0]
    exact iF (by decide) (iF (by decide) (iF (by decide) (iF (by decide) (iF (by decide) (iF (by decide) (iF (by decide) (iF (by decide) (iF (by decide) (iF (by decide) (iF (by decide) (iF (by decide) (iF (by decide) (iF (by decide) (iF (by decide) (h)))))))))))))))
theorem car_all {E M : Off} {c T q cnt : Nat} {p : Int32 × List Int32} (hR : rE E (M 1) c) (hV : vN (M 1) c T) (hT0 : T ≤ 10240) (hq : CQ E M q cnt p) (hp : cmdOK p) : carR E M T q := by
  obtain ⟨l, ws⟩ := p
  obtain ⟨hf, hw⟩ := hp
  have hf : frm l ≠ 15 := hf
  have hw : vok (gBs (frm l)) ws := hw
  rcases frm_c hf with rfl | rfl | rfl | rfl | rfl | rfl | rfl | rfl | rfl | rfl | rfl | rfl | rfl | rfl | rfl | rfl
  · have hw : vok [78, 62, 68] ws := hw
    rw [vok] at hw
    rw [if_pos (by decide)] at hw
    obtain ⟨x, t0, e0, c0, k0, hw⟩ := hw
    rw [vok] at hw
    rw [if_neg (by decide)] at hw
    rw [vok] at hw
    rw [if_pos (by decide)] at hw
    obtain ⟨y, t1, e1, c1, k1, hw⟩ := hw
    rw [vok] at hw
    subst hw
    subst e1
    subst e0
    exact car_97 hR hV hT0 hq 
  · have hw : vok [68, 67] ws := hw
    rw [vok] at hw
    rw [if_pos (by decide)] at hw
    obtain ⟨x, t0, e0, c0, k0, hw⟩ := hw
    rw [vok] at hw
    rw [if_pos (by decide)] at hw
    obtain ⟨y, t1, e1, c1, k1, hw⟩ := hw
    rw [vok] at hw
    subst hw
    subst e1
    subst e0
    exact car_98 hR hV hT0 hq (c1 rfl)
  · have hw : vok [68] ws := hw
    rw [vok] at hw
    rw [if_pos (by decide)] at hw
    obtain ⟨x, t0, e0, c0, k0, hw⟩ := hw
    rw [vok] at hw
    subst hw
    subst e0
    exact car_100 hR hV hT0 hq 
  · have hw : vok [68, 68] ws := hw
    rw [vok] at hw
    rw [if_pos (by decide)] at hw
    obtain ⟨x, t0, e0, c0, k0, hw⟩ := hw
    rw [vok] at hw
    rw [if_pos (by decide)] at hw
    obtain ⟨y, t1, e1, c1, k1, hw⟩ := hw
    rw [vok] at hw
    subst hw
    subst e1
    subst e0
    exact car_101 hR hV hT0 hq 
  · have hw : vok [78, 38, 78] ws := hw
    rw [vok] at hw
    rw [if_pos (by decide)] at hw
    obtain ⟨x, t0, e0, c0, k0, hw⟩ := hw
    rw [vok] at hw
    rw [if_neg (by decide)] at hw
    rw [vok] at hw
    rw [if_pos (by decide)] at hw
    obtain ⟨y, t1, e1, c1, k1, hw⟩ := hw
    rw [vok] at hw
    subst hw
    subst e1
    subst e0
    exact car_106 hR hV hT0 hq 
  · have hw : vok [78] ws := hw
    rw [vok] at hw
    rw [if_pos (by decide)] at hw
    obtain ⟨x, t0, e0, c0, k0, hw⟩ := hw
    rw [vok] at hw
    subst hw
    subst e0
    exact car_107 hR hV hT0 hq 
  · have hw : vok [78] ws := hw
    rw [vok] at hw
    rw [if_pos (by decide)] at hw
    obtain ⟨x, t0, e0, c0, k0, hw⟩ := hw
    rw [vok] at hw
    subst hw
    subst e0
    exact car_108 hR hV hT0 hq 
  · have hw : vok [78, 62, 68] ws := hw
    rw [vok] at hw
    rw [if_pos (by decide)] at hw
    obtain ⟨x, t0, e0, c0, k0, hw⟩ := hw
    rw [vok] at hw
    rw [if_neg (by decide)] at hw
    rw [vok] at hw
    rw [if_pos (by decide)] at hw
    obtain ⟨y, t1, e1, c1, k1, hw⟩ := hw
    rw [vok] at hw
    subst hw
    subst e1
    subst e0
    exact car_109 hR hV hT0 hq 
  · have hw : vok [67, 68] ws := hw
    rw [vok] at hw
    rw [if_pos (by decide)] at hw
    obtain ⟨x, t0, e0, c0, k0, hw⟩ := hw
    rw [vok] at hw
    rw [if_pos (by decide)] at hw
    obtain ⟨y, t1, e1, c1, k1, hw⟩ := hw
    rw [vok] at hw
    subst hw
    subst e1
    subst e0
    exact car_110 hR hV hT0 hq (c0 rfl)
  · have hw : vok [78] ws := hw
    rw [vok] at hw
    rw [if_pos (by decide)] at hw
    obtain ⟨x, t0, e0, c0, k0, hw⟩ := hw
    rw [vok] at hw
    subst hw
    subst e0
    exact car_112 hR hV hT0 hq 
  · have hw : vok [68, 61, 68] ws := hw
    rw [vok] at hw
    rw [if_pos (by decide)] at hw
    obtain ⟨x, t0, e0, c0, k0, hw⟩ := hw
    rw [vok] at hw
    rw [if_neg (by decide)] at hw
    rw [vok] at hw
    rw [if_pos (by decide)] at hw
    obtain ⟨y, t1, e1, c1, k1, hw⟩ := hw
    rw [vok] at hw
    subst hw
    subst e1
    subst e0
    exact car_113 hR hV hT0 hq 
  · have hw : vok [78, 43, 68] ws := hw
    rw [vok] at hw
    rw [if_pos (by decide)] at hw
    obtain ⟨x, t0, e0, c0, k0, hw⟩ := hw
    rw [vok] at hw
    rw [if_neg (by decide)] at hw
    rw [vok] at hw
    rw [if_pos (by decide)] at hw
    obtain ⟨y, t1, e1, c1, k1, hw⟩ := hw
    rw [vok] at hw
    subst hw
    subst e1
    subst e0
    exact car_114 hR hV hT0 hq 
  · have hw : vok [68, 68, 84] ws := hw
    rw [vok] at hw
    rw [if_pos (by decide)] at hw
    obtain ⟨x, t0, e0, c0, k0, hw⟩ := hw
    rw [vok] at hw
    rw [if_pos (by decide)] at hw
    obtain ⟨y, t1, e1, c1, k1, hw⟩ := hw
    rw [vok] at hw
    rw [if_pos (by decide)] at hw
    obtain ⟨w, t2, e2, c2, k2, hw⟩ := hw
    rw [vok] at hw
    subst hw
    subst e2
    subst e1
    subst e0
    exact car_116 hR hV hT0 hq (k2 rfl)
  · have hw : vok [68, 67] ws := hw
    rw [vok] at hw
    rw [if_pos (by decide)] at hw
    obtain ⟨x, t0, e0, c0, k0, hw⟩ := hw
    rw [vok] at hw
    rw [if_pos (by decide)] at hw
    obtain ⟨y, t1, e1, c1, k1, hw⟩ := hw
    rw [vok] at hw
    subst hw
    subst e1
    subst e0
    exact car_117 hR hV hT0 hq (c1 rfl)
  · have hw : vok [78] ws := hw
    rw [vok] at hw
    rw [if_pos (by decide)] at hw
    obtain ⟨x, t0, e0, c0, k0, hw⟩ := hw
    rw [vok] at hw
    subst hw
    subst e0
    exact car_119 hR hV hT0 hq 
  · have hw : vok [78] ws := hw
    rw [vok] at hw
    rw [if_pos (by decide)] at hw
    obtain ⟨x, t0, e0, c0, k0, hw⟩ := hw
    rw [vok] at hw
    subst hw
    subst e0
    exact car_121 hR hV hT0 hq 
