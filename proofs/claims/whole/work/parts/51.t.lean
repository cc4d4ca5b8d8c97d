theorem wl_X3_countOf_s {post : Int32 → Prop} {o : Off} {w p : Int32} {c : Nat} (hc : o 0 0 = nI c) (h14 : c ≤ 14) (hp : post (nI (cnt (fun k => decide (o 3 k = w ∧ o 4 k = p)) c))) :
    ∀ r k : Nat, k + r = c → wl_X3_countOf_5 post o (r + 1) w p (nI (cnt (fun k => decide (o 3 k = w ∧ o 4 k = p)) k)) (nI k) := by
  intro r
  induction r with
  | zero =>
    intro k hk
    rw [wl_X3_countOf_5, hc, show k = c by omega]
    simp (disch := omega) only [nI_lei, Nat.le_refl, not_true, false_implies, true_implies, and_true, forall_const]
    exact hp
  | succ r ih =>
    intro k hk
    have ih := ih (k + 1) (by omega)
    rw [wl_X3_countOf_5, hc]
    simp (disch := omega) only [nI_lei, vp_in_i, nI_clampi, n_1, nI_add, forall_eq]
    by_cases h1 : o 3 k = w <;> by_cases h2 : o 4 k = p <;> simp_all [cnt] <;> omega
