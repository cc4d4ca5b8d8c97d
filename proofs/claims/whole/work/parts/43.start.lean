/-! ===== the start: what the Statement gives of it ===== -/
theorem tb_at {args : Array Value} {s : State} (h : ∀ w ∈ lw_tbl, w.before args s = true) {w : Cond} (i : Nat) (hi : tables_1[i]? = some w) : w.before args s = true := h w (List.mem_append_right _ (List.mem_of_getElem? hi))
theorem nw_at {args : Array Value} {s : State} (h : (Jvm.Cond.and given_1 narrow_1).before args s = true) {w : Cond} (hw : w ∈ flatC (Jvm.Cond.and given_1 narrow_1)) : w.before args s = true := flat_of_before _ h w hw
theorem nw_ix {args : Array Value} {s : State} (h : (Jvm.Cond.and given_1 narrow_1).before args s = true) {w : Cond} (i : Nat) (hi : (flatC (Jvm.Cond.and given_1 narrow_1))[i]? = some w) : w.before args s = true := nw_at h (List.mem_of_getElem? hi)
theorem nw_row {args : Array Value} {s : State} (h : (Jvm.Cond.and given_1 narrow_1).before args s = true) {N : Nat} {f : Nat → Cond} (i : Nat) (hi : ((flatC (Jvm.Cond.and given_1 narrow_1)).drop i).take N = (List.range N).map f) : ∀ j, j < N → (f j).before args s = true := by
  intro j hj
  have h1 : f j ∈ ((flatC (Jvm.Cond.and given_1 narrow_1)).drop i).take N := by
    rw [hi]
    exact List.mem_map_of_mem (List.mem_range.mpr hj)
  exact nw_at h (List.mem_of_mem_drop (List.mem_of_mem_take h1))
theorem str_of {args : Array Value} {s : State} {A : Nat → Prop} {own : String} {ix N : Nat} {bs : List Int32} (hA : ∀ a : Nat, a < s.heap.size → ¬ A a) (hN : N < 2 ^ 31)
    (h1 : (Cond.exactly (.string own ix) "java/lang/String").before args s = true) (h2 : (Cond.eq (.field (.string own ix) "java/lang/String" "coder" "B") (.int 0)).before args s = true) (h3 : (Cond.arrayOf (.field (.string own ix) "java/lang/String" "value" "[B") .byte).before args s = true)
    (h4 : (Cond.eq (.length (.field (.string own ix) "java/lang/String" "value" "[B")) (.int (Int32.ofNat N))).before args s = true) (h5 : ∀ j : Nat, j < N → (Cond.eq (.elem (.field (.string own ix) "java/lang/String" "value" "[B") (.int (Int32.ofNat j))) (.int (bs.getD j 0))).before args s = true) :
    ∃ k v : Nat, (Term.string own ix).eval args s none [] s = some (.ref k) ∧ va_O "java/lang/String" k A s s.heap ∧ va_OF "java/lang/String" "coder" "B" (.int 0) k A s s.heap ∧ va_OF "java/lang/String" "value" "[B" (.ref v) k A s s.heap ∧ va_T .byte v N (fun j => .int (bs.getD j 0)) A s s.heap := by
  obtain ⟨a, c, cA, kA, q1, q2, q3, q4, q5, q6, -⟩ := Cond.exactly_spec (args := args) (first := s) (o := none) (s := s) (idx := []) (t := .string own ix) (cls := "java/lang/String") h1
  obtain ⟨t, ht, hT⟩ := va_Tof (f := fun j => .int (bs.getD j 0)) (A := A) hN h3 (va_eqt h4) (fun j hj => va_eqt (h5 j hj)) hA
  exact ⟨a, t, q1, ⟨cA, q3, q5, by rw [q6]; exact q2, hA a (Array.getElem?_eq_some_iff.mp q3).1⟩, vk_OFof q1 (va_eqt h2) hA, vk_OFof q1 ht hA, hT⟩
theorem str_ev {args : Array Value} {s : State} {own : String} {ix : Nat} (h1 : (Cond.exactly (.string own ix) "java/lang/String").before args s = true) : ∃ k : Nat, (Term.string own ix).eval args s none [] s = some (.ref k) := by
  obtain ⟨a, c, cA, kA, q1, -⟩ := Cond.exactly_spec (args := args) (first := s) (o := none) (s := s) (idx := []) (t := .string own ix) (cls := "java/lang/String") h1
  exact ⟨a, q1⟩
theorem arr_of {args : Array Value} {s : State} {ty : FieldType} (hty : ∀ C, ty ≠ .object C) (h : (Cond.arrayClass ty).before args s = true) : ∃ cA : ClassId, ArrOfT s cA ty ∧ va_RA s cA ty := by
  obtain ⟨c, k, comp, h1, h2, h3⟩ := Cond.arrayClass_spec h
  refine ⟨c, fun n z => ⟨fun k h => (by cases h), k, h2, comp, h3⟩, ?_⟩
  cases ty with
  | object C => exact absurd rfl (hty C)
  | _ => exact h1
theorem arrq_of {args : Array Value} {s : State} {C : String} (h : (Cond.arrayOver (.object C)).before args s = true) : ∃ cA : ClassId, ArrOfT s cA (.object C) ∧ va_RA s cA (.object C) := by
  obtain ⟨comp, c, k, hcomp, hidx, hk, hkind, hname⟩ := Cond.arrayOver_spec h
  exact ⟨c, fun n z => ⟨fun k h => (by cases h), k, hk, comp, hkind⟩, k, comp, hk, hkind, hcomp, hname⟩
set_option maxRecDepth 100000 in
theorem sa_0 {args : Array Value} {s : State} {A : Nat → Prop} (h : (Jvm.Cond.and given_1 narrow_1).before args s = true) (hA : ∀ a : Nat, a < s.heap.size → ¬ A a) : ∃ k v : Nat, (Term.string "SockEmbassy$Office" 84).eval args s none [] s = some (.ref k) ∧ va_O "java/lang/String" k A s s.heap ∧ va_OF "java/lang/String" "coder" "B" (.int 0) k A s s.heap ∧ va_OF "java/lang/String" "value" "[B" (.ref v) k A s s.heap ∧ va_T .byte v 4 (fun j => .int (([114, 103, 98, 119] : List Int32).getD j 0)) A s s.heap := by
  have e := nw_row h (N := 4) (f := fun j => Cond.eq (.elem (.field (.string "SockEmbassy$Office" 84) "java/lang/String" "value" "[B") (.int (Int32.ofNat j))) (.int (([114, 103, 98, 119] : List Int32).getD j 0))) 309 (by decide +kernel)
  exact str_of (bs := [114, 103, 98, 119]) hA (by decide) (nw_ix h 305 (by decide +kernel)) (nw_ix h 306 (by decide +kernel)) (nw_ix h 307 (by decide +kernel)) (nw_ix h 308 (by decide +kernel)) e
theorem sr_0 : tables_1[326]? = some (Cond.stringRef "SockEmbassy$Office" 84 "rgbw") := by decide +kernel
set_option maxRecDepth 100000 in
theorem sa_1 {args : Array Value} {s : State} {A : Nat → Prop} (h : (Jvm.Cond.and given_1 narrow_1).before args s = true) (hA : ∀ a : Nat, a < s.heap.size → ¬ A a) : ∃ k v : Nat, (Term.string "SockEmbassy$Checks" 22).eval args s none [] s = some (.ref k) ∧ va_O "java/lang/String" k A s s.heap ∧ va_OF "java/lang/String" "coder" "B" (.int 0) k A s s.heap ∧ va_OF "java/lang/String" "value" "[B" (.ref v) k A s s.heap ∧ va_T .byte v 4 (fun j => .int (([114, 103, 98, 119] : List Int32).getD j 0)) A s s.heap := by
  have e := nw_row h (N := 4) (f := fun j => Cond.eq (.elem (.field (.string "SockEmbassy$Checks" 22) "java/lang/String" "value" "[B") (.int (Int32.ofNat j))) (.int (([114, 103, 98, 119] : List Int32).getD j 0))) 317 (by decide +kernel)
  exact str_of (bs := [114, 103, 98, 119]) hA (by decide) (nw_ix h 313 (by decide +kernel)) (nw_ix h 314 (by decide +kernel)) (nw_ix h 315 (by decide +kernel)) (nw_ix h 316 (by decide +kernel)) e
theorem sr_1 : tables_1[424]? = some (Cond.stringRef "SockEmbassy$Checks" 22 "rgbw") := by decide +kernel
set_option maxRecDepth 100000 in
theorem sa_2 {args : Array Value} {s : State} {A : Nat → Prop} (h : (Jvm.Cond.and given_1 narrow_1).before args s = true) (hA : ∀ a : Nat, a < s.heap.size → ¬ A a) : ∃ k v : Nat, (Term.string "SockEmbassy$Checks" 103).eval args s none [] s = some (.ref k) ∧ va_O "java/lang/String" k A s s.heap ∧ va_OF "java/lang/String" "coder" "B" (.int 0) k A s s.heap ∧ va_OF "java/lang/String" "value" "[B" (.ref v) k A s s.heap ∧ va_T .byte v 3 (fun j => .int (([111, 115, 120] : List Int32).getD j 0)) A s s.heap := by
  have e := nw_row h (N := 3) (f := fun j => Cond.eq (.elem (.field (.string "SockEmbassy$Checks" 103) "java/lang/String" "value" "[B") (.int (Int32.ofNat j))) (.int (([111, 115, 120] : List Int32).getD j 0))) 455 (by decide +kernel)
  exact str_of (bs := [111, 115, 120]) hA (by decide) (nw_ix h 451 (by decide +kernel)) (nw_ix h 452 (by decide +kernel)) (nw_ix h 453 (by decide +kernel)) (nw_ix h 454 (by decide +kernel)) e
theorem sr_2 : tables_1[1047]? = some (Cond.stringRef "SockEmbassy$Checks" 103 "osx") := by decide +kernel
set_option maxRecDepth 100000 in
theorem sa_3 {args : Array Value} {s : State} {A : Nat → Prop} (h : (Jvm.Cond.and given_1 narrow_1).before args s = true) (hA : ∀ a : Nat, a < s.heap.size → ¬ A a) : ∃ k v : Nat, (Term.string "SockEmbassy$Commands" 94).eval args s none [] s = some (.ref k) ∧ va_O "java/lang/String" k A s s.heap ∧ va_OF "java/lang/String" "coder" "B" (.int 0) k A s s.heap ∧ va_OF "java/lang/String" "value" "[B" (.ref v) k A s s.heap ∧ va_T .byte v 4 (fun j => .int (([114, 103, 98, 119] : List Int32).getD j 0)) A s s.heap := by
  have e := nw_row h (N := 4) (f := fun j => Cond.eq (.elem (.field (.string "SockEmbassy$Commands" 94) "java/lang/String" "value" "[B") (.int (Int32.ofNat j))) (.int (([114, 103, 98, 119] : List Int32).getD j 0))) 686 (by decide +kernel)
  exact str_of (bs := [114, 103, 98, 119]) hA (by decide) (nw_ix h 682 (by decide +kernel)) (nw_ix h 683 (by decide +kernel)) (nw_ix h 684 (by decide +kernel)) (nw_ix h 685 (by decide +kernel)) e
theorem sr_3 : tables_1[1582]? = some (Cond.stringRef "SockEmbassy$Commands" 94 "rgbw") := by decide +kernel
set_option maxRecDepth 100000 in
theorem sa_4 {args : Array Value} {s : State} {A : Nat → Prop} (h : (Jvm.Cond.and given_1 narrow_1).before args s = true) (hA : ∀ a : Nat, a < s.heap.size → ¬ A a) : ∃ k v : Nat, (Term.string "SockEmbassy$Commands" 100).eval args s none [] s = some (.ref k) ∧ va_O "java/lang/String" k A s s.heap ∧ va_OF "java/lang/String" "coder" "B" (.int 0) k A s s.heap ∧ va_OF "java/lang/String" "value" "[B" (.ref v) k A s s.heap ∧ va_T .byte v 3 (fun j => .int (([111, 115, 120] : List Int32).getD j 0)) A s s.heap := by
  have e := nw_row h (N := 3) (f := fun j => Cond.eq (.elem (.field (.string "SockEmbassy$Commands" 100) "java/lang/String" "value" "[B") (.int (Int32.ofNat j))) (.int (([111, 115, 120] : List Int32).getD j 0))) 696 (by decide +kernel)
  exact str_of (bs := [111, 115, 120]) hA (by decide) (nw_ix h 692 (by decide +kernel)) (nw_ix h 693 (by decide +kernel)) (nw_ix h 694 (by decide +kernel)) (nw_ix h 695 (by decide +kernel)) e
theorem sr_4 : tables_1[1588]? = some (Cond.stringRef "SockEmbassy$Commands" 100 "osx") := by decide +kernel
set_option maxRecDepth 100000 in
theorem sa_5 {args : Array Value} {s : State} {A : Nat → Prop} (h : (Jvm.Cond.and given_1 narrow_1).before args s = true) (hA : ∀ a : Nat, a < s.heap.size → ¬ A a) : ∃ k v : Nat, (Term.string "SockEmbassy$Commands" 66).eval args s none [] s = some (.ref k) ∧ va_O "java/lang/String" k A s s.heap ∧ va_OF "java/lang/String" "coder" "B" (.int 0) k A s s.heap ∧ va_OF "java/lang/String" "value" "[B" (.ref v) k A s s.heap ∧ va_T .byte v 2 (fun j => .int (([67, 68] : List Int32).getD j 0)) A s s.heap := by
  have e := nw_row h (N := 2) (f := fun j => Cond.eq (.elem (.field (.string "SockEmbassy$Commands" 66) "java/lang/String" "value" "[B") (.int (Int32.ofNat j))) (.int (([67, 68] : List Int32).getD j 0))) 619 (by decide +kernel)
  exact str_of (bs := [67, 68]) hA (by decide) (nw_ix h 615 (by decide +kernel)) (nw_ix h 616 (by decide +kernel)) (nw_ix h 617 (by decide +kernel)) (nw_ix h 618 (by decide +kernel)) e
theorem sr_5 : tables_1[1546]? = some (Cond.stringRef "SockEmbassy$Commands" 66 "CD") := by decide +kernel
set_option maxRecDepth 100000 in
theorem sa_6 {args : Array Value} {s : State} {A : Nat → Prop} (h : (Jvm.Cond.and given_1 narrow_1).before args s = true) (hA : ∀ a : Nat, a < s.heap.size → ¬ A a) : ∃ k v : Nat, (Term.string "SockEmbassy$Commands" 68).eval args s none [] s = some (.ref k) ∧ va_O "java/lang/String" k A s s.heap ∧ va_OF "java/lang/String" "coder" "B" (.int 0) k A s s.heap ∧ va_OF "java/lang/String" "value" "[B" (.ref v) k A s s.heap ∧ va_T .byte v 3 (fun j => .int (([78, 62, 68] : List Int32).getD j 0)) A s s.heap := by
  have e := nw_row h (N := 3) (f := fun j => Cond.eq (.elem (.field (.string "SockEmbassy$Commands" 68) "java/lang/String" "value" "[B") (.int (Int32.ofNat j))) (.int (([78, 62, 68] : List Int32).getD j 0))) 625 (by decide +kernel)
  exact str_of (bs := [78, 62, 68]) hA (by decide) (nw_ix h 621 (by decide +kernel)) (nw_ix h 622 (by decide +kernel)) (nw_ix h 623 (by decide +kernel)) (nw_ix h 624 (by decide +kernel)) e
theorem sr_6 : tables_1[1547]? = some (Cond.stringRef "SockEmbassy$Commands" 68 "N>D") := by decide +kernel
set_option maxRecDepth 100000 in
theorem sa_7 {args : Array Value} {s : State} {A : Nat → Prop} (h : (Jvm.Cond.and given_1 narrow_1).before args s = true) (hA : ∀ a : Nat, a < s.heap.size → ¬ A a) : ∃ k v : Nat, (Term.string "SockEmbassy$Commands" 70).eval args s none [] s = some (.ref k) ∧ va_O "java/lang/String" k A s s.heap ∧ va_OF "java/lang/String" "coder" "B" (.int 0) k A s s.heap ∧ va_OF "java/lang/String" "value" "[B" (.ref v) k A s s.heap ∧ va_T .byte v 1 (fun j => .int (([78] : List Int32).getD j 0)) A s s.heap := by
  have e := nw_row h (N := 1) (f := fun j => Cond.eq (.elem (.field (.string "SockEmbassy$Commands" 70) "java/lang/String" "value" "[B") (.int (Int32.ofNat j))) (.int (([78] : List Int32).getD j 0))) 632 (by decide +kernel)
  exact str_of (bs := [78]) hA (by decide) (nw_ix h 628 (by decide +kernel)) (nw_ix h 629 (by decide +kernel)) (nw_ix h 630 (by decide +kernel)) (nw_ix h 631 (by decide +kernel)) e
theorem sr_7 : tables_1[1548]? = some (Cond.stringRef "SockEmbassy$Commands" 70 "N") := by decide +kernel
set_option maxRecDepth 100000 in
theorem sa_8 {args : Array Value} {s : State} {A : Nat → Prop} (h : (Jvm.Cond.and given_1 narrow_1).before args s = true) (hA : ∀ a : Nat, a < s.heap.size → ¬ A a) : ∃ k v : Nat, (Term.string "SockEmbassy$Commands" 72).eval args s none [] s = some (.ref k) ∧ va_O "java/lang/String" k A s s.heap ∧ va_OF "java/lang/String" "coder" "B" (.int 0) k A s s.heap ∧ va_OF "java/lang/String" "value" "[B" (.ref v) k A s s.heap ∧ va_T .byte v 1 (fun j => .int (([68] : List Int32).getD j 0)) A s s.heap := by
  have e := nw_row h (N := 1) (f := fun j => Cond.eq (.elem (.field (.string "SockEmbassy$Commands" 72) "java/lang/String" "value" "[B") (.int (Int32.ofNat j))) (.int (([68] : List Int32).getD j 0))) 637 (by decide +kernel)
  exact str_of (bs := [68]) hA (by decide) (nw_ix h 633 (by decide +kernel)) (nw_ix h 634 (by decide +kernel)) (nw_ix h 635 (by decide +kernel)) (nw_ix h 636 (by decide +kernel)) e
theorem sr_8 : tables_1[1549]? = some (Cond.stringRef "SockEmbassy$Commands" 72 "D") := by decide +kernel
set_option maxRecDepth 100000 in
theorem sa_9 {args : Array Value} {s : State} {A : Nat → Prop} (h : (Jvm.Cond.and given_1 narrow_1).before args s = true) (hA : ∀ a : Nat, a < s.heap.size → ¬ A a) : ∃ k v : Nat, (Term.string "SockEmbassy$Commands" 74).eval args s none [] s = some (.ref k) ∧ va_O "java/lang/String" k A s s.heap ∧ va_OF "java/lang/String" "coder" "B" (.int 0) k A s s.heap ∧ va_OF "java/lang/String" "value" "[B" (.ref v) k A s s.heap ∧ va_T .byte v 3 (fun j => .int (([78, 43, 68] : List Int32).getD j 0)) A s s.heap := by
  have e := nw_row h (N := 3) (f := fun j => Cond.eq (.elem (.field (.string "SockEmbassy$Commands" 74) "java/lang/String" "value" "[B") (.int (Int32.ofNat j))) (.int (([78, 43, 68] : List Int32).getD j 0))) 642 (by decide +kernel)
  exact str_of (bs := [78, 43, 68]) hA (by decide) (nw_ix h 638 (by decide +kernel)) (nw_ix h 639 (by decide +kernel)) (nw_ix h 640 (by decide +kernel)) (nw_ix h 641 (by decide +kernel)) e
theorem sr_9 : tables_1[1550]? = some (Cond.stringRef "SockEmbassy$Commands" 74 "N+D") := by decide +kernel
set_option maxRecDepth 100000 in
theorem sa_10 {args : Array Value} {s : State} {A : Nat → Prop} (h : (Jvm.Cond.and given_1 narrow_1).before args s = true) (hA : ∀ a : Nat, a < s.heap.size → ¬ A a) : ∃ k v : Nat, (Term.string "SockEmbassy$Commands" 76).eval args s none [] s = some (.ref k) ∧ va_O "java/lang/String" k A s s.heap ∧ va_OF "java/lang/String" "coder" "B" (.int 0) k A s s.heap ∧ va_OF "java/lang/String" "value" "[B" (.ref v) k A s s.heap ∧ va_T .byte v 3 (fun j => .int (([78, 38, 78] : List Int32).getD j 0)) A s s.heap := by
  have e := nw_row h (N := 3) (f := fun j => Cond.eq (.elem (.field (.string "SockEmbassy$Commands" 76) "java/lang/String" "value" "[B") (.int (Int32.ofNat j))) (.int (([78, 38, 78] : List Int32).getD j 0))) 649 (by decide +kernel)
  exact str_of (bs := [78, 38, 78]) hA (by decide) (nw_ix h 645 (by decide +kernel)) (nw_ix h 646 (by decide +kernel)) (nw_ix h 647 (by decide +kernel)) (nw_ix h 648 (by decide +kernel)) e
theorem sr_10 : tables_1[1551]? = some (Cond.stringRef "SockEmbassy$Commands" 76 "N&N") := by decide +kernel
set_option maxRecDepth 100000 in
theorem sa_11 {args : Array Value} {s : State} {A : Nat → Prop} (h : (Jvm.Cond.and given_1 narrow_1).before args s = true) (hA : ∀ a : Nat, a < s.heap.size → ¬ A a) : ∃ k v : Nat, (Term.string "SockEmbassy$Commands" 78).eval args s none [] s = some (.ref k) ∧ va_O "java/lang/String" k A s s.heap ∧ va_OF "java/lang/String" "coder" "B" (.int 0) k A s s.heap ∧ va_OF "java/lang/String" "value" "[B" (.ref v) k A s s.heap ∧ va_T .byte v 3 (fun j => .int (([68, 61, 68] : List Int32).getD j 0)) A s s.heap := by
  have e := nw_row h (N := 3) (f := fun j => Cond.eq (.elem (.field (.string "SockEmbassy$Commands" 78) "java/lang/String" "value" "[B") (.int (Int32.ofNat j))) (.int (([68, 61, 68] : List Int32).getD j 0))) 656 (by decide +kernel)
  exact str_of (bs := [68, 61, 68]) hA (by decide) (nw_ix h 652 (by decide +kernel)) (nw_ix h 653 (by decide +kernel)) (nw_ix h 654 (by decide +kernel)) (nw_ix h 655 (by decide +kernel)) e
theorem sr_11 : tables_1[1552]? = some (Cond.stringRef "SockEmbassy$Commands" 78 "D=D") := by decide +kernel
set_option maxRecDepth 100000 in
theorem sa_12 {args : Array Value} {s : State} {A : Nat → Prop} (h : (Jvm.Cond.and given_1 narrow_1).before args s = true) (hA : ∀ a : Nat, a < s.heap.size → ¬ A a) : ∃ k v : Nat, (Term.string "SockEmbassy$Commands" 80).eval args s none [] s = some (.ref k) ∧ va_O "java/lang/String" k A s s.heap ∧ va_OF "java/lang/String" "coder" "B" (.int 0) k A s s.heap ∧ va_OF "java/lang/String" "value" "[B" (.ref v) k A s s.heap ∧ va_T .byte v 2 (fun j => .int (([68, 67] : List Int32).getD j 0)) A s s.heap := by
  have e := nw_row h (N := 2) (f := fun j => Cond.eq (.elem (.field (.string "SockEmbassy$Commands" 80) "java/lang/String" "value" "[B") (.int (Int32.ofNat j))) (.int (([68, 67] : List Int32).getD j 0))) 663 (by decide +kernel)
  exact str_of (bs := [68, 67]) hA (by decide) (nw_ix h 659 (by decide +kernel)) (nw_ix h 660 (by decide +kernel)) (nw_ix h 661 (by decide +kernel)) (nw_ix h 662 (by decide +kernel)) e
theorem sr_12 : tables_1[1553]? = some (Cond.stringRef "SockEmbassy$Commands" 80 "DC") := by decide +kernel
set_option maxRecDepth 100000 in
theorem sa_13 {args : Array Value} {s : State} {A : Nat → Prop} (h : (Jvm.Cond.and given_1 narrow_1).before args s = true) (hA : ∀ a : Nat, a < s.heap.size → ¬ A a) : ∃ k v : Nat, (Term.string "SockEmbassy$Commands" 82).eval args s none [] s = some (.ref k) ∧ va_O "java/lang/String" k A s s.heap ∧ va_OF "java/lang/String" "coder" "B" (.int 0) k A s s.heap ∧ va_OF "java/lang/String" "value" "[B" (.ref v) k A s s.heap ∧ va_T .byte v 3 (fun j => .int (([68, 68, 84] : List Int32).getD j 0)) A s s.heap := by
  have e := nw_row h (N := 3) (f := fun j => Cond.eq (.elem (.field (.string "SockEmbassy$Commands" 82) "java/lang/String" "value" "[B") (.int (Int32.ofNat j))) (.int (([68, 68, 84] : List Int32).getD j 0))) 669 (by decide +kernel)
  exact str_of (bs := [68, 68, 84]) hA (by decide) (nw_ix h 665 (by decide +kernel)) (nw_ix h 666 (by decide +kernel)) (nw_ix h 667 (by decide +kernel)) (nw_ix h 668 (by decide +kernel)) e
theorem sr_13 : tables_1[1554]? = some (Cond.stringRef "SockEmbassy$Commands" 82 "DDT") := by decide +kernel
set_option maxRecDepth 100000 in
theorem sa_14 {args : Array Value} {s : State} {A : Nat → Prop} (h : (Jvm.Cond.and given_1 narrow_1).before args s = true) (hA : ∀ a : Nat, a < s.heap.size → ¬ A a) : ∃ k v : Nat, (Term.string "SockEmbassy$Commands" 84).eval args s none [] s = some (.ref k) ∧ va_O "java/lang/String" k A s s.heap ∧ va_OF "java/lang/String" "coder" "B" (.int 0) k A s s.heap ∧ va_OF "java/lang/String" "value" "[B" (.ref v) k A s s.heap ∧ va_T .byte v 2 (fun j => .int (([68, 68] : List Int32).getD j 0)) A s s.heap := by
  have e := nw_row h (N := 2) (f := fun j => Cond.eq (.elem (.field (.string "SockEmbassy$Commands" 84) "java/lang/String" "value" "[B") (.int (Int32.ofNat j))) (.int (([68, 68] : List Int32).getD j 0))) 676 (by decide +kernel)
  exact str_of (bs := [68, 68]) hA (by decide) (nw_ix h 672 (by decide +kernel)) (nw_ix h 673 (by decide +kernel)) (nw_ix h 674 (by decide +kernel)) (nw_ix h 675 (by decide +kernel)) e
theorem sr_14 : tables_1[1555]? = some (Cond.stringRef "SockEmbassy$Commands" 84 "DD") := by decide +kernel
set_option maxRecDepth 100000 in
theorem sa_15 {args : Array Value} {s : State} {A : Nat → Prop} (h : (Jvm.Cond.and given_1 narrow_1).before args s = true) (hA : ∀ a : Nat, a < s.heap.size → ¬ A a) : ∃ k v : Nat, (Term.string "SockEmbassy$Commands" 86).eval args s none [] s = some (.ref k) ∧ va_O "java/lang/String" k A s s.heap ∧ va_OF "java/lang/String" "coder" "B" (.int 0) k A s s.heap ∧ va_OF "java/lang/String" "value" "[B" (.ref v) k A s s.heap ∧ va_T .byte v 0 (fun j => .int (([] : List Int32).getD j 0)) A s s.heap := by
  exact str_of (bs := []) hA (by decide) (nw_ix h 678 (by decide +kernel)) (nw_ix h 679 (by decide +kernel)) (nw_ix h 680 (by decide +kernel)) (nw_ix h 681 (by decide +kernel)) (fun j hj => absurd hj (Nat.not_lt_zero j))
theorem sr_15 : tables_1[1556]? = some (Cond.stringRef "SockEmbassy$Commands" 86 "") := by decide +kernel
set_option maxRecDepth 100000 in
theorem sa_16 {args : Array Value} {s : State} (h : (Jvm.Cond.and given_1 narrow_1).before args s = true) : ∃ k : Nat, (Term.string "SockEmbassy" 352).eval args s none [] s = some (.ref k) := str_ev (nw_ix h 322 (by decide +kernel))
theorem sr_16 : tables_1[538]? = some (Cond.stringRef "SockEmbassy" 352 "there is nothing with this index") := by decide +kernel
set_option maxRecDepth 100000 in
theorem sa_17 {args : Array Value} {s : State} (h : (Jvm.Cond.and given_1 narrow_1).before args s = true) : ∃ k : Nat, (Term.string "SockEmbassy" 359).eval args s none [] s = some (.ref k) := str_ev (nw_ix h 358 (by decide +kernel))
theorem sr_17 : tables_1[577]? = some (Cond.stringRef "SockEmbassy" 359 "an argument or the input is not valid") := by decide +kernel
set_option maxRecDepth 100000 in
theorem sa_18 {args : Array Value} {s : State} (h : (Jvm.Cond.and given_1 narrow_1).before args s = true) : ∃ k : Nat, (Term.string "SockEmbassy" 364).eval args s none [] s = some (.ref k) := str_ev (nw_ix h 399 (by decide +kernel))
theorem sr_18 : tables_1[597]? = some (Cond.stringRef "SockEmbassy" 364 "there is no such element") := by decide +kernel
set_option maxRecDepth 100000 in
theorem sa_19 {args : Array Value} {s : State} (h : (Jvm.Cond.and given_1 narrow_1).before args s = true) : ∃ k : Nat, (Term.string "SockEmbassy" 369).eval args s none [] s = some (.ref k) := str_ev (nw_ix h 583 (by decide +kernel))
theorem sr_19 : tables_1[1509]? = some (Cond.stringRef "SockEmbassy" 369 "the call is not possible now") := by decide +kernel
set_option maxRecDepth 100000 in
theorem sa_20 {args : Array Value} {s : State} (h : (Jvm.Cond.and given_1 narrow_1).before args s = true) : ∃ k : Nat, (Term.string "SockEmbassy" 374).eval args s none [] s = some (.ref k) := str_ev (nw_ix h 458 (by decide +kernel))
theorem sr_20 : tables_1[1204]? = some (Cond.stringRef "SockEmbassy" 374 "there are no socks") := by decide +kernel
set_option maxRecDepth 100000 in
theorem sa_21 {args : Array Value} {s : State} (h : (Jvm.Cond.and given_1 narrow_1).before args s = true) : ∃ k : Nat, (Term.string "SockEmbassy" 388).eval args s none [] s = some (.ref k) := str_ev (nw_ix h 427 (by decide +kernel))
theorem sr_21 : tables_1[617]? = some (Cond.stringRef "SockEmbassy" 388 "the call is rejected") := by decide +kernel
set_option maxRecDepth 100000 in
theorem dg_DigitTens {args : Array Value} {s : State} {A : Nat → Prop} (ht : ∀ w ∈ lw_tbl, w.before args s = true) (h : (Jvm.Cond.and given_1 narrow_1).before args s = true) (hA : ∀ a : Nat, a < s.heap.size → ¬ A a) : ∃ t : Nat, va_Z "java/lang/Integer" "DigitTens" "[B" (.ref t) A s s.heap ∧ va_T .byte t 100 (fun j => .int (nI (48 + j / 10))) A s s.heap := by
  have e := nw_row h (N := 100) (f := fun j => Cond.eq (.elem (.static "java/lang/Integer" "DigitTens" "[B") (.int (Int32.ofNat j))) (.int (nI (48 + j / 10)))) 117 (by decide +kernel)
  obtain ⟨t, h1, h2⟩ := va_Tof (tm := .static "java/lang/Integer" "DigitTens" "[B") (ty := .byte) (N := 100) (f := fun j => .int (nI (48 + j / 10))) (A := A) (by decide) (nw_ix h 115 (by decide +kernel)) (va_eqt (nw_ix (w := Cond.eq (.length (.static "java/lang/Integer" "DigitTens" "[B")) (.int (Int32.ofNat 100))) h 116 (by decide +kernel))) (fun j hj => va_eqt (e j hj)) hA
  exact ⟨t, va_Zref (tb_at ht 1345 (by decide +kernel)) (tb_at ht 25 (by decide +kernel)) h1 hA, h2⟩
set_option maxRecDepth 100000 in
theorem dg_DigitOnes {args : Array Value} {s : State} {A : Nat → Prop} (ht : ∀ w ∈ lw_tbl, w.before args s = true) (h : (Jvm.Cond.and given_1 narrow_1).before args s = true) (hA : ∀ a : Nat, a < s.heap.size → ¬ A a) : ∃ t : Nat, va_Z "java/lang/Integer" "DigitOnes" "[B" (.ref t) A s s.heap ∧ va_T .byte t 100 (fun j => .int (nI (48 + j % 10))) A s s.heap := by
  have e := nw_row h (N := 100) (f := fun j => Cond.eq (.elem (.static "java/lang/Integer" "DigitOnes" "[B") (.int (Int32.ofNat j))) (.int (nI (48 + j % 10)))) 14 (by decide +kernel)
  obtain ⟨t, h1, h2⟩ := va_Tof (tm := .static "java/lang/Integer" "DigitOnes" "[B") (ty := .byte) (N := 100) (f := fun j => .int (nI (48 + j % 10))) (A := A) (by decide) (nw_ix h 12 (by decide +kernel)) (va_eqt (nw_ix (w := Cond.eq (.length (.static "java/lang/Integer" "DigitOnes" "[B")) (.int (Int32.ofNat 100))) h 13 (by decide +kernel))) (fun j hj => va_eqt (e j hj)) hA
  exact ⟨t, va_Zref (tb_at ht 1343 (by decide +kernel)) (tb_at ht 25 (by decide +kernel)) h1 hA, h2⟩
set_option maxRecDepth 100000 in
theorem nc_all {args : Array Value} {s : State} (h : (Jvm.Cond.and given_1 narrow_1).before args s = true) : ∀ (i j : Nat) (C D : String), i ≠ j → gEx[i]? = some C → gEx[j]? = some D → va_Nc C D s := by
  have e : ∀ i, i < 6 → ∀ j, j < 6 → i ≠ j → (flatC (Jvm.Cond.and given_1 narrow_1))[([0, 228, 302, 257, 243, 271, 283, 0, 298, 254, 240, 268, 289, 231, 0, 259, 246, 274, 282, 224, 297, 0, 239, 267, 285, 226, 300, 256, 0, 269, 284, 225, 299, 255, 241, 0] : List Nat).getD (6 * i + j) 0]? = some (Cond.not (.castable (gEx.getD i "") (gEx.getD j ""))) := by decide +kernel
  intro i j C D hij h1 h2
  have l1 : i < 6 := (List.getElem?_eq_some_iff.mp h1).1
  have l2 : j < 6 := (List.getElem?_eq_some_iff.mp h2).1
  have h3 := e i l1 j l2 hij
  have e1 : gEx.getD i "" = C := by rw [List.getD_eq_getElem?_getD, h1]; rfl
  have e2 : gEx.getD j "" = D := by rw [List.getD_eq_getElem?_getD, h2]; rfl
  rw [e1, e2] at h3
  exact va_Nc.of (nw_ix h _ h3)
set_option maxRecDepth 100000 in
theorem all_at {args : Array Value} {s : State} (ht : ∀ w ∈ lw_tbl, w.before args s = true) : ∀ w ∈ lw_all, w.before args s = true := by
  intro w hw
  rcases List.mem_cons.mp hw with rfl | hw
  · exact gSelP (n := 4) (by decide) (tb_at ht 192 (by decide +kernel)) (tb_at ht 1255 (by decide +kernel)) (tb_at ht 1256 (by decide +kernel)) (tb_at ht 2294 (by decide +kernel))
  · exact ht w (List.mem_filter.mp hw).1
set_option maxRecDepth 100000 in
theorem nw_all {args : Array Value} {s : State} (ht : ∀ w ∈ lw_tbl, w.before args s = true) : gNw s := by
  refine ⟨fun w hw => ?_, va_AO.of (A := args) (tb_at (w := Cond.arrayOver (.object "SockEmbassy$Office")) ht 140 (by decide +kernel))⟩
  have e : ∀ w ∈ gNwL, w.onTables = true ∧ w ∈ tables_1 := by decide +kernel
  exact va_Nw.of (e w hw).1 (ht w (List.mem_append_right _ (e w hw).2))
theorem uw_J0 : ∀ w ∈ u_ws RJ0 TJ0 4, w ∈ lw_all := lw_inL _ [653, 655, 1409, 1411] (by decide +kernel) (by decide +kernel)
theorem uw_Jx00060 : ∀ w ∈ u_ws RJx00060 TJx00060 6, w ∈ lw_all := lw_inL _ [641, 642, 643, 644, 645, 646] (by decide +kernel) (by decide +kernel)
theorem uw_Jx7c733 : ∀ w ∈ u_ws RJx7c733 TJx7c733 6, w ∈ lw_all := lw_inL _ [1415, 1416, 1417, 1418, 1419, 1420] (by decide +kernel) (by decide +kernel)
set_option maxRecDepth 100000 in
theorem k_all {args : Array Value} {s : State} (ht : ∀ w ∈ lw_tbl, w.before args s = true) : ∃ (D : va_G), ∀ (c : Nat) (q : vw_C), vwCl[c]? = some q → u_Kn s q.1 q.2.1 q.2.2 (D.1 c) (D.2 c) := by
  have ha := all_at ht
  obtain ⟨c0, i0, k0⟩ := u_known (C := RJ0) (T := TJ0) (N := 4) (n := 4) ha uw_J0 (tb_at ht 652 (by decide +kernel))
  obtain ⟨c1, i1, k1⟩ := u_known (C := RJ4) (T := TJ4) (N := 4) (n := 4) ha uw_J4 (tb_at ht 192 (by decide +kernel))
  obtain ⟨c2, i2, k2⟩ := u_known (C := RJx00060) (T := TJx00060) (N := 6) (n := 6) ha uw_Jx00060 (tb_at ht 637 (by decide +kernel))
  obtain ⟨c3, i3, k3⟩ := u_known (C := RJx7c733) (T := TJx7c733) (N := 6) (n := 6) ha uw_Jx7c733 (tb_at ht 1236 (by decide +kernel))
  obtain ⟨c4, i4, k4⟩ := u_known (C := RX0) (T := TX0) (N := 2) (n := 2) ha uw_X0 (tb_at ht 40 (by decide +kernel))
  obtain ⟨c5, i5, k5⟩ := u_known (C := RX1) (T := TX1) (N := 7) (n := 7) ha uw_X1 (tb_at ht 161 (by decide +kernel))
  obtain ⟨c6, i6, k6⟩ := u_known (C := RX2) (T := TX2) (N := 5) (n := 5) ha uw_X2 (tb_at ht 134 (by decide +kernel))
  obtain ⟨c7, i7, k7⟩ := u_known (C := RX3) (T := TX3) (N := 16) (n := 16) ha uw_X3 (tb_at ht 46 (by decide +kernel))
  obtain ⟨c8, i8, k8⟩ := u_known (C := RX4) (T := TX4) (N := 10) (n := 10) ha uw_X4 (tb_at ht 32 (by decide +kernel))
  obtain ⟨c9, i9, k9⟩ := u_known (C := RX5) (T := TX5) (N := 24) (n := 24) ha uw_X5 (tb_at ht 1665 (by decide +kernel))
  refine ⟨(fun k => [c0, c1, c2, c3, c4, c5, c6, c7, c8, c9].getD k 0, fun k => [i0, i1, i2, i3, i4, i5, i6, i7, i8, i9].getD k (fun _ => 0)), ?_⟩
  intro k q hq
  match k, hq with
  | 0, hq => cases hq; exact k0
  | 1, hq => cases hq; exact k1
  | 2, hq => cases hq; exact k2
  | 3, hq => cases hq; exact k3
  | 4, hq => cases hq; exact k4
  | 5, hq => cases hq; exact k5
  | 6, hq => cases hq; exact k6
  | 7, hq => cases hq; exact k7
  | 8, hq => cases hq; exact k8
  | 9, hq => cases hq; exact k9
  | k + 10, hq => simp [vwCl] at hq
theorem w_all {args : Array Value} {s : State} {A : Nat → Prop} (ht : ∀ w ∈ lw_tbl, w.before args s = true) (h : (Jvm.Cond.and given_1 narrow_1).before args s = true) (hA : ∀ a : Nat, a < s.heap.size → ¬ A a) : ∃ g : gE, va_K g.1 vwCl (gT g) s ∧ gKc g A s s.heap := by
  obtain ⟨D, hD⟩ := k_all ht
  obtain ⟨t0, ta0, tb0⟩ := arr_of (ty := .int) (fun C h => by cases h) (tb_at ht 121 (by decide +kernel))
  obtain ⟨t1, ta1, tb1⟩ := arr_of (ty := .char) (fun C h => by cases h) (tb_at ht 190 (by decide +kernel))
  obtain ⟨t2, ta2, tb2⟩ := arr_of (ty := .byte) (fun C h => by cases h) (tb_at ht 223 (by decide +kernel))
  obtain ⟨t3, ta3, tb3⟩ := arrq_of (C := "SockEmbassy$Office") (tb_at ht 140 (by decide +kernel))
  obtain ⟨t4, ta4, tb4⟩ := arr_of (ty := .long) (fun C h => by cases h) (tb_at ht 2288 (by decide +kernel))
  obtain ⟨t5, ta5, tb5⟩ := arr_of (ty := .double) (fun C h => by cases h) (tb_at ht 2289 (by decide +kernel))
  obtain ⟨k0, v0, e0, o0⟩ := sa_0 (A := A) h hA
  obtain ⟨k1, v1, e1, o1⟩ := sa_1 (A := A) h hA
  obtain ⟨k2, v2, e2, o2⟩ := sa_2 (A := A) h hA
  obtain ⟨k3, v3, e3, o3⟩ := sa_3 (A := A) h hA
  obtain ⟨k4, v4, e4, o4⟩ := sa_4 (A := A) h hA
  obtain ⟨k5, v5, e5, o5⟩ := sa_5 (A := A) h hA
  obtain ⟨k6, v6, e6, o6⟩ := sa_6 (A := A) h hA
  obtain ⟨k7, v7, e7, o7⟩ := sa_7 (A := A) h hA
  obtain ⟨k8, v8, e8, o8⟩ := sa_8 (A := A) h hA
  obtain ⟨k9, v9, e9, o9⟩ := sa_9 (A := A) h hA
  obtain ⟨k10, v10, e10, o10⟩ := sa_10 (A := A) h hA
  obtain ⟨k11, v11, e11, o11⟩ := sa_11 (A := A) h hA
  obtain ⟨k12, v12, e12, o12⟩ := sa_12 (A := A) h hA
  obtain ⟨k13, v13, e13, o13⟩ := sa_13 (A := A) h hA
  obtain ⟨k14, v14, e14, o14⟩ := sa_14 (A := A) h hA
  obtain ⟨k15, v15, e15, o15⟩ := sa_15 (A := A) h hA
  obtain ⟨k16, e16⟩ := sa_16 h
  obtain ⟨k17, e17⟩ := sa_17 h
  obtain ⟨k18, e18⟩ := sa_18 h
  obtain ⟨k19, e19⟩ := sa_19 h
  obtain ⟨k20, e20⟩ := sa_20 h
  obtain ⟨k21, e21⟩ := sa_21 h
  obtain ⟨dt, dt1⟩ := dg_DigitTens (A := A) ht h hA
  obtain ⟨dn, dn1⟩ := dg_DigitOnes (A := A) ht h hA
  refine ⟨(D, fun i => [t0, t1, t2, t3, t4, t5].getD i 0, fun i => [k0, k1, k2, k3, k4, k5, k6, k7, k8, k9, k10, k11, k12, k13, k14, k15, k16, k17, k18, k19, k20, k21].getD i 0, fun i => [v0, v1, v2, v3, v4, v5, v6, v7, v8, v9, v10, v11, v12, v13, v14, v15].getD i 0, fun i => [dt, dn].getD i 0), ⟨hD, ?_⟩, ⟨?_, ?_, dt1, dn1, ?_, ?_, ?_⟩, ?_, ?_⟩
  · intro k q hq
    match k, hq with
    | 0, hq => cases hq; exact ⟨ta0, tb0⟩
    | 1, hq => cases hq; exact ⟨ta1, tb1⟩
    | 2, hq => cases hq; exact ⟨ta2, tb2⟩
    | 3, hq => cases hq; exact ⟨ta3, tb3⟩
    | 4, hq => cases hq; exact ⟨ta4, tb4⟩
    | 5, hq => cases hq; exact ⟨ta5, tb5⟩
    | k + 6, hq => simp [gT] at hq
  · intro i q hi hq
    match i, hq, hi with
    | 0, hq, _ => cases hq; exact o0
    | 1, hq, _ => cases hq; exact o1
    | 2, hq, _ => cases hq; exact o2
    | 3, hq, _ => cases hq; exact o3
    | 4, hq, _ => cases hq; exact o4
    | 5, hq, _ => cases hq; exact o5
    | 6, hq, _ => cases hq; exact o6
    | 7, hq, _ => cases hq; exact o7
    | 8, hq, _ => cases hq; exact o8
    | 9, hq, _ => cases hq; exact o9
    | 10, hq, _ => cases hq; exact o10
    | 11, hq, _ => cases hq; exact o11
    | 12, hq, _ => cases hq; exact o12
    | 13, hq, _ => cases hq; exact o13
    | 14, hq, _ => cases hq; exact o14
    | 15, hq, _ => cases hq; exact o15
    | i + 16, _, hi => exact absurd hi (by omega)
  · exact va_Zof (tb_at ht 201 (by decide +kernel)) (tb_at ht 8 (by decide +kernel)) (va_eqt (nw_ix (w := Cond.eq (.static "java/lang/String" "COMPACT_STRINGS" "Z") (.int 1)) h 4 (by decide +kernel))) hA
  · exact vx_Zqof (tb_at ht 519 (by decide +kernel)) (tb_at ht 15 (by decide +kernel)) (nw_ix h 9 (by decide +kernel)) hA
  · exact vx_Zqof (tb_at ht 521 (by decide +kernel)) (tb_at ht 15 (by decide +kernel)) (nw_ix h 10 (by decide +kernel)) hA
  · exact va_Zqof (tb_at ht 351 (by decide +kernel)) (tb_at ht 13 (by decide +kernel)) (nw_ix h 5 (by decide +kernel)) hA
  · intro i q hq
    match i, hq with
    | 0, hq => cases hq; exact vk_R.of (tb_at ht 326 sr_0) e0
    | 1, hq => cases hq; exact vk_R.of (tb_at ht 424 sr_1) e1
    | 2, hq => cases hq; exact vk_R.of (tb_at ht 1047 sr_2) e2
    | 3, hq => cases hq; exact vk_R.of (tb_at ht 1582 sr_3) e3
    | 4, hq => cases hq; exact vk_R.of (tb_at ht 1588 sr_4) e4
    | 5, hq => cases hq; exact vk_R.of (tb_at ht 1546 sr_5) e5
    | 6, hq => cases hq; exact vk_R.of (tb_at ht 1547 sr_6) e6
    | 7, hq => cases hq; exact vk_R.of (tb_at ht 1548 sr_7) e7
    | 8, hq => cases hq; exact vk_R.of (tb_at ht 1549 sr_8) e8
    | 9, hq => cases hq; exact vk_R.of (tb_at ht 1550 sr_9) e9
    | 10, hq => cases hq; exact vk_R.of (tb_at ht 1551 sr_10) e10
    | 11, hq => cases hq; exact vk_R.of (tb_at ht 1552 sr_11) e11
    | 12, hq => cases hq; exact vk_R.of (tb_at ht 1553 sr_12) e12
    | 13, hq => cases hq; exact vk_R.of (tb_at ht 1554 sr_13) e13
    | 14, hq => cases hq; exact vk_R.of (tb_at ht 1555 sr_14) e14
    | 15, hq => cases hq; exact vk_R.of (tb_at ht 1556 sr_15) e15
    | 16, hq => cases hq; exact vk_R.of (tb_at ht 538 sr_16) e16
    | 17, hq => cases hq; exact vk_R.of (tb_at ht 577 sr_17) e17
    | 18, hq => cases hq; exact vk_R.of (tb_at ht 597 sr_18) e18
    | 19, hq => cases hq; exact vk_R.of (tb_at ht 1509 sr_19) e19
    | 20, hq => cases hq; exact vk_R.of (tb_at ht 1204 sr_20) e20
    | 21, hq => cases hq; exact vk_R.of (tb_at ht 617 sr_21) e21
    | i + 22, hq => simp [gTx] at hq
  · exact nc_all h
