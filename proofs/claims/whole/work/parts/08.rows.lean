section GROWS
variable {x : gX} {l : Launch} {cc : ByteArray} {nL : Nat} {own : String} {g : gE} {fr lo mc ms k n pc : Nat} {ws : va_W} {lv : List (Nat × Value)} {st : List Value}
theorem g_iconst (hC : gC x l cc nL own g fr lo mc ms) {z : Int} (v : Int32) (hd : decode cc pc = .ok (.iconst z, 1)) (pc2 : Nat) (e : pc + 1 = pc2) (hv : Int32.ofInt z = v) (kk : G x g nL k n ws pc2 lv (.int v :: st)) : G x g nL k n ws pc lv (st) := by
  subst e
  intro H locs ls hP hD hS h
  exact lv_iconst hC.1 hC.2.1 hd hv (kk H locs ls hP hD hS h)
theorem g_bipush (hC : gC x l cc nL own g fr lo mc ms) {z : Int} (v : Int32) (hd : decode cc pc = .ok (.bipush z, 2)) (pc2 : Nat) (e : pc + 2 = pc2) (hv : (Int8.ofInt z).toInt32 = v) (kk : G x g nL k n ws pc2 lv (.int v :: st)) : G x g nL k n ws pc lv (st) := by
  subst e
  intro H locs ls hP hD hS h
  exact lv_bipush hC.1 hC.2.1 hd hv (kk H locs ls hP hD hS h)
theorem g_sipush (hC : gC x l cc nL own g fr lo mc ms) {z : Int} (v : Int32) (hd : decode cc pc = .ok (.sipush z, 3)) (pc2 : Nat) (e : pc + 3 = pc2) (hv : (Int16.ofInt z).toInt32 = v) (kk : G x g nL k n ws pc2 lv (.int v :: st)) : G x g nL k n ws pc lv (st) := by
  subst e
  intro H locs ls hP hD hS h
  exact lv_sipush hC.1 hC.2.1 hd hv (kk H locs ls hP hD hS h)
theorem g_lconst (hC : gC x l cc nL own g fr lo mc ms) {z : Fin 2} (v : Int64) (hd : decode cc pc = .ok (.lconst z, 1)) (pc2 : Nat) (e : pc + 1 = pc2) (hv : Int64.ofNat (z : Nat) = v) (kk : G x g nL k n ws pc2 lv (.long v :: st)) : G x g nL k n ws pc lv (st) := by
  subst e
  intro H locs ls hP hD hS h
  exact lv_lconst hC.1 hC.2.1 hd hv (kk H locs ls hP hD hS h)
theorem g_dconst0 (hC : gC x l cc nL own g fr lo mc ms)  (hd : decode cc pc = .ok (.dconst 0, 1)) (pc2 : Nat) (e : pc + 1 = pc2)  (kk : G x g nL k n ws pc2 lv (.double 0 :: st)) : G x g nL k n ws pc lv (st) := by
  subst e
  intro H locs ls hP hD hS h
  exact lv_dconst0 hC.1 hC.2.1 hd (kk H locs ls hP hD hS h)
theorem g_fconst0 (hC : gC x l cc nL own g fr lo mc ms)  (hd : decode cc pc = .ok (.fconst 0, 1)) (pc2 : Nat) (e : pc + 1 = pc2)  (kk : G x g nL k n ws pc2 lv (.float 0 :: st)) : G x g nL k n ws pc lv (st) := by
  subst e
  intro H locs ls hP hD hS h
  exact lv_fconst0 hC.1 hC.2.1 hd (kk H locs ls hP hD hS h)
theorem g_ldc (hC : gC x l cc nL own g fr lo mc ms) {idx : Nat} (v : Int32) (hd : decode cc pc = .ok (.ldc idx, 2)) (pc2 : Nat) (e : pc + 2 = pc2) (hw : Cond.constant own idx v ∈ lw_all) (kk : G x g nL k n ws pc2 lv (.int v :: st)) : G x g nL k n ws pc lv (st) := by
  subst e
  intro H locs ls hP hD hS h
  exact lv_ldc hC.1 hC.2.1 hC.2.2.2.1 (hC.2.2.2.2.1 _ hw) hd (kk H locs ls hP hD hS h)
theorem g_null (hC : gC x l cc nL own g fr lo mc ms)  (hd : decode cc pc = .ok (.aconst_null, 1)) (pc2 : Nat) (e : pc + 1 = pc2)  (kk : G x g nL k n ws pc2 lv (.null :: st)) : G x g nL k n ws pc lv (st) := by
  subst e
  intro H locs ls hP hD hS h
  exact lv_null hC.1 hC.2.1 hd (kk H locs ls hP hD hS h)
theorem g_iload_n (hC : gC x l cc nL own g fr lo mc ms) {j : Fin 4} {i : Nat} {v : Int32} (hd : decode cc pc = .ok (.iload_n j, 1)) (pc2 : Nat) (e : pc + 1 = pc2) (hi : (j : Nat) = i) (q : Nat) (hl : lv[q]? = some (i, .int v)) (kk : G x g nL k n ws pc2 lv (.int v :: st)) : G x g nL k n ws pc lv (st) := by
  subst e
  intro H locs ls hP hD hS h
  exact lv_iload_n hC.1 hC.2.1 hd hi (lv_at h q hl) (kk H locs ls hP hD hS h)
theorem g_iload (hC : gC x l cc nL own g fr lo mc ms) {i : Nat} {v : Int32} (hd : decode cc pc = .ok (.iload i, 2)) (pc2 : Nat) (e : pc + 2 = pc2) (q : Nat) (hl : lv[q]? = some (i, .int v)) (kk : G x g nL k n ws pc2 lv (.int v :: st)) : G x g nL k n ws pc lv (st) := by
  subst e
  intro H locs ls hP hD hS h
  exact lv_iload hC.1 hC.2.1 hd (lv_at h q hl) (kk H locs ls hP hD hS h)
theorem g_istore_n (hC : gC x l cc nL own g fr lo mc ms) {j : Fin 4} {i : Nat} {v : Int32} {lv2 : List (Nat × Value)} (hd : decode cc pc = .ok (.istore_n j, 1)) (pc2 : Nat) (e : pc + 1 = pc2) (hi : (j : Nat) = i) (hn : i < nL) (hl : (i, Value.int v) :: lv.filter (fun q => !(q.1 == i) && !(q.1 + 1 == i && q.2.category == 2)) = lv2) (kk : G x g nL k n ws pc2 lv2 st) : G x g nL k n ws pc lv (.int v :: st) := by
  subst e
  intro H locs ls hP hD hS h
  exact lv_istore_n hC.1 hC.2.1 hd hi h hn hl (fun ls' h' => kk H locs ls' hP hD hS h')
theorem g_istore (hC : gC x l cc nL own g fr lo mc ms) {i : Nat} {v : Int32} {lv2 : List (Nat × Value)} (hd : decode cc pc = .ok (.istore i, 2)) (pc2 : Nat) (e : pc + 2 = pc2) (hn : i < nL) (hl : (i, Value.int v) :: lv.filter (fun q => !(q.1 == i) && !(q.1 + 1 == i && q.2.category == 2)) = lv2) (kk : G x g nL k n ws pc2 lv2 st) : G x g nL k n ws pc lv (.int v :: st) := by
  subst e
  intro H locs ls hP hD hS h
  exact lv_istore hC.1 hC.2.1 hd h hn hl (fun ls' h' => kk H locs ls' hP hD hS h')
theorem g_lload_n (hC : gC x l cc nL own g fr lo mc ms) {j : Fin 4} {i : Nat} {v : Int64} (hd : decode cc pc = .ok (.lload_n j, 1)) (pc2 : Nat) (e : pc + 1 = pc2) (hi : (j : Nat) = i) (q : Nat) (hl : lv[q]? = some (i, .long v)) (kk : G x g nL k n ws pc2 lv (.long v :: st)) : G x g nL k n ws pc lv (st) := by
  subst e
  intro H locs ls hP hD hS h
  exact lv_lload_n hC.1 hC.2.1 hd hi (lv_at h q hl) (kk H locs ls hP hD hS h)
theorem g_lload (hC : gC x l cc nL own g fr lo mc ms) {i : Nat} {v : Int64} (hd : decode cc pc = .ok (.lload i, 2)) (pc2 : Nat) (e : pc + 2 = pc2) (q : Nat) (hl : lv[q]? = some (i, .long v)) (kk : G x g nL k n ws pc2 lv (.long v :: st)) : G x g nL k n ws pc lv (st) := by
  subst e
  intro H locs ls hP hD hS h
  exact lv_lload hC.1 hC.2.1 hd (lv_at h q hl) (kk H locs ls hP hD hS h)
theorem g_lstore_n (hC : gC x l cc nL own g fr lo mc ms) {j : Fin 4} {i : Nat} {v : Int64} {lv2 : List (Nat × Value)} (hd : decode cc pc = .ok (.lstore_n j, 1)) (pc2 : Nat) (e : pc + 1 = pc2) (hi : (j : Nat) = i) (hn : i + 1 < nL) (hl : (i, Value.long v) :: lv.filter (fun q => !(q.1 == i) && (!(q.1 == i + 1) && !(q.1 + 1 == i && q.2.category == 2))) = lv2) (kk : G x g nL k n ws pc2 lv2 st) : G x g nL k n ws pc lv (.long v :: st) := by
  subst e
  intro H locs ls hP hD hS h
  exact lv_lstore_n hC.1 hC.2.1 hd hi h hn hl (fun ls' h' => kk H locs ls' hP hD hS h')
theorem g_lstore (hC : gC x l cc nL own g fr lo mc ms) {i : Nat} {v : Int64} {lv2 : List (Nat × Value)} (hd : decode cc pc = .ok (.lstore i, 2)) (pc2 : Nat) (e : pc + 2 = pc2) (hn : i + 1 < nL) (hl : (i, Value.long v) :: lv.filter (fun q => !(q.1 == i) && (!(q.1 == i + 1) && !(q.1 + 1 == i && q.2.category == 2))) = lv2) (kk : G x g nL k n ws pc2 lv2 st) : G x g nL k n ws pc lv (.long v :: st) := by
  subst e
  intro H locs ls hP hD hS h
  exact lv_lstore hC.1 hC.2.1 hd h hn hl (fun ls' h' => kk H locs ls' hP hD hS h')
theorem g_aload_n (hC : gC x l cc nL own g fr lo mc ms) {j : Fin 4} {i : Nat} {v : Nat} (hd : decode cc pc = .ok (.aload_n j, 1)) (pc2 : Nat) (e : pc + 1 = pc2) (hi : (j : Nat) = i) (q : Nat) (hl : lv[q]? = some (i, .ref v)) (kk : G x g nL k n ws pc2 lv (.ref v :: st)) : G x g nL k n ws pc lv (st) := by
  subst e
  intro H locs ls hP hD hS h
  exact lv_aload_n hC.1 hC.2.1 hd hi (lv_at h q hl) (kk H locs ls hP hD hS h)
theorem g_aload (hC : gC x l cc nL own g fr lo mc ms) {i : Nat} {v : Nat} (hd : decode cc pc = .ok (.aload i, 2)) (pc2 : Nat) (e : pc + 2 = pc2) (q : Nat) (hl : lv[q]? = some (i, .ref v)) (kk : G x g nL k n ws pc2 lv (.ref v :: st)) : G x g nL k n ws pc lv (st) := by
  subst e
  intro H locs ls hP hD hS h
  exact lv_aload hC.1 hC.2.1 hd (lv_at h q hl) (kk H locs ls hP hD hS h)
theorem g_astore_n (hC : gC x l cc nL own g fr lo mc ms) {j : Fin 4} {i : Nat} {v : Nat} {lv2 : List (Nat × Value)} (hd : decode cc pc = .ok (.astore_n j, 1)) (pc2 : Nat) (e : pc + 1 = pc2) (hi : (j : Nat) = i) (hn : i < nL) (hl : (i, Value.ref v) :: lv.filter (fun q => !(q.1 == i) && !(q.1 + 1 == i && q.2.category == 2)) = lv2) (kk : G x g nL k n ws pc2 lv2 st) : G x g nL k n ws pc lv (.ref v :: st) := by
  subst e
  intro H locs ls hP hD hS h
  exact lv_astore_n hC.1 hC.2.1 hd hi h hn hl (fun ls' h' => kk H locs ls' hP hD hS h')
theorem g_astore (hC : gC x l cc nL own g fr lo mc ms) {i : Nat} {v : Nat} {lv2 : List (Nat × Value)} (hd : decode cc pc = .ok (.astore i, 2)) (pc2 : Nat) (e : pc + 2 = pc2) (hn : i < nL) (hl : (i, Value.ref v) :: lv.filter (fun q => !(q.1 == i) && !(q.1 + 1 == i && q.2.category == 2)) = lv2) (kk : G x g nL k n ws pc2 lv2 st) : G x g nL k n ws pc lv (.ref v :: st) := by
  subst e
  intro H locs ls hP hD hS h
  exact lv_astore hC.1 hC.2.1 hd h hn hl (fun ls' h' => kk H locs ls' hP hD hS h')
theorem g_dload_n (hC : gC x l cc nL own g fr lo mc ms) {j : Fin 4} {i : Nat} {v : UInt64} (hd : decode cc pc = .ok (.dload_n j, 1)) (pc2 : Nat) (e : pc + 1 = pc2) (hi : (j : Nat) = i) (q : Nat) (hl : lv[q]? = some (i, .double v)) (kk : G x g nL k n ws pc2 lv (.double v :: st)) : G x g nL k n ws pc lv (st) := by
  subst e
  intro H locs ls hP hD hS h
  exact lv_dload_n hC.1 hC.2.1 hd hi (lv_at h q hl) (kk H locs ls hP hD hS h)
theorem g_dload (hC : gC x l cc nL own g fr lo mc ms) {i : Nat} {v : UInt64} (hd : decode cc pc = .ok (.dload i, 2)) (pc2 : Nat) (e : pc + 2 = pc2) (q : Nat) (hl : lv[q]? = some (i, .double v)) (kk : G x g nL k n ws pc2 lv (.double v :: st)) : G x g nL k n ws pc lv (st) := by
  subst e
  intro H locs ls hP hD hS h
  exact lv_dload hC.1 hC.2.1 hd (lv_at h q hl) (kk H locs ls hP hD hS h)
theorem g_dstore_n (hC : gC x l cc nL own g fr lo mc ms) {j : Fin 4} {i : Nat} {v : UInt64} {lv2 : List (Nat × Value)} (hd : decode cc pc = .ok (.dstore_n j, 1)) (pc2 : Nat) (e : pc + 1 = pc2) (hi : (j : Nat) = i) (hn : i + 1 < nL) (hl : (i, Value.double v) :: lv.filter (fun q => !(q.1 == i) && (!(q.1 == i + 1) && !(q.1 + 1 == i && q.2.category == 2))) = lv2) (kk : G x g nL k n ws pc2 lv2 st) : G x g nL k n ws pc lv (.double v :: st) := by
  subst e
  intro H locs ls hP hD hS h
  exact lv_dstore_n hC.1 hC.2.1 hd hi h hn hl (fun ls' h' => kk H locs ls' hP hD hS h')
theorem g_dstore (hC : gC x l cc nL own g fr lo mc ms) {i : Nat} {v : UInt64} {lv2 : List (Nat × Value)} (hd : decode cc pc = .ok (.dstore i, 2)) (pc2 : Nat) (e : pc + 2 = pc2) (hn : i + 1 < nL) (hl : (i, Value.double v) :: lv.filter (fun q => !(q.1 == i) && (!(q.1 == i + 1) && !(q.1 + 1 == i && q.2.category == 2))) = lv2) (kk : G x g nL k n ws pc2 lv2 st) : G x g nL k n ws pc lv (.double v :: st) := by
  subst e
  intro H locs ls hP hD hS h
  exact lv_dstore hC.1 hC.2.1 hd h hn hl (fun ls' h' => kk H locs ls' hP hD hS h')
theorem g_fload_n (hC : gC x l cc nL own g fr lo mc ms) {j : Fin 4} {i : Nat} {v : UInt32} (hd : decode cc pc = .ok (.fload_n j, 1)) (pc2 : Nat) (e : pc + 1 = pc2) (hi : (j : Nat) = i) (q : Nat) (hl : lv[q]? = some (i, .float v)) (kk : G x g nL k n ws pc2 lv (.float v :: st)) : G x g nL k n ws pc lv (st) := by
  subst e
  intro H locs ls hP hD hS h
  exact lv_fload_n hC.1 hC.2.1 hd hi (lv_at h q hl) (kk H locs ls hP hD hS h)
theorem g_fload (hC : gC x l cc nL own g fr lo mc ms) {i : Nat} {v : UInt32} (hd : decode cc pc = .ok (.fload i, 2)) (pc2 : Nat) (e : pc + 2 = pc2) (q : Nat) (hl : lv[q]? = some (i, .float v)) (kk : G x g nL k n ws pc2 lv (.float v :: st)) : G x g nL k n ws pc lv (st) := by
  subst e
  intro H locs ls hP hD hS h
  exact lv_fload hC.1 hC.2.1 hd (lv_at h q hl) (kk H locs ls hP hD hS h)
theorem g_fstore_n (hC : gC x l cc nL own g fr lo mc ms) {j : Fin 4} {i : Nat} {v : UInt32} {lv2 : List (Nat × Value)} (hd : decode cc pc = .ok (.fstore_n j, 1)) (pc2 : Nat) (e : pc + 1 = pc2) (hi : (j : Nat) = i) (hn : i < nL) (hl : (i, Value.float v) :: lv.filter (fun q => !(q.1 == i) && !(q.1 + 1 == i && q.2.category == 2)) = lv2) (kk : G x g nL k n ws pc2 lv2 st) : G x g nL k n ws pc lv (.float v :: st) := by
  subst e
  intro H locs ls hP hD hS h
  exact lv_fstore_n hC.1 hC.2.1 hd hi h hn hl (fun ls' h' => kk H locs ls' hP hD hS h')
theorem g_fstore (hC : gC x l cc nL own g fr lo mc ms) {i : Nat} {v : UInt32} {lv2 : List (Nat × Value)} (hd : decode cc pc = .ok (.fstore i, 2)) (pc2 : Nat) (e : pc + 2 = pc2) (hn : i < nL) (hl : (i, Value.float v) :: lv.filter (fun q => !(q.1 == i) && !(q.1 + 1 == i && q.2.category == 2)) = lv2) (kk : G x g nL k n ws pc2 lv2 st) : G x g nL k n ws pc lv (.float v :: st) := by
  subst e
  intro H locs ls hP hD hS h
  exact lv_fstore hC.1 hC.2.1 hd h hn hl (fun ls' h' => kk H locs ls' hP hD hS h')
theorem g_iinc (hC : gC x l cc nL own g fr lo mc ms) {i : Nat} {z : Int} {v v2 : Int32} {lv2 : List (Nat × Value)} (hd : decode cc pc = .ok (.iinc i z, 3)) (pc2 : Nat) (e : pc + 3 = pc2) (q : Nat) (hq : lv[q]? = some (i, .int v)) (hv : v + Int32.ofInt z = v2) (hn : i < nL) (hl : (i, Value.int v2) :: lv.filter (fun q => !(q.1 == i) && !(q.1 + 1 == i && q.2.category == 2)) = lv2) (kk : G x g nL k n ws pc2 lv2 st) : G x g nL k n ws pc lv st := by
  subst e
  intro H locs ls hP hD hS h
  exact lv_iinc hC.1 hC.2.1 hd h hq hv hn hl (fun ls' h' => kk H locs ls' hP hD hS h')
theorem g_iadd (hC : gC x l cc nL own g fr lo mc ms) {a b : Int32} (hd : decode cc pc = .ok (.iadd, 1)) (pc2 : Nat) (e : pc + 1 = pc2)  (kk : G x g nL k n ws pc2 lv (.int (a + b) :: st)) : G x g nL k n ws pc lv (.int b :: .int a :: st) := by
  subst e
  intro H locs ls hP hD hS h
  exact lv_iadd hC.1 hC.2.1 hd (kk H locs ls hP hD hS h)
theorem g_isub (hC : gC x l cc nL own g fr lo mc ms) {a b : Int32} (hd : decode cc pc = .ok (.isub, 1)) (pc2 : Nat) (e : pc + 1 = pc2)  (kk : G x g nL k n ws pc2 lv (.int (a - b) :: st)) : G x g nL k n ws pc lv (.int b :: .int a :: st) := by
  subst e
  intro H locs ls hP hD hS h
  exact lv_isub hC.1 hC.2.1 hd (kk H locs ls hP hD hS h)
theorem g_imul (hC : gC x l cc nL own g fr lo mc ms) {a b : Int32} (hd : decode cc pc = .ok (.imul, 1)) (pc2 : Nat) (e : pc + 1 = pc2)  (kk : G x g nL k n ws pc2 lv (.int (a * b) :: st)) : G x g nL k n ws pc lv (.int b :: .int a :: st) := by
  subst e
  intro H locs ls hP hD hS h
  exact lv_imul hC.1 hC.2.1 hd (kk H locs ls hP hD hS h)
theorem g_iand (hC : gC x l cc nL own g fr lo mc ms) {a b : Int32} (hd : decode cc pc = .ok (.iand, 1)) (pc2 : Nat) (e : pc + 1 = pc2)  (kk : G x g nL k n ws pc2 lv (.int (a &&& b) :: st)) : G x g nL k n ws pc lv (.int b :: .int a :: st) := by
  subst e
  intro H locs ls hP hD hS h
  exact lv_iand hC.1 hC.2.1 hd (kk H locs ls hP hD hS h)
theorem g_ior (hC : gC x l cc nL own g fr lo mc ms) {a b : Int32} (hd : decode cc pc = .ok (.ior, 1)) (pc2 : Nat) (e : pc + 1 = pc2)  (kk : G x g nL k n ws pc2 lv (.int (a ||| b) :: st)) : G x g nL k n ws pc lv (.int b :: .int a :: st) := by
  subst e
  intro H locs ls hP hD hS h
  exact lv_ior hC.1 hC.2.1 hd (kk H locs ls hP hD hS h)
theorem g_ixor (hC : gC x l cc nL own g fr lo mc ms) {a b : Int32} (hd : decode cc pc = .ok (.ixor, 1)) (pc2 : Nat) (e : pc + 1 = pc2)  (kk : G x g nL k n ws pc2 lv (.int (a ^^^ b) :: st)) : G x g nL k n ws pc lv (.int b :: .int a :: st) := by
  subst e
  intro H locs ls hP hD hS h
  exact lv_ixor hC.1 hC.2.1 hd (kk H locs ls hP hD hS h)
theorem g_ishl (hC : gC x l cc nL own g fr lo mc ms) {a b : Int32} (hd : decode cc pc = .ok (.ishl, 1)) (pc2 : Nat) (e : pc + 1 = pc2)  (kk : G x g nL k n ws pc2 lv (.int (a <<< (b &&& 31)) :: st)) : G x g nL k n ws pc lv (.int b :: .int a :: st) := by
  subst e
  intro H locs ls hP hD hS h
  exact lv_ishl hC.1 hC.2.1 hd (kk H locs ls hP hD hS h)
theorem g_ishr (hC : gC x l cc nL own g fr lo mc ms) {a b : Int32} (hd : decode cc pc = .ok (.ishr, 1)) (pc2 : Nat) (e : pc + 1 = pc2)  (kk : G x g nL k n ws pc2 lv (.int (a >>> (b &&& 31)) :: st)) : G x g nL k n ws pc lv (.int b :: .int a :: st) := by
  subst e
  intro H locs ls hP hD hS h
  exact lv_ishr hC.1 hC.2.1 hd (kk H locs ls hP hD hS h)
theorem g_iushr (hC : gC x l cc nL own g fr lo mc ms) {a b v : Int32} (hd : decode cc pc = .ok (.iushr, 1)) (pc2 : Nat) (e : pc + 1 = pc2) (hv : (a.toUInt32 >>> (b.toUInt32 &&& Int32.toUInt32 31)).toInt32 = v) (kk : G x g nL k n ws pc2 lv (.int v :: st)) : G x g nL k n ws pc lv (.int b :: .int a :: st) := by
  subst e
  intro H locs ls hP hD hS h
  exact lv_iushr hC.1 hC.2.1 hd hv (kk H locs ls hP hD hS h)
theorem g_idiv (hC : gC x l cc nL own g fr lo mc ms) {a b : Int32} (hd : decode cc pc = .ok (.idiv, 1)) (pc2 : Nat) (e : pc + 1 = pc2) (hne : ¬ b = 0) (kk : G x g nL k n ws pc2 lv (.int (a / b) :: st)) : G x g nL k n ws pc lv (.int b :: .int a :: st) := by
  subst e
  intro H locs ls hP hD hS h
  exact lv_idiv hC.1 hC.2.1 hd hne (kk H locs ls hP hD hS h)
theorem g_irem (hC : gC x l cc nL own g fr lo mc ms) {a b : Int32} (hd : decode cc pc = .ok (.irem, 1)) (pc2 : Nat) (e : pc + 1 = pc2) (hne : ¬ b = 0) (kk : G x g nL k n ws pc2 lv (.int (a - a / b * b) :: st)) : G x g nL k n ws pc lv (.int b :: .int a :: st) := by
  subst e
  intro H locs ls hP hD hS h
  exact lv_irem hC.1 hC.2.1 hd hne (kk H locs ls hP hD hS h)
theorem g_ineg (hC : gC x l cc nL own g fr lo mc ms) {a : Int32} (hd : decode cc pc = .ok (.ineg, 1)) (pc2 : Nat) (e : pc + 1 = pc2)  (kk : G x g nL k n ws pc2 lv (.int (-a) :: st)) : G x g nL k n ws pc lv (.int a :: st) := by
  subst e
  intro H locs ls hP hD hS h
  exact lv_ineg hC.1 hC.2.1 hd (kk H locs ls hP hD hS h)
theorem g_i2c (hC : gC x l cc nL own g fr lo mc ms) {a : Int32} (hd : decode cc pc = .ok (.i2c, 1)) (pc2 : Nat) (e : pc + 1 = pc2)  (kk : G x g nL k n ws pc2 lv (.int ((a.toUInt32 % 65536).toInt32) :: st)) : G x g nL k n ws pc lv (.int a :: st) := by
  subst e
  intro H locs ls hP hD hS h
  exact lv_i2c hC.1 hC.2.1 hd rfl (kk H locs ls hP hD hS h)
theorem g_i2b (hC : gC x l cc nL own g fr lo mc ms) {a : Int32} (hd : decode cc pc = .ok (.i2b, 1)) (pc2 : Nat) (e : pc + 1 = pc2)  (kk : G x g nL k n ws pc2 lv (.int (a.toInt8.toInt32) :: st)) : G x g nL k n ws pc lv (.int a :: st) := by
  subst e
  intro H locs ls hP hD hS h
  exact lv_i2b hC.1 hC.2.1 hd rfl (kk H locs ls hP hD hS h)
theorem g_i2l (hC : gC x l cc nL own g fr lo mc ms) {a : Int32} (hd : decode cc pc = .ok (.i2l, 1)) (pc2 : Nat) (e : pc + 1 = pc2)  (kk : G x g nL k n ws pc2 lv (.long (a.toInt64) :: st)) : G x g nL k n ws pc lv (.int a :: st) := by
  subst e
  intro H locs ls hP hD hS h
  exact lv_i2l hC.1 hC.2.1 hd rfl (kk H locs ls hP hD hS h)
theorem g_i2d (hC : gC x l cc nL own g fr lo mc ms) {a : Int32} (hd : decode cc pc = .ok (.i2d, 1)) (pc2 : Nat) (e : pc + 1 = pc2)  (kk : G x g nL k n ws pc2 lv (.double (FP.i2d a) :: st)) : G x g nL k n ws pc lv (.int a :: st) := by
  subst e
  intro H locs ls hP hD hS h
  exact lv_i2d hC.1 hC.2.1 hd (kk H locs ls hP hD hS h)
theorem g_i2f (hC : gC x l cc nL own g fr lo mc ms) {a : Int32} (hd : decode cc pc = .ok (.i2f, 1)) (pc2 : Nat) (e : pc + 1 = pc2)  (kk : G x g nL k n ws pc2 lv (.float (FP.i2f a) :: st)) : G x g nL k n ws pc lv (.int a :: st) := by
  subst e
  intro H locs ls hP hD hS h
  exact lv_i2f hC.1 hC.2.1 hd (kk H locs ls hP hD hS h)
theorem g_ddiv (hC : gC x l cc nL own g fr lo mc ms) {a b : UInt64} (hd : decode cc pc = .ok (.ddiv, 1)) (pc2 : Nat) (e : pc + 1 = pc2) (hne : vf_n64 (FP.ddiv a b)) (kk : G x g nL k n ws pc2 lv (.double (FP.ddiv a b) :: st)) : G x g nL k n ws pc lv (.double b :: .double a :: st) := by
  subst e
  intro H locs ls hP hD hS h
  exact lv_ddiv hC.1 hC.2.1 hd hne (kk H locs ls hP hD hS h)
theorem g_fdiv (hC : gC x l cc nL own g fr lo mc ms) {a b : UInt32} (hd : decode cc pc = .ok (.fdiv, 1)) (pc2 : Nat) (e : pc + 1 = pc2) (hne : vf_n32 (FP.fdiv a b)) (kk : G x g nL k n ws pc2 lv (.float (FP.fdiv a b) :: st)) : G x g nL k n ws pc lv (.float b :: .float a :: st) := by
  subst e
  intro H locs ls hP hD hS h
  exact lv_fdiv hC.1 hC.2.1 hd hne (kk H locs ls hP hD hS h)
theorem g_f2d (hC : gC x l cc nL own g fr lo mc ms) {a : UInt32} (hd : decode cc pc = .ok (.f2d, 1)) (pc2 : Nat) (e : pc + 1 = pc2) (hne : vf_n64 (FP.f2d a)) (kk : G x g nL k n ws pc2 lv (.double (FP.f2d a) :: st)) : G x g nL k n ws pc lv (.float a :: st) := by
  subst e
  intro H locs ls hP hD hS h
  exact lv_f2d hC.1 hC.2.1 hd hne (kk H locs ls hP hD hS h)
theorem g_dcmp (hC : gC x l cc nL own g fr lo mc ms) {a b : UInt64} {op : CmpOp} (hd : decode cc pc = .ok (.dcmp op, 1)) (pc2 : Nat) (e : pc + 1 = pc2)  (kk : G x g nL k n ws pc2 lv (.int (Op.cmpValue (FP.dcmp a b) op) :: st)) : G x g nL k n ws pc lv (.double b :: .double a :: st) := by
  subst e
  intro H locs ls hP hD hS h
  exact lv_dcmp hC.1 hC.2.1 hd (kk H locs ls hP hD hS h)
theorem g_fcmp (hC : gC x l cc nL own g fr lo mc ms) {a b : UInt32} {op : CmpOp} (hd : decode cc pc = .ok (.fcmp op, 1)) (pc2 : Nat) (e : pc + 1 = pc2)  (kk : G x g nL k n ws pc2 lv (.int (Op.cmpValue (FP.fcmp a b) op) :: st)) : G x g nL k n ws pc lv (.float b :: .float a :: st) := by
  subst e
  intro H locs ls hP hD hS h
  exact lv_fcmp hC.1 hC.2.1 hd (kk H locs ls hP hD hS h)
theorem g_lcmp (hC : gC x l cc nL own g fr lo mc ms) {a b : Int64} (hd : decode cc pc = .ok (.lcmp, 1)) (pc2 : Nat) (e : pc + 1 = pc2)  (kk : G x g nL k n ws pc2 lv (.int (lg_cmp a b) :: st)) : G x g nL k n ws pc lv (.long b :: .long a :: st) := by
  subst e
  intro H locs ls hP hD hS h
  exact W.lcmp hC.1 hC.2.1 hd (kk H locs ls hP hD hS h)
theorem g_dup (hC : gC x l cc nL own g fr lo mc ms) {a : Value} (hd : decode cc pc = .ok (.dup, 1)) (pc2 : Nat) (e : pc + 1 = pc2) (ha : a.category = 1) (kk : G x g nL k n ws pc2 lv (a :: a :: st)) : G x g nL k n ws pc lv (a :: st) := by
  subst e
  intro H locs ls hP hD hS h
  exact lv_dup hC.1 hC.2.1 hd ha (kk H locs ls hP hD hS h)
theorem g_pop (hC : gC x l cc nL own g fr lo mc ms) {a : Value} (hd : decode cc pc = .ok (.pop, 1)) (pc2 : Nat) (e : pc + 1 = pc2) (ha : a.category = 1) (kk : G x g nL k n ws pc2 lv (st)) : G x g nL k n ws pc lv (a :: st) := by
  subst e
  intro H locs ls hP hD hS h
  exact lv_pop hC.1 hC.2.1 hd ha (kk H locs ls hP hD hS h)
theorem g_dup_x1 (hC : gC x l cc nL own g fr lo mc ms) {a b : Value} (hd : decode cc pc = .ok (.dup_x1, 1)) (pc2 : Nat) (e : pc + 1 = pc2) (ha : a.category = 1) (hb : b.category = 1) (kk : G x g nL k n ws pc2 lv (a :: b :: a :: st)) : G x g nL k n ws pc lv (a :: b :: st) := by
  subst e
  intro H locs ls hP hD hS h
  exact lv_dup_x1 hC.1 hC.2.1 hd ha hb (kk H locs ls hP hD hS h)
theorem g_dup_x2 (hC : gC x l cc nL own g fr lo mc ms) {a b c0 : Value} (hd : decode cc pc = .ok (.dup_x2, 1)) (pc2 : Nat) (e : pc + 1 = pc2) (ha : a.category = 1) (hb : b.category = 1) (hc : c0.category = 1) (kk : G x g nL k n ws pc2 lv (a :: b :: c0 :: a :: st)) : G x g nL k n ws pc lv (a :: b :: c0 :: st) := by
  subst e
  intro H locs ls hP hD hS h
  exact lv_dup_x2 hC.1 hC.2.1 hd ha hb hc (kk H locs ls hP hD hS h)
theorem g_dup2 (hC : gC x l cc nL own g fr lo mc ms) {a b : Value} (hd : decode cc pc = .ok (.dup2, 1)) (pc2 : Nat) (e : pc + 1 = pc2) (ha : a.category = 1) (hb : b.category = 1) (kk : G x g nL k n ws pc2 lv (a :: b :: a :: b :: st)) : G x g nL k n ws pc lv (a :: b :: st) := by
  subst e
  intro H locs ls hP hD hS h
  exact lv_dup2_11 hC.1 hC.2.1 hd ha hb (kk H locs ls hP hD hS h)
theorem g_if_eq (hC : gC x l cc nL own g fr lo mc ms) {a : Int32} {off : Int} (hd : decode cc pc = .ok (.ifCond .eq off, 3)) (tgt : Nat) (ht : (pc : Int) + off = (tgt : Int)) (pc2 : Nat) (e : pc + 3 = pc2) (kt : a = 0 → G x g nL k n ws tgt lv st) (kf : ¬ a = 0 → G x g nL k n ws pc2 lv st) : G x g nL k n ws pc lv (.int a :: st) := by
  subst e
  intro H locs ls hP hD hS h
  exact lv_if_eq hC.1 hC.2.1 hd ht (fun c => kt c H locs ls hP hD hS h) (fun c => kf c H locs ls hP hD hS h)
theorem g_if_ne (hC : gC x l cc nL own g fr lo mc ms) {a : Int32} {off : Int} (hd : decode cc pc = .ok (.ifCond .ne off, 3)) (tgt : Nat) (ht : (pc : Int) + off = (tgt : Int)) (pc2 : Nat) (e : pc + 3 = pc2) (kt : ¬ a = 0 → G x g nL k n ws tgt lv st) (kf : a = 0 → G x g nL k n ws pc2 lv st) : G x g nL k n ws pc lv (.int a :: st) := by
  subst e
  intro H locs ls hP hD hS h
  exact lv_if_ne hC.1 hC.2.1 hd ht (fun c => kt c H locs ls hP hD hS h) (fun c => kf c H locs ls hP hD hS h)
theorem g_if_lt (hC : gC x l cc nL own g fr lo mc ms) {a : Int32} {off : Int} (hd : decode cc pc = .ok (.ifCond .lt off, 3)) (tgt : Nat) (ht : (pc : Int) + off = (tgt : Int)) (pc2 : Nat) (e : pc + 3 = pc2) (kt : a < 0 → G x g nL k n ws tgt lv st) (kf : ¬ a < 0 → G x g nL k n ws pc2 lv st) : G x g nL k n ws pc lv (.int a :: st) := by
  subst e
  intro H locs ls hP hD hS h
  exact lv_if_lt hC.1 hC.2.1 hd ht (fun c => kt c H locs ls hP hD hS h) (fun c => kf c H locs ls hP hD hS h)
theorem g_if_ge (hC : gC x l cc nL own g fr lo mc ms) {a : Int32} {off : Int} (hd : decode cc pc = .ok (.ifCond .ge off, 3)) (tgt : Nat) (ht : (pc : Int) + off = (tgt : Int)) (pc2 : Nat) (e : pc + 3 = pc2) (kt : 0 ≤ a → G x g nL k n ws tgt lv st) (kf : ¬ 0 ≤ a → G x g nL k n ws pc2 lv st) : G x g nL k n ws pc lv (.int a :: st) := by
  subst e
  intro H locs ls hP hD hS h
  exact lv_if_ge hC.1 hC.2.1 hd ht (fun c => kt c H locs ls hP hD hS h) (fun c => kf c H locs ls hP hD hS h)
theorem g_if_gt (hC : gC x l cc nL own g fr lo mc ms) {a : Int32} {off : Int} (hd : decode cc pc = .ok (.ifCond .gt off, 3)) (tgt : Nat) (ht : (pc : Int) + off = (tgt : Int)) (pc2 : Nat) (e : pc + 3 = pc2) (kt : 0 < a → G x g nL k n ws tgt lv st) (kf : ¬ 0 < a → G x g nL k n ws pc2 lv st) : G x g nL k n ws pc lv (.int a :: st) := by
  subst e
  intro H locs ls hP hD hS h
  exact lv_if_gt hC.1 hC.2.1 hd ht (fun c => kt c H locs ls hP hD hS h) (fun c => kf c H locs ls hP hD hS h)
theorem g_if_le (hC : gC x l cc nL own g fr lo mc ms) {a : Int32} {off : Int} (hd : decode cc pc = .ok (.ifCond .le off, 3)) (tgt : Nat) (ht : (pc : Int) + off = (tgt : Int)) (pc2 : Nat) (e : pc + 3 = pc2) (kt : a ≤ 0 → G x g nL k n ws tgt lv st) (kf : ¬ a ≤ 0 → G x g nL k n ws pc2 lv st) : G x g nL k n ws pc lv (.int a :: st) := by
  subst e
  intro H locs ls hP hD hS h
  exact lv_if_le hC.1 hC.2.1 hd ht (fun c => kt c H locs ls hP hD hS h) (fun c => kf c H locs ls hP hD hS h)
theorem g_icmp_eq (hC : gC x l cc nL own g fr lo mc ms) {a b : Int32} {off : Int} (hd : decode cc pc = .ok (.if_icmp .eq off, 3)) (tgt : Nat) (ht : (pc : Int) + off = (tgt : Int)) (pc2 : Nat) (e : pc + 3 = pc2) (kt : a = b → G x g nL k n ws tgt lv st) (kf : ¬ a = b → G x g nL k n ws pc2 lv st) : G x g nL k n ws pc lv (.int b :: .int a :: st) := by
  subst e
  intro H locs ls hP hD hS h
  exact lv_icmp_eq hC.1 hC.2.1 hd ht (fun c => kt c H locs ls hP hD hS h) (fun c => kf c H locs ls hP hD hS h)
theorem g_icmp_ne (hC : gC x l cc nL own g fr lo mc ms) {a b : Int32} {off : Int} (hd : decode cc pc = .ok (.if_icmp .ne off, 3)) (tgt : Nat) (ht : (pc : Int) + off = (tgt : Int)) (pc2 : Nat) (e : pc + 3 = pc2) (kt : ¬ a = b → G x g nL k n ws tgt lv st) (kf : a = b → G x g nL k n ws pc2 lv st) : G x g nL k n ws pc lv (.int b :: .int a :: st) := by
  subst e
  intro H locs ls hP hD hS h
  exact lv_icmp_ne hC.1 hC.2.1 hd ht (fun c => kt c H locs ls hP hD hS h) (fun c => kf c H locs ls hP hD hS h)
theorem g_icmp_lt (hC : gC x l cc nL own g fr lo mc ms) {a b : Int32} {off : Int} (hd : decode cc pc = .ok (.if_icmp .lt off, 3)) (tgt : Nat) (ht : (pc : Int) + off = (tgt : Int)) (pc2 : Nat) (e : pc + 3 = pc2) (kt : a < b → G x g nL k n ws tgt lv st) (kf : ¬ a < b → G x g nL k n ws pc2 lv st) : G x g nL k n ws pc lv (.int b :: .int a :: st) := by
  subst e
  intro H locs ls hP hD hS h
  exact lv_icmp_lt hC.1 hC.2.1 hd ht (fun c => kt c H locs ls hP hD hS h) (fun c => kf c H locs ls hP hD hS h)
theorem g_icmp_ge (hC : gC x l cc nL own g fr lo mc ms) {a b : Int32} {off : Int} (hd : decode cc pc = .ok (.if_icmp .ge off, 3)) (tgt : Nat) (ht : (pc : Int) + off = (tgt : Int)) (pc2 : Nat) (e : pc + 3 = pc2) (kt : b ≤ a → G x g nL k n ws tgt lv st) (kf : ¬ b ≤ a → G x g nL k n ws pc2 lv st) : G x g nL k n ws pc lv (.int b :: .int a :: st) := by
  subst e
  intro H locs ls hP hD hS h
  exact lv_icmp_ge hC.1 hC.2.1 hd ht (fun c => kt c H locs ls hP hD hS h) (fun c => kf c H locs ls hP hD hS h)
theorem g_icmp_gt (hC : gC x l cc nL own g fr lo mc ms) {a b : Int32} {off : Int} (hd : decode cc pc = .ok (.if_icmp .gt off, 3)) (tgt : Nat) (ht : (pc : Int) + off = (tgt : Int)) (pc2 : Nat) (e : pc + 3 = pc2) (kt : b < a → G x g nL k n ws tgt lv st) (kf : ¬ b < a → G x g nL k n ws pc2 lv st) : G x g nL k n ws pc lv (.int b :: .int a :: st) := by
  subst e
  intro H locs ls hP hD hS h
  exact lv_icmp_gt hC.1 hC.2.1 hd ht (fun c => kt c H locs ls hP hD hS h) (fun c => kf c H locs ls hP hD hS h)
theorem g_icmp_le (hC : gC x l cc nL own g fr lo mc ms) {a b : Int32} {off : Int} (hd : decode cc pc = .ok (.if_icmp .le off, 3)) (tgt : Nat) (ht : (pc : Int) + off = (tgt : Int)) (pc2 : Nat) (e : pc + 3 = pc2) (kt : a ≤ b → G x g nL k n ws tgt lv st) (kf : ¬ a ≤ b → G x g nL k n ws pc2 lv st) : G x g nL k n ws pc lv (.int b :: .int a :: st) := by
  subst e
  intro H locs ls hP hD hS h
  exact lv_icmp_le hC.1 hC.2.1 hd ht (fun c => kt c H locs ls hP hD hS h) (fun c => kf c H locs ls hP hD hS h)
theorem g_goto (hC : gC x l cc nL own g fr lo mc ms) {off : Int} (hd : decode cc pc = .ok (.goto off, 3)) (tgt : Nat) (ht : (pc : Int) + off = (tgt : Int)) (kk : G x g nL k n ws tgt lv st) : G x g nL k n ws pc lv st := by
  intro H locs ls hP hD hS h
  exact lv_goto hC.1 hC.2.1 hd ht (kk H locs ls hP hD hS h)
theorem g_tableIn (hC : gC x l cc nL own g fr lo mc ms) {dflt : Int} {lo1 hi1 : Int} {offs : Array Int} {len : Nat} {a : Int32} {off : Int} (hd : decode cc pc = .ok (.tableswitch dflt lo1 hi1 offs, len)) (h1 : ¬ a.toInt < lo1) (h2 : ¬ hi1 < a.toInt) (ho : offs[(a.toInt - lo1).toNat]? = some off) (tgt : Nat) (ht : (pc : Int) + off = (tgt : Int)) (kk : G x g nL k n ws tgt lv st) : G x g nL k n ws pc lv (.int a :: st) := by
  intro H locs ls hP hD hS h
  exact lv_tableIn hC.1 hC.2.1 hd h1 h2 ho ht (kk H locs ls hP hD hS h)
theorem g_tableOut (hC : gC x l cc nL own g fr lo mc ms) {dflt : Int} {lo1 hi1 : Int} {offs : Array Int} {len : Nat} {a : Int32} (hd : decode cc pc = .ok (.tableswitch dflt lo1 hi1 offs, len)) (h1 : a.toInt < lo1 ∨ hi1 < a.toInt) (tgt : Nat) (ht : (pc : Int) + dflt = (tgt : Int)) (kk : G x g nL k n ws tgt lv st) : G x g nL k n ws pc lv (.int a :: st) := by
  intro H locs ls hP hD hS h
  exact lv_tableOut hC.1 hC.2.1 hd h1 ht (kk H locs ls hP hD hS h)
theorem g_lookup (hC : gC x l cc nL own g fr lo mc ms) {dflt : Int} {ps : Array (Int × Int)} {len : Nat} {a : Int32} {off : Int} (hd : decode cc pc = .ok (.lookupswitch dflt ps, len)) (hp : (ps.toList.zip (ps.toList.drop 1)).all (fun (a, next) => a.1 < next.1) = true) (ho : Op.lookupswitch.offset ps.toList dflt a.toInt = off) (tgt : Nat) (ht : (pc : Int) + off = (tgt : Int)) (kk : G x g nL k n ws tgt lv st) : G x g nL k n ws pc lv (.int a :: st) := by
  intro H locs ls hP hD hS h
  exact lv_lookup hC.1 hC.2.1 hd hp ho ht (kk H locs ls hP hD hS h)
theorem g_topi {v : Int32} (kk : ∀ y : Int32, y = v → G x g nL k n ws pc lv (.int y :: st)) : G x g nL k n ws pc lv (.int v :: st) := kk v rfl
theorem g_lv {lv2 : List (Nat × Value)} (ks : List Nat) (hl : lv_pick lv ks = lv2) (kk : G x g nL k n ws pc lv2 st) : G x g nL k n ws pc lv st :=
  fun H locs ls hP hD hS h => kk H locs ls hP hD hS (lv_sub h ks hl)
theorem g_widen {k2 n2 : Nat} (h1 : k ≤ k2) (h2 : n ≤ n2) (kk : G x g nL k2 n2 ws pc lv st) : G x g nL k n ws pc lv st :=
  fun H locs ls hP hD hS h => W.widen h1 h2 (kk H locs ls hP hD hS h)
theorem g_perm {ws2 : va_W} (p : ws.Perm ws2) (kk : G x g nL k n ws2 pc lv st) : G x g nL k n ws pc lv st :=
  fun H locs ls hP hD hS h => kk H locs ls (va_P_perm p hP) (va_D_perm p hD) hS h
theorem g_ws {ws2 : va_W} (e : ws = ws2) (kk : G x g nL k n ws2 pc lv st) : G x g nL k n ws pc lv st := e ▸ kk
/-- a field of a kind of ours: read at 'index' of own's pool -/
def gFl (own : String) (ci j index : Nat) : Prop := ∃ (C : String) (T : u_T) (N : Nat), vwCl[ci]? = some (C, T, N) ∧ j < N ∧ (∀ w ∈ u_ws C T N, w ∈ lw_all) ∧ Cond.fieldLink own index (T j).1 (T j).2.1 (T j).2.2.1 ∈ lw_all
theorem g_get (hC : gC x l cc nL own g fr lo mc ms) {ci j index : Nat} (hf : gFl own ci j index) {a : Nat} {fs : List Value} {v : Value} (hd : decode cc pc = .ok (.getfield index, 3)) (pc2 : Nat) (e : pc + 3 = pc2) (q0 : Nat) (he : ws[q0]? = some (a, .inr (ci, fs))) (hv : fs[j]? = some v) (kk : G x g nL k n ws pc2 lv (v :: st)) : G x g nL k n ws pc lv (.ref a :: st) := by
  subst e
  intro H locs ls hP hD hS h
  obtain ⟨C, T, N, h1, h2, h3, h4⟩ := hf
  exact va_get (ci := ci) hC.1 hC.2.1 hC.2.2.2.2.1 h3 hC.2.2.2.1 hC.2.2.2.2.2.1 hP q0 he h1 j h2 (hC.2.2.2.2.1 _ h4) (fun _ h9 => h9) hv hd (kk H locs ls hP hD hS h)
/-- .. and written, with values of the type ty -/
def gFp (own : String) (ci j index : Nat) (ty : FieldType) : Prop := ∃ (C : String) (T : u_T) (N : Nat) (ty0 : Nat → FieldType), vwCl[ci]? = some (C, T, N) ∧ j < N ∧ (∀ w ∈ u_ws C T N, w ∈ lw_all) ∧ Cond.fieldLink own index (T j).1 (T j).2.1 (T j).2.2.1 ∈ lw_all ∧
  (∀ i, i < N → parseFieldDescriptor (T i).2.2.1 = some (ty0 i)) ∧ (∀ a, a < N → ∀ b, b < N → a ≠ b → (T a).2.1 ≠ (T b).2.1) ∧ (T j).2.2.2 = false ∧ parseFieldDescriptor (T j).2.2.1 = some ty
theorem g_put (hC : gC x l cc nL own g fr lo mc ms) {ci j index : Nat} {ty : FieldType} (hf : gFp own ci j index ty) {a : Nat} {fs : List Value} {v : Value} {ws2 : va_W} (hd : decode cc pc = .ok (.putfield index, 3)) (pc2 : Nat) (e : pc + 3 = pc2) (q0 : Nat) (he : ws[q0]? = some (a, .inr (ci, fs))) (hn : narrow ty v = v) (hfit : fits ty v = true) (hl : j < fs.length) (hw : ws.set q0 (a, .inr (ci, fs.set j v)) = ws2) (kk : G x g nL k n ws2 pc2 lv st) : G x g nL k n ws pc lv (v :: .ref a :: st) := by
  subst e; subst hw
  intro H locs ls hP hD hS h
  obtain ⟨C, T, N, ty0, h1, h2, h3, h4, h5, h6, h7, h8⟩ := hf
  exact va_put (ci := ci) (ty := ty) hC.1 hC.2.1 hC.2.2.2.2.1 h3 ty0 h5 h6 hC.2.2.2.1 hC.2.2.2.2.2.1 hP hD hS q0 he h1 j h2 (hC.2.2.2.2.1 _ h4) (fun _ h9 => h9) h7 h8 hn hfit hl hd (fun H1 locs1 hP1 hD1 hS1 => kk H1 locs1 ls hP1 hD1 hS1 h)
/-- .. a final one, in its own constructor -/
def gFf (own : String) (ci j index : Nat) (ty : FieldType) : Prop := ∃ (C : String) (T : u_T) (N : Nat) (ty0 : Nat → FieldType), vwCl[ci]? = some (C, T, N) ∧ j < N ∧ (∀ w ∈ u_ws C T N, w ∈ lw_all) ∧ Cond.fieldLink own index (T j).1 (T j).2.1 (T j).2.2.1 ∈ lw_all ∧
  (∀ i, i < N → parseFieldDescriptor (T i).2.2.1 = some (ty0 i)) ∧ (∀ a, a < N → ∀ b, b < N → a ≠ b → (T a).2.1 ≠ (T b).2.1) ∧ (T j).2.2.2 = true ∧ (T j).1 = own ∧ parseFieldDescriptor (T j).2.2.1 = some ty
theorem g_putF (hC : gC x l cc nL own g fr lo mc ms) (hin : (x_meth x).name = "<init>") {ci j index : Nat} {ty : FieldType} (hf : gFf own ci j index ty) {a : Nat} {fs : List Value} {v : Value} {ws2 : va_W} (hd : decode cc pc = .ok (.putfield index, 3)) (pc2 : Nat) (e : pc + 3 = pc2) (q0 : Nat) (he : ws[q0]? = some (a, .inr (ci, fs))) (hn : narrow ty v = v) (hfit : fits ty v = true) (hl : j < fs.length) (hw : ws.set q0 (a, .inr (ci, fs.set j v)) = ws2) (kk : G x g nL k n ws2 pc2 lv st) : G x g nL k n ws pc lv (v :: .ref a :: st) := by
  subst e; subst hw
  intro H locs ls hP hD hS h
  obtain ⟨C, T, N, ty0, h1, h2, h3, h4, h5, h6, h7, h7b, h8⟩ := hf
  exact va_putF (ci := ci) (ty := ty) hC.1 hC.2.1 hC.2.2.2.2.1 h3 ty0 h5 h6 hC.2.2.2.1 hC.2.2.2.2.2.1 hP hD hS q0 he h1 j h2 (hC.2.2.2.2.1 _ h4) (fun _ h9 => h9) h7 hin h7b h8 hn hfit hl hd (fun H1 locs1 hP1 hD1 hS1 => kk H1 locs1 ls hP1 hD1 hS1 h)
theorem g_iald (hC : gC x l cc nL own g fr lo mc ms) {a N : Nat} {f : Nat → Int32} {i : Int32} (hd : decode cc pc = .ok (.iaload, 1)) (pc2 : Nat) (e : pc + 1 = pc2) (q0 : Nat) (ha : ws[q0]? = some (a, .inl (g.2.1 0, N, .inl f))) (hin : vp_in i N) (kk : G x g nL k n ws pc2 lv (.int (f i.toNatClampNeg) :: st)) : G x g nL k n ws pc lv (.int i :: .ref a :: st) := by
  subst e
  intro H locs ls hP hD hS h
  exact va_iald hC.1 hC.2.1 hC.2.2.2.2.2.1 hP q0 0 ha rfl hin hd (kk H locs ls hP hD hS h)
theorem g_cald (hC : gC x l cc nL own g fr lo mc ms) {a N : Nat} {f : Nat → Int32} {i : Int32} (hd : decode cc pc = .ok (.caload, 1)) (pc2 : Nat) (e : pc + 1 = pc2) (q0 : Nat) (ha : ws[q0]? = some (a, .inl (g.2.1 1, N, .inl f))) (hin : vp_in i N) (kk : G x g nL k n ws pc2 lv (.int (f i.toNatClampNeg) :: st)) : G x g nL k n ws pc lv (.int i :: .ref a :: st) := by
  subst e
  intro H locs ls hP hD hS h
  exact va_cald hC.1 hC.2.1 hC.2.2.2.2.2.1 hP q0 1 ha rfl hin hd (kk H locs ls hP hD hS h)
theorem g_bald (hC : gC x l cc nL own g fr lo mc ms) {a N : Nat} {f : Nat → Int32} {i : Int32} (hd : decode cc pc = .ok (.baload, 1)) (pc2 : Nat) (e : pc + 1 = pc2) (q0 : Nat) (ha : ws[q0]? = some (a, .inl (g.2.1 2, N, .inl f))) (hin : vp_in i N) (kk : G x g nL k n ws pc2 lv (.int (f i.toNatClampNeg) :: st)) : G x g nL k n ws pc lv (.int i :: .ref a :: st) := by
  subst e
  intro H locs ls hP hD hS h
  exact va_bald hC.1 hC.2.1 hC.2.2.2.2.2.1 hP q0 2 ha rfl hin hd (kk H locs ls hP hD hS h)
theorem g_lald (hC : gC x l cc nL own g fr lo mc ms) {a N : Nat} {f : Nat → Int64} {i : Int32} (hd : decode cc pc = .ok (.laload, 1)) (pc2 : Nat) (e : pc + 1 = pc2) (q0 : Nat) (ha : ws[q0]? = some (a, .inl (g.2.1 4, N, .inr (.inl f)))) (hin : vp_in i N) (kk : G x g nL k n ws pc2 lv (.long (f i.toNatClampNeg) :: st)) : G x g nL k n ws pc lv (.int i :: .ref a :: st) := by
  subst e
  intro H locs ls hP hD hS h
  exact va_lald hC.1 hC.2.1 hC.2.2.2.2.2.1 hP q0 4 ha rfl hin hd (kk H locs ls hP hD hS h)
theorem g_dald (hC : gC x l cc nL own g fr lo mc ms) {a N : Nat} {f : Nat → UInt64} {i : Int32} (hd : decode cc pc = .ok (.daload, 1)) (pc2 : Nat) (e : pc + 1 = pc2) (q0 : Nat) (ha : ws[q0]? = some (a, .inl (g.2.1 5, N, .inr (.inr (.inr (.inl f)))))) (hin : vp_in i N) (kk : G x g nL k n ws pc2 lv (.double (f i.toNatClampNeg) :: st)) : G x g nL k n ws pc lv (.int i :: .ref a :: st) := by
  subst e
  intro H locs ls hP hD hS h
  exact va_dald hC.1 hC.2.1 hC.2.2.2.2.2.1 hP q0 5 ha rfl hin hd (kk H locs ls hP hD hS h)
theorem g_aldq (hC : gC x l cc nL own g fr lo mc ms) {a N : Nat} {f : Nat → Option Nat} {i : Int32} (hd : decode cc pc = .ok (.aaload, 1)) (pc2 : Nat) (e : pc + 1 = pc2) (q0 : Nat) (ha : ws[q0]? = some (a, .inl (g.2.1 3, N, .inr (.inr (.inr (.inr f)))))) (hin : vp_in i N) (kk : G x g nL k n ws pc2 lv (va_rf (f i.toNatClampNeg) :: st)) : G x g nL k n ws pc lv (.int i :: .ref a :: st) := by
  subst e
  intro H locs ls hP hD hS h
  exact va_aldq hC.1 hC.2.1 hC.2.2.2.2.2.1 hP q0 3 ha rfl hin hd (kk H locs ls hP hD hS h)
theorem g_alen (hC : gC x l cc nL own g fr lo mc ms) {a : Nat} {y : vp_A} (hd : decode cc pc = .ok (.arraylength, 1)) (pc2 : Nat) (e : pc + 1 = pc2) (q0 t0 : Nat) {cA : ClassId} {ty : FieldType} (ha : ws[q0]? = some (a, .inl (cA, y))) (ht : (gT g)[t0]? = some (cA, ty)) {v : Int32} (hv : Int32.ofNat y.1 = v) (kk : G x g nL k n ws pc2 lv (.int v :: st)) : G x g nL k n ws pc lv (.ref a :: st) := by
  subst e
  intro H locs ls hP hD hS h
  exact va_alen hC.1 hC.2.1 hC.2.2.2.2.2.1 hP q0 t0 ha ht hv hd (kk H locs ls hP hD hS h)
theorem g_iast (hC : gC x l cc nL own g fr lo mc ms) {a N : Nat} {f : Nat → Int32} {i v : Int32} {ws2 : va_W} (hd : decode cc pc = .ok (.iastore, 1)) (pc2 : Nat) (e : pc + 1 = pc2) (q0 : Nat) (ha : ws[q0]? = some (a, .inl (g.2.1 0, N, .inl f))) (hin : vp_in i N) (hw : ws.set q0 (a, .inl (g.2.1 0, N, .inl (upd f i.toNatClampNeg v))) = ws2) (kk : G x g nL k n ws2 pc2 lv st) : G x g nL k n ws pc lv (.int v :: .int i :: .ref a :: st) := by
  subst e; subst hw
  intro H locs ls hP hD hS h
  exact va_iast hC.1 hC.2.1 hC.2.2.2.2.2.1 hP hD hS q0 0 ha rfl hin hd (fun H1 locs1 hP1 hD1 hS1 => kk H1 locs1 ls hP1 hD1 hS1 h)
theorem g_cast (hC : gC x l cc nL own g fr lo mc ms) {a N : Nat} {f : Nat → Int32} {i v : Int32} {ws2 : va_W} (hd : decode cc pc = .ok (.castore, 1)) (pc2 : Nat) (e : pc + 1 = pc2) (q0 : Nat) (ha : ws[q0]? = some (a, .inl (g.2.1 1, N, .inl f))) (hin : vp_in i N) (hw : ws.set q0 (a, .inl (g.2.1 1, N, .inl (upd f i.toNatClampNeg (vp_nar .char v)))) = ws2) (kk : G x g nL k n ws2 pc2 lv st) : G x g nL k n ws pc lv (.int v :: .int i :: .ref a :: st) := by
  subst e; subst hw
  intro H locs ls hP hD hS h
  exact va_cast hC.1 hC.2.1 hC.2.2.2.2.2.1 hP hD hS q0 1 ha rfl hin hd (fun H1 locs1 hP1 hD1 hS1 => kk H1 locs1 ls hP1 hD1 hS1 h)
theorem g_bast (hC : gC x l cc nL own g fr lo mc ms) {a N : Nat} {f : Nat → Int32} {i v : Int32} {ws2 : va_W} (hd : decode cc pc = .ok (.bastore, 1)) (pc2 : Nat) (e : pc + 1 = pc2) (q0 : Nat) (ha : ws[q0]? = some (a, .inl (g.2.1 2, N, .inl f))) (hin : vp_in i N) (hw : ws.set q0 (a, .inl (g.2.1 2, N, .inl (upd f i.toNatClampNeg (vp_nar .byte v)))) = ws2) (kk : G x g nL k n ws2 pc2 lv st) : G x g nL k n ws pc lv (.int v :: .int i :: .ref a :: st) := by
  subst e; subst hw
  intro H locs ls hP hD hS h
  exact va_bast hC.1 hC.2.1 hC.2.2.2.2.2.1 hP hD hS q0 2 ha rfl hin hd (fun H1 locs1 hP1 hD1 hS1 => kk H1 locs1 ls hP1 hD1 hS1 h)
theorem g_last (hC : gC x l cc nL own g fr lo mc ms) {a N : Nat} {f : Nat → Int64} {i : Int32} {v : Int64} {ws2 : va_W} (hd : decode cc pc = .ok (.lastore, 1)) (pc2 : Nat) (e : pc + 1 = pc2) (q0 : Nat) (ha : ws[q0]? = some (a, .inl (g.2.1 4, N, .inr (.inl f)))) (hin : vp_in i N) (hw : ws.set q0 (a, .inl (g.2.1 4, N, .inr (.inl (vp_updL f i.toNatClampNeg v)))) = ws2) (kk : G x g nL k n ws2 pc2 lv st) : G x g nL k n ws pc lv (.long v :: .int i :: .ref a :: st) := by
  subst e; subst hw
  intro H locs ls hP hD hS h
  exact va_last hC.1 hC.2.1 hC.2.2.2.2.2.1 hP hD hS q0 4 ha rfl hin hd (fun H1 locs1 hP1 hD1 hS1 => kk H1 locs1 ls hP1 hD1 hS1 h)
theorem g_iret (hC : gC x l cc nL own g fr lo mc ms) {wc : va_W} {post : Option Value → va_W → Prop} (hZ : gZ x g (some .int) wc post k n) {v : Int32} (hd : decode cc pc = .ok (.ireturn, 1)) (hp : post (some (.int v)) ws) : G x g nL k n ws pc lv [.int v] := by
  intro H locs ls hP hD hS h
  obtain ⟨z1, z2, z3⟩ := hZ
  unfold gW
  rw [z3]
  exact W.iret hC.1 hC.2.1 z1 (fun t ht hW => ⟨_, ws, rfl, hp, by rw [ht]; exact hP, by rw [← z2]; exact hD, by rw [← z2]; exact hS.F ht⟩) (by rw [← z2]; exact hS.2.2) hd hC.2.2.2.2.2.2.2.1
theorem g_fret (hC : gC x l cc nL own g fr lo mc ms) {wc : va_W} {post : Option Value → va_W → Prop} (hZ : gZ x g (some .float) wc post k n) {v : UInt32} (hd : decode cc pc = .ok (.freturn, 1)) (hp : post (some (.float v)) ws) : G x g nL k n ws pc lv [.float v] := by
  intro H locs ls hP hD hS h
  obtain ⟨z1, z2, z3⟩ := hZ
  unfold gW
  rw [z3]
  exact W.fret hC.1 hC.2.1 z1 (fun t ht hW => ⟨_, ws, rfl, hp, by rw [ht]; exact hP, by rw [← z2]; exact hD, by rw [← z2]; exact hS.F ht⟩) (by rw [← z2]; exact hS.2.2) hd hC.2.2.2.2.2.2.2.1
theorem g_dret (hC : gC x l cc nL own g fr lo mc ms) {wc : va_W} {post : Option Value → va_W → Prop} (hZ : gZ x g (some .double) wc post k n) {v : UInt64} (hd : decode cc pc = .ok (.dreturn, 1)) (hp : post (some (.double v)) ws) : G x g nL k n ws pc lv [.double v] := by
  intro H locs ls hP hD hS h
  obtain ⟨z1, z2, z3⟩ := hZ
  unfold gW
  rw [z3]
  exact W.dret hC.1 hC.2.1 z1 (fun t ht hW => ⟨_, ws, rfl, hp, by rw [ht]; exact hP, by rw [← z2]; exact hD, by rw [← z2]; exact hS.F ht⟩) (by rw [← z2]; exact hS.2.2) hd hC.2.2.2.2.2.2.2.1
theorem g_lret (hC : gC x l cc nL own g fr lo mc ms) {wc : va_W} {post : Option Value → va_W → Prop} (hZ : gZ x g (some .long) wc post k n) {v : Int64} (hd : decode cc pc = .ok (.lreturn, 1)) (hp : post (some (.long v)) ws) : G x g nL k n ws pc lv [.long v] := by
  intro H locs ls hP hD hS h
  obtain ⟨z1, z2, z3⟩ := hZ
  unfold gW
  rw [z3]
  exact W.lret hC.1 hC.2.1 z1 (fun t ht hW => ⟨_, ws, rfl, hp, by rw [ht]; exact hP, by rw [← z2]; exact hD, by rw [← z2]; exact hS.F ht⟩) (by rw [← z2]; exact hS.2.2) hd hC.2.2.2.2.2.2.2.1
theorem g_zret (hC : gC x l cc nL own g fr lo mc ms) {wc : va_W} {ty : FieldType} {post : Option Value → va_W → Prop} (hZ : gZ x g (some ty) wc post k n) {v : Int32} (hn : narrow ty (.int v) = .int v) (hd : decode cc pc = .ok (.ireturn, 1)) (hp : post (some (.int v)) ws) : G x g nL k n ws pc lv [.int v] := by
  intro H locs ls hP hD hS h
  obtain ⟨z1, z2, z3⟩ := hZ
  unfold gW
  rw [z3]
  exact W.zret hC.1 hC.2.1 z1 hn (fun t ht hW => ⟨_, ws, rfl, hp, by rw [ht]; exact hP, by rw [← z2]; exact hD, by rw [← z2]; exact hS.F ht⟩) (by rw [← z2]; exact hS.2.2) hd hC.2.2.2.2.2.2.2.1
theorem g_vret (hC : gC x l cc nL own g fr lo mc ms) {wc : va_W} {post : Option Value → va_W → Prop} (hZ : gZ x g none wc post k n) (hd : decode cc pc = .ok (.return_, 1)) (hp : post none ws) : G x g nL k n ws pc lv [] := by
  intro H locs ls hP hD hS h
  obtain ⟨z1, z2, z3⟩ := hZ
  unfold gW
  rw [z3]
  exact W.vret hC.1 hC.2.1 z1 (fun t ht hW => ⟨_, ws, rfl, hp, by rw [ht]; exact hP, by rw [← z2]; exact hD, by rw [← z2]; exact hS.F ht⟩) (by rw [← z2]; exact hS.2.2) hd hC.2.2.2.2.2.2.2.1
theorem g_aret (hC : gC x l cc nL own g fr lo mc ms) {wc : va_W} {rt : FieldType} {post : Option Value → va_W → Prop} (hZ : gZ x g (some rt) wc post k n) (hrt : (∃ n, rt = .object n) ∨ ∃ t, rt = .array t) {a : Nat} (hd : decode cc pc = .ok (.areturn, 1)) (hp : post (some (.ref a)) ws) : G x g nL k n ws pc lv [.ref a] := by
  intro H locs ls hP hD hS h
  obtain ⟨z1, z2, z3⟩ := hZ
  unfold gW
  rw [z3]
  exact W.aret hC.1 hC.2.1 z1 hrt (Or.inr ⟨a, rfl⟩) (fun t ht hW => ⟨_, ws, rfl, hp, by rw [ht]; exact hP, by rw [← z2]; exact hD, by rw [← z2]; exact hS.F ht⟩) (by rw [← z2]; exact hS.2.2) hd hC.2.2.2.2.2.2.2.1
theorem g_mmin (hC : gC x l cc nL own g fr lo mc ms) {idx : Nat} {a b : Int32} (hd : decode cc pc = .ok (.invokestatic idx, 3)) (pc2 : Nat) (e : pc + 3 = pc2) (hl : Cond.methodLink own idx Lib.Math.min.name ∈ lw_all) (w1 : Cond.static Lib.Math.min.name ∈ lw_all) (w2 : Cond.initialized "java/lang/Math" ∈ lw_all) (w3 : Cond.code Lib.Math.min.name Lib.Math.min.code 2 (some .int) ∈ lw_all) (hR : 1 ≤ fr ∧ 21 ≤ lo ∧ k ≤ mc ∧ n ≤ ms) (hcat : (st.map fun v => v.category).sum ≤ 8) (kk : G x g nL k n ws pc2 lv (.int (if b < a then b else a) :: st)) : G x g nL k n ws pc lv (.int b :: .int a :: st) := by
  subst e
  intro H locs ls hP hD hS h
  have hx := hC.2.2.2.2.2.2.2.2.2.1
  exact va_mmin hC.1 hC.2.1 (by rw [hC.2.2.1, h.1]) hC.2.2.2.1 (hC.2.2.2.2.1 _ hl) (hC.2.2.2.2.1 _ w1) (hC.2.2.2.2.1 _ w2) (hC.2.2.2.2.1 _ w3) (by rw [hx]; exact hR.1) (by rw [hx]; show _ ≤ lo; omega) (by rw [hx]; exact hR.2.2.1) (by rw [hx]; exact hR.2.2.2) hd (kk H locs ls hP hD hS h)
theorem g_mmax (hC : gC x l cc nL own g fr lo mc ms) {idx : Nat} {a b : Int32} (hd : decode cc pc = .ok (.invokestatic idx, 3)) (pc2 : Nat) (e : pc + 3 = pc2) (hl : Cond.methodLink own idx Lib.Math.max.name ∈ lw_all) (w1 : Cond.static Lib.Math.max.name ∈ lw_all) (w2 : Cond.initialized "java/lang/Math" ∈ lw_all) (w3 : Cond.code Lib.Math.max.name Lib.Math.max.code 2 (some .int) ∈ lw_all) (hR : 1 ≤ fr ∧ 21 ≤ lo ∧ k ≤ mc ∧ n ≤ ms) (hcat : (st.map fun v => v.category).sum ≤ 8) (kk : G x g nL k n ws pc2 lv (.int (if a < b then b else a) :: st)) : G x g nL k n ws pc lv (.int b :: .int a :: st) := by
  subst e
  intro H locs ls hP hD hS h
  have hx := hC.2.2.2.2.2.2.2.2.2.1
  exact va_mmax hC.1 hC.2.1 (by rw [hC.2.2.1, h.1]) hC.2.2.2.1 (hC.2.2.2.2.1 _ hl) (hC.2.2.2.2.1 _ w1) (hC.2.2.2.2.1 _ w2) (hC.2.2.2.2.1 _ w3) (by rw [hx]; exact hR.1) (by rw [hx]; show _ ≤ lo; omega) (by rw [hx]; exact hR.2.2.1) (by rw [hx]; exact hR.2.2.2) hd (kk H locs ls hP hD hS h)
end GROWS
