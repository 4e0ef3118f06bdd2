/-! ===== the instructions, one by one ===== -/
section MHI
variable {α : Type} {w : α → List Value} {l : Launch} {E : En} {M : Mi} {c0 s0 : Nat} {pc : Nat} {lv : List (Nat × Value)} {st : List Value} {m : Mm} {o : Prop} {r : α × Mm × Prop}
theorem imL_at {k i : Nat} {v : Value} (h : lv[k]? = some (i, v)) : (lv.map (imL E))[k]? = some (i, im E v) := by rw [List.getElem?_map, h]; rfl
theorem Mh_iconst {n : Int} {v : Int32} (hd : decode (mB M) pc = .ok (.iconst n, 1)) (hv : Int32.ofInt n = v) (K : Mh w l E M c0 s0 (pc + 1) lv (.int v :: st) m o r) : Mh w l E M c0 s0 pc lv (st) m o r :=
  Mh_go id (fun _ p e R s md args below meth c Q H locs ls cells slots hC hR hS hl k => lv_iconst hC.1 hC.2.1 hd hv (k ls hl)) K
theorem Mh_bipush {n : Int} {v : Int32} (hd : decode (mB M) pc = .ok (.bipush n, 2)) (hv : (Int8.ofInt n).toInt32 = v) (K : Mh w l E M c0 s0 (pc + 2) lv (.int v :: st) m o r) : Mh w l E M c0 s0 pc lv (st) m o r :=
  Mh_go id (fun _ p e R s md args below meth c Q H locs ls cells slots hC hR hS hl k => lv_bipush hC.1 hC.2.1 hd hv (k ls hl)) K
theorem Mh_sipush {n : Int} {v : Int32} (hd : decode (mB M) pc = .ok (.sipush n, 3)) (hv : (Int16.ofInt n).toInt32 = v) (K : Mh w l E M c0 s0 (pc + 3) lv (.int v :: st) m o r) : Mh w l E M c0 s0 pc lv (st) m o r :=
  Mh_go id (fun _ p e R s md args below meth c Q H locs ls cells slots hC hR hS hl k => lv_sipush hC.1 hC.2.1 hd hv (k ls hl)) K
theorem Mh_lconst {n : Fin 2} {v : Int64} (hd : decode (mB M) pc = .ok (.lconst n, 1)) (hv : Int64.ofNat (n : Nat) = v) (K : Mh w l E M c0 s0 (pc + 1) lv (.long v :: st) m o r) : Mh w l E M c0 s0 pc lv (st) m o r :=
  Mh_go id (fun _ p e R s md args below meth c Q H locs ls cells slots hC hR hS hl k => lv_lconst hC.1 hC.2.1 hd hv (k ls hl)) K
theorem Mh_ldc {idx : Nat} {v : Int32} (hg : Cond.constant (mO M) idx v ∈ GT) (hd : decode (mB M) pc = .ok (.ldc idx, 2)) (K : Mh w l E M c0 s0 (pc + 2) lv (.int v :: st) m o r) : Mh w l E M c0 s0 pc lv (st) m o r :=
  Mh_go id (fun _ p e R s md args below meth c Q H locs ls cells slots hC hR hS hl k => lv_ldc hC.1 hC.2.1 hC.2.2.2.1 (hC.2.2.2.2.1 _ hg) hd (k ls hl)) K
theorem Mh_ldcw {idx : Nat} {v : Int32} (hg : Cond.constant (mO M) idx v ∈ GT) (hd : decode (mB M) pc = .ok (.ldc_w idx, 3)) (K : Mh w l E M c0 s0 (pc + 3) lv (.int v :: st) m o r) : Mh w l E M c0 s0 pc lv (st) m o r :=
  Mh_go id (fun _ p e R s md args below meth c Q H locs ls cells slots hC hR hS hl k => lv_ldcw hC.1 hC.2.1 hC.2.2.2.1 (hC.2.2.2.2.1 _ hg) hd (k ls hl)) K
theorem Mh_ldc2 {idx : Nat} {v : Int64} (hg : Cond.constantLong (mO M) idx v ∈ GT) (hd : decode (mB M) pc = .ok (.ldc2_w idx, 3)) (K : Mh w l E M c0 s0 (pc + 3) lv (.long v :: st) m o r) : Mh w l E M c0 s0 pc lv (st) m o r :=
  Mh_go id (fun _ p e R s md args below meth c Q H locs ls cells slots hC hR hS hl k => lv_ldc2 hC.1 hC.2.1 hC.2.2.2.1 (hC.2.2.2.2.1 _ hg) hd (k ls hl)) K
theorem Mh_iload {i : Nat} {x : Int32} (j : Nat) (hj : lv[j]? = some (i, .int x)) (hd : decode (mB M) pc = .ok (.iload i, 2)) (K : Mh w l E M c0 s0 (pc + 2) lv (.int x :: st) m o r) : Mh w l E M c0 s0 pc lv (st) m o r :=
  Mh_go id (fun _ p e R s md args below meth c Q H locs ls cells slots hC hR hS hl k => lv_iload hC.1 hC.2.1 hd (lv_at hl j (imL_at hj)) (k ls hl)) K
theorem Mh_iload_n {i : Fin 4} {x : Int32} (j : Nat) (hj : lv[j]? = some ((i : Nat), .int x)) (hd : decode (mB M) pc = .ok (.iload_n i, 1)) (K : Mh w l E M c0 s0 (pc + 1) lv (.int x :: st) m o r) : Mh w l E M c0 s0 pc lv (st) m o r :=
  Mh_go id (fun _ p e R s md args below meth c Q H locs ls cells slots hC hR hS hl k => lv_iload_n hC.1 hC.2.1 hd rfl (lv_at hl j (imL_at hj)) (k ls hl)) K
theorem Mh_lload {i : Nat} {x : Int64} (j : Nat) (hj : lv[j]? = some (i, .long x)) (hd : decode (mB M) pc = .ok (.lload i, 2)) (K : Mh w l E M c0 s0 (pc + 2) lv (.long x :: st) m o r) : Mh w l E M c0 s0 pc lv (st) m o r :=
  Mh_go id (fun _ p e R s md args below meth c Q H locs ls cells slots hC hR hS hl k => lv_lload hC.1 hC.2.1 hd (lv_at hl j (imL_at hj)) (k ls hl)) K
theorem Mh_lload_n {i : Fin 4} {x : Int64} (j : Nat) (hj : lv[j]? = some ((i : Nat), .long x)) (hd : decode (mB M) pc = .ok (.lload_n i, 1)) (K : Mh w l E M c0 s0 (pc + 1) lv (.long x :: st) m o r) : Mh w l E M c0 s0 pc lv (st) m o r :=
  Mh_go id (fun _ p e R s md args below meth c Q H locs ls cells slots hC hR hS hl k => lv_lload_n hC.1 hC.2.1 hd rfl (lv_at hl j (imL_at hj)) (k ls hl)) K
theorem Mh_aload {i x : Nat} (j : Nat) (hj : lv[j]? = some (i, .ref x)) (hd : decode (mB M) pc = .ok (.aload i, 2)) (K : Mh w l E M c0 s0 (pc + 2) lv (.ref x :: st) m o r) : Mh w l E M c0 s0 pc lv (st) m o r :=
  Mh_go id (fun _ p e R s md args below meth c Q H locs ls cells slots hC hR hS hl k => lv_aload hC.1 hC.2.1 hd (lv_at hl j (imL_at hj)) (k ls hl)) K
theorem Mh_aload_n {i : Fin 4} {x : Nat} (j : Nat) (hj : lv[j]? = some ((i : Nat), .ref x)) (hd : decode (mB M) pc = .ok (.aload_n i, 1)) (K : Mh w l E M c0 s0 (pc + 1) lv (.ref x :: st) m o r) : Mh w l E M c0 s0 pc lv (st) m o r :=
  Mh_go id (fun _ p e R s md args below meth c Q H locs ls cells slots hC hR hS hl k => lv_aload_n hC.1 hC.2.1 hd rfl (lv_at hl j (imL_at hj)) (k ls hl)) K
def dr1 (i : Nat) (v : Value) (lv : List (Nat × Value)) : List (Nat × Value) := (i, v) :: lv.filter (fun q => !(q.1 == i) && !(q.1 + 1 == i && q.2.category == 2))
def dr2 (i : Nat) (v : Value) (lv : List (Nat × Value)) : List (Nat × Value) := (i, v) :: lv.filter (fun q => !(q.1 == i) && (!(q.1 == i + 1) && !(q.1 + 1 == i && q.2.category == 2)))
theorem im_cat (v : Value) : (im E v).category = v.category := by cases v <;> rfl
theorem dr1_im (i : Nat) (v : Value) : (i, im E v) :: (lv.map (imL E)).filter (fun q => !(q.1 == i) && !(q.1 + 1 == i && q.2.category == 2)) = (dr1 i v lv).map (imL E) := by
  unfold dr1; rw [List.map_cons, List.filter_map]; congr 2; apply List.filter_congr; intro q _; simp only [Function.comp, imL, im_cat]
theorem dr2_im (i : Nat) (v : Value) : (i, im E v) :: (lv.map (imL E)).filter (fun q => !(q.1 == i) && (!(q.1 == i + 1) && !(q.1 + 1 == i && q.2.category == 2))) = (dr2 i v lv).map (imL E) := by
  unfold dr2; rw [List.map_cons, List.filter_map]; congr 2; apply List.filter_congr; intro q _; simp only [Function.comp, imL, im_cat]
theorem Mh_istore {i : Nat} {x : Int32} {lv' : List (Nat × Value)} (hd : decode (mB M) pc = .ok (.istore i, 2)) (hn : i < mN M) (hl' : dr1 i (.int x) lv = lv') (K : Mh w l E M c0 s0 (pc + 2) lv' st m o r) : Mh w l E M c0 s0 pc lv (.int x :: st) m o r :=
  Mh_go id (fun _ p e R s md args below meth c Q H locs ls cells slots hC hR hS hl k => lv_istore hC.1 hC.2.1 hd hl hn (dr1_im i (.int x)) (fun ls' h' => k ls' (hl' ▸ h'))) K
theorem Mh_istore_n {i : Fin 4} {x : Int32} {lv' : List (Nat × Value)} (hd : decode (mB M) pc = .ok (.istore_n i, 1)) (hn : (i : Nat) < mN M) (hl' : dr1 (i : Nat) (.int x) lv = lv') (K : Mh w l E M c0 s0 (pc + 1) lv' st m o r) : Mh w l E M c0 s0 pc lv (.int x :: st) m o r :=
  Mh_go id (fun _ p e R s md args below meth c Q H locs ls cells slots hC hR hS hl k => lv_istore_n hC.1 hC.2.1 hd rfl hl hn (dr1_im (i : Nat) (.int x)) (fun ls' h' => k ls' (hl' ▸ h'))) K
theorem Mh_lstore {i : Nat} {x : Int64} {lv' : List (Nat × Value)} (hd : decode (mB M) pc = .ok (.lstore i, 2)) (hn : i + 1 < mN M) (hl' : dr2 i (.long x) lv = lv') (K : Mh w l E M c0 s0 (pc + 2) lv' st m o r) : Mh w l E M c0 s0 pc lv (.long x :: st) m o r :=
  Mh_go id (fun _ p e R s md args below meth c Q H locs ls cells slots hC hR hS hl k => lv_lstore hC.1 hC.2.1 hd hl hn (dr2_im i (.long x)) (fun ls' h' => k ls' (hl' ▸ h'))) K
theorem Mh_lstore_n {i : Fin 4} {x : Int64} {lv' : List (Nat × Value)} (hd : decode (mB M) pc = .ok (.lstore_n i, 1)) (hn : (i : Nat) + 1 < mN M) (hl' : dr2 (i : Nat) (.long x) lv = lv') (K : Mh w l E M c0 s0 (pc + 1) lv' st m o r) : Mh w l E M c0 s0 pc lv (.long x :: st) m o r :=
  Mh_go id (fun _ p e R s md args below meth c Q H locs ls cells slots hC hR hS hl k => lv_lstore_n hC.1 hC.2.1 hd rfl hl hn (dr2_im (i : Nat) (.long x)) (fun ls' h' => k ls' (hl' ▸ h'))) K
theorem Mh_astore {i : Nat} {x : Nat} {lv' : List (Nat × Value)} (hd : decode (mB M) pc = .ok (.astore i, 2)) (hn : i < mN M) (hl' : dr1 i (.ref x) lv = lv') (K : Mh w l E M c0 s0 (pc + 2) lv' st m o r) : Mh w l E M c0 s0 pc lv (.ref x :: st) m o r :=
  Mh_go id (fun _ p e R s md args below meth c Q H locs ls cells slots hC hR hS hl k => lv_astore hC.1 hC.2.1 hd hl hn (dr1_im i (.ref x)) (fun ls' h' => k ls' (hl' ▸ h'))) K
theorem Mh_astore_n {i : Fin 4} {x : Nat} {lv' : List (Nat × Value)} (hd : decode (mB M) pc = .ok (.astore_n i, 1)) (hn : (i : Nat) < mN M) (hl' : dr1 (i : Nat) (.ref x) lv = lv') (K : Mh w l E M c0 s0 (pc + 1) lv' st m o r) : Mh w l E M c0 s0 pc lv (.ref x :: st) m o r :=
  Mh_go id (fun _ p e R s md args below meth c Q H locs ls cells slots hC hR hS hl k => lv_astore_n hC.1 hC.2.1 hd rfl hl hn (dr1_im (i : Nat) (.ref x)) (fun ls' h' => k ls' (hl' ▸ h'))) K
theorem Mh_iinc {i : Nat} {n : Int} {x v : Int32} {lv' : List (Nat × Value)} (j : Nat) (hd : decode (mB M) pc = .ok (.iinc i n, 3)) (hj : lv[j]? = some (i, .int x)) (hv : x + Int32.ofInt n = v) (hn : i < mN M) (hl' : dr1 i (.int v) lv = lv') (K : Mh w l E M c0 s0 (pc + 3) lv' st m o r) : Mh w l E M c0 s0 pc lv st m o r :=
  Mh_go id (fun _ p e R s md args below meth c Q H locs ls cells slots hC hR hS hl k => lv_iinc hC.1 hC.2.1 hd hl (imL_at hj) hv hn (dr1_im i (.int v)) (fun ls' h' => k ls' (hl' ▸ h'))) K
theorem Mh_iadd {x y : Int32} (hd : decode (mB M) pc = .ok (.iadd, 1)) (K : Mh w l E M c0 s0 (pc + 1) lv (.int (x + y) :: st) m o r) : Mh w l E M c0 s0 pc lv (.int y :: .int x :: st) m o r :=
  Mh_go id (fun _ p e R s md args below meth c Q H locs ls cells slots hC hR hS hl k => lv_iadd hC.1 hC.2.1 hd (k ls hl)) K
theorem Mh_isub {x y : Int32} (hd : decode (mB M) pc = .ok (.isub, 1)) (K : Mh w l E M c0 s0 (pc + 1) lv (.int (x - y) :: st) m o r) : Mh w l E M c0 s0 pc lv (.int y :: .int x :: st) m o r :=
  Mh_go id (fun _ p e R s md args below meth c Q H locs ls cells slots hC hR hS hl k => lv_isub hC.1 hC.2.1 hd (k ls hl)) K
theorem Mh_imul {x y : Int32} (hd : decode (mB M) pc = .ok (.imul, 1)) (K : Mh w l E M c0 s0 (pc + 1) lv (.int (x * y) :: st) m o r) : Mh w l E M c0 s0 pc lv (.int y :: .int x :: st) m o r :=
  Mh_go id (fun _ p e R s md args below meth c Q H locs ls cells slots hC hR hS hl k => lv_imul hC.1 hC.2.1 hd (k ls hl)) K
theorem Mh_iand {x y : Int32} (hd : decode (mB M) pc = .ok (.iand, 1)) (K : Mh w l E M c0 s0 (pc + 1) lv (.int (x &&& y) :: st) m o r) : Mh w l E M c0 s0 pc lv (.int y :: .int x :: st) m o r :=
  Mh_go id (fun _ p e R s md args below meth c Q H locs ls cells slots hC hR hS hl k => lv_iand hC.1 hC.2.1 hd (k ls hl)) K
theorem Mh_ior {x y : Int32} (hd : decode (mB M) pc = .ok (.ior, 1)) (K : Mh w l E M c0 s0 (pc + 1) lv (.int (x ||| y) :: st) m o r) : Mh w l E M c0 s0 pc lv (.int y :: .int x :: st) m o r :=
  Mh_go id (fun _ p e R s md args below meth c Q H locs ls cells slots hC hR hS hl k => lv_ior hC.1 hC.2.1 hd (k ls hl)) K
theorem Mh_ixor {x y : Int32} (hd : decode (mB M) pc = .ok (.ixor, 1)) (K : Mh w l E M c0 s0 (pc + 1) lv (.int (x ^^^ y) :: st) m o r) : Mh w l E M c0 s0 pc lv (.int y :: .int x :: st) m o r :=
  Mh_go id (fun _ p e R s md args below meth c Q H locs ls cells slots hC hR hS hl k => lv_ixor hC.1 hC.2.1 hd (k ls hl)) K
theorem Mh_ishl {x y : Int32} (hd : decode (mB M) pc = .ok (.ishl, 1)) (K : Mh w l E M c0 s0 (pc + 1) lv (.int (x <<< (y &&& 31)) :: st) m o r) : Mh w l E M c0 s0 pc lv (.int y :: .int x :: st) m o r :=
  Mh_go id (fun _ p e R s md args below meth c Q H locs ls cells slots hC hR hS hl k => lv_ishl hC.1 hC.2.1 hd (k ls hl)) K
theorem Mh_ishr {x y : Int32} (hd : decode (mB M) pc = .ok (.ishr, 1)) (K : Mh w l E M c0 s0 (pc + 1) lv (.int (x >>> (y &&& 31)) :: st) m o r) : Mh w l E M c0 s0 pc lv (.int y :: .int x :: st) m o r :=
  Mh_go id (fun _ p e R s md args below meth c Q H locs ls cells slots hC hR hS hl k => lv_ishr hC.1 hC.2.1 hd (k ls hl)) K
theorem Mh_idiv {x y : Int32} (hd : decode (mB M) pc = .ok (.idiv, 1)) (K : Mh w l E M c0 s0 (pc + 1) lv (.int (x / y) :: st) m (o ∧ ¬ y = 0) r) : Mh w l E M c0 s0 pc lv (.int y :: .int x :: st) m o r :=
  Mh_go And.left (fun ho p e R s md args below meth c Q H locs ls cells slots hC hR hS hl k => lv_idiv hC.1 hC.2.1 hd ho.2 (k ls hl)) K
theorem Mh_irem {x y : Int32} (hd : decode (mB M) pc = .ok (.irem, 1)) (K : Mh w l E M c0 s0 (pc + 1) lv (.int (x - x / y * y) :: st) m (o ∧ ¬ y = 0) r) : Mh w l E M c0 s0 pc lv (.int y :: .int x :: st) m o r :=
  Mh_go And.left (fun ho p e R s md args below meth c Q H locs ls cells slots hC hR hS hl k => lv_irem hC.1 hC.2.1 hd ho.2 (k ls hl)) K
theorem Mh_ladd {x y : Int64} (hd : decode (mB M) pc = .ok (.ladd, 1)) (K : Mh w l E M c0 s0 (pc + 1) lv (.long (x + y) :: st) m o r) : Mh w l E M c0 s0 pc lv (.long y :: .long x :: st) m o r :=
  Mh_go id (fun _ p e R s md args below meth c Q H locs ls cells slots hC hR hS hl k => lv_ladd hC.1 hC.2.1 hd (k ls hl)) K
theorem Mh_lsub {x y : Int64} (hd : decode (mB M) pc = .ok (.lsub, 1)) (K : Mh w l E M c0 s0 (pc + 1) lv (.long (x - y) :: st) m o r) : Mh w l E M c0 s0 pc lv (.long y :: .long x :: st) m o r :=
  Mh_go id (fun _ p e R s md args below meth c Q H locs ls cells slots hC hR hS hl k => lv_lsub hC.1 hC.2.1 hd (k ls hl)) K
theorem Mh_lmul {x y : Int64} (hd : decode (mB M) pc = .ok (.lmul, 1)) (K : Mh w l E M c0 s0 (pc + 1) lv (.long (x * y) :: st) m o r) : Mh w l E M c0 s0 pc lv (.long y :: .long x :: st) m o r :=
  Mh_go id (fun _ p e R s md args below meth c Q H locs ls cells slots hC hR hS hl k => lv_lmul hC.1 hC.2.1 hd (k ls hl)) K
theorem Mh_ldiv {x y : Int64} (hd : decode (mB M) pc = .ok (.ldiv, 1)) (K : Mh w l E M c0 s0 (pc + 1) lv (.long (x / y) :: st) m (o ∧ ¬ y = 0) r) : Mh w l E M c0 s0 pc lv (.long y :: .long x :: st) m o r :=
  Mh_go And.left (fun ho p e R s md args below meth c Q H locs ls cells slots hC hR hS hl k => lv_ldiv hC.1 hC.2.1 hd ho.2 (k ls hl)) K
theorem Mh_lrem {x y : Int64} (hd : decode (mB M) pc = .ok (.lrem, 1)) (K : Mh w l E M c0 s0 (pc + 1) lv (.long (x - x / y * y) :: st) m (o ∧ ¬ y = 0) r) : Mh w l E M c0 s0 pc lv (.long y :: .long x :: st) m o r :=
  Mh_go And.left (fun ho p e R s md args below meth c Q H locs ls cells slots hC hR hS hl k => lv_lrem hC.1 hC.2.1 hd ho.2 (k ls hl)) K
theorem Mh_ineg {x : Int32} (hd : decode (mB M) pc = .ok (.ineg, 1)) (K : Mh w l E M c0 s0 (pc + 1) lv (.int (-x) :: st) m o r) : Mh w l E M c0 s0 pc lv (.int x :: st) m o r :=
  Mh_go id (fun _ p e R s md args below meth c Q H locs ls cells slots hC hR hS hl k => lv_ineg hC.1 hC.2.1 hd (k ls hl)) K
theorem Mh_iushr {x y : Int32} (hd : decode (mB M) pc = .ok (.iushr, 1)) (K : Mh w l E M c0 s0 (pc + 1) lv (.int (x.toUInt32 >>> (y.toUInt32 &&& Int32.toUInt32 31)).toInt32 :: st) m o r) : Mh w l E M c0 s0 pc lv (.int y :: .int x :: st) m o r :=
  Mh_go id (fun _ p e R s md args below meth c Q H locs ls cells slots hC hR hS hl k => lv_iushr hC.1 hC.2.1 hd rfl (k ls hl)) K
theorem Mh_i2l {x : Int32} (hd : decode (mB M) pc = .ok (.i2l, 1)) (K : Mh w l E M c0 s0 (pc + 1) lv (.long x.toInt64 :: st) m o r) : Mh w l E M c0 s0 pc lv (.int x :: st) m o r :=
  Mh_go id (fun _ p e R s md args below meth c Q H locs ls cells slots hC hR hS hl k => lv_i2l hC.1 hC.2.1 hd rfl (k ls hl)) K
theorem Mh_l2i {x : Int64} (hd : decode (mB M) pc = .ok (.l2i, 1)) (K : Mh w l E M c0 s0 (pc + 1) lv (.int x.toInt32 :: st) m o r) : Mh w l E M c0 s0 pc lv (.long x :: st) m o r :=
  Mh_go id (fun _ p e R s md args below meth c Q H locs ls cells slots hC hR hS hl k => lv_l2i hC.1 hC.2.1 hd rfl (k ls hl)) K
theorem Mh_i2b {x : Int32} (hd : decode (mB M) pc = .ok (.i2b, 1)) (K : Mh w l E M c0 s0 (pc + 1) lv (.int x.toInt8.toInt32 :: st) m o r) : Mh w l E M c0 s0 pc lv (.int x :: st) m o r :=
  Mh_go id (fun _ p e R s md args below meth c Q H locs ls cells slots hC hR hS hl k => lv_i2b hC.1 hC.2.1 hd rfl (k ls hl)) K
theorem Mh_i2c {x : Int32} (hd : decode (mB M) pc = .ok (.i2c, 1)) (K : Mh w l E M c0 s0 (pc + 1) lv (.int (x.toUInt32 % 65536).toInt32 :: st) m o r) : Mh w l E M c0 s0 pc lv (.int x :: st) m o r :=
  Mh_go id (fun _ p e R s md args below meth c Q H locs ls cells slots hC hR hS hl k => lv_i2c hC.1 hC.2.1 hd rfl (k ls hl)) K
theorem Mh_lcmp {x y : Int64} (hd : decode (mB M) pc = .ok (.lcmp, 1)) (K : Mh w l E M c0 s0 (pc + 1) lv (.int (lg_cmp x y) :: st) m o r) : Mh w l E M c0 s0 pc lv (.long y :: .long x :: st) m o r :=
  Mh_go id (fun _ p e R s md args below meth c Q H locs ls cells slots hC hR hS hl k => W.lcmp hC.1 hC.2.1 hd (k ls hl)) K
theorem Mh_dup {v : Value} (hd : decode (mB M) pc = .ok (.dup, 1)) (hv : v.category = 1) (K : Mh w l E M c0 s0 (pc + 1) lv (v :: v :: st) m o r) : Mh w l E M c0 s0 pc lv (v :: st) m o r :=
  Mh_go id (fun _ p e R s md args below meth c Q H locs ls cells slots hC hR hS hl k => lv_dup hC.1 hC.2.1 hd ((im_cat v).trans hv) (k ls hl)) K
theorem Mh_pop {v : Value} (hd : decode (mB M) pc = .ok (.pop, 1)) (hv : v.category = 1) (K : Mh w l E M c0 s0 (pc + 1) lv (st) m o r) : Mh w l E M c0 s0 pc lv (v :: st) m o r :=
  Mh_go id (fun _ p e R s md args below meth c Q H locs ls cells slots hC hR hS hl k => lv_pop hC.1 hC.2.1 hd ((im_cat v).trans hv) (k ls hl)) K
theorem Mh_dup2 {v u : Value} (hd : decode (mB M) pc = .ok (.dup2, 1)) (hv : v.category = 1) (hu : u.category = 1) (K : Mh w l E M c0 s0 (pc + 1) lv (v :: u :: v :: u :: st) m o r) : Mh w l E M c0 s0 pc lv (v :: u :: st) m o r :=
  Mh_go id (fun _ p e R s md args below meth c Q H locs ls cells slots hC hR hS hl k => lv_dup2_11 hC.1 hC.2.1 hd ((im_cat v).trans hv) ((im_cat u).trans hu) (k ls hl)) K
theorem Mh_goto {off : Int} {tgt : Nat} (hd : decode (mB M) pc = .ok (.goto off, 3)) (ht : (pc : Int) + off = (tgt : Int)) (K : Mh w l E M c0 s0 tgt lv st m o r) : Mh w l E M c0 s0 pc lv st m o r :=
  Mh_go id (fun _ p e R s md args below meth c Q H locs ls cells slots hC hR hS hl k => lv_goto hC.1 hC.2.1 hd ht (k ls hl)) K
theorem Mh_if_eq {x : Int32} {off : Int} {tgt : Nat} {r1 r2 : α × Mm × Prop} (hd : decode (mB M) pc = .ok (.ifCond .eq off, 3)) (ht : (pc : Int) + off = (tgt : Int)) (hr : r = if x = 0 then r1 else r2) (K1 : x = 0 → Mh w l E M c0 s0 tgt lv st m o r1) (K2 : ¬ (x = 0) → Mh w l E M c0 s0 (pc + 3) lv st m o r2) : Mh w l E M c0 s0 pc lv (.int x :: st) m o r :=
  Mh_br (fun p e R s md args below meth c Q H locs ls cells slots hC k1 k2 => lv_if_eq hC.1 hC.2.1 hd ht k1 k2) hr K1 K2
theorem Mh_icmp_eq {x y : Int32} {off : Int} {tgt : Nat} {r1 r2 : α × Mm × Prop} (hd : decode (mB M) pc = .ok (.if_icmp .eq off, 3)) (ht : (pc : Int) + off = (tgt : Int)) (hr : r = if x = y then r1 else r2) (K1 : x = y → Mh w l E M c0 s0 tgt lv st m o r1) (K2 : ¬ (x = y) → Mh w l E M c0 s0 (pc + 3) lv st m o r2) : Mh w l E M c0 s0 pc lv (.int y :: .int x :: st) m o r :=
  Mh_br (fun p e R s md args below meth c Q H locs ls cells slots hC k1 k2 => lv_icmp_eq hC.1 hC.2.1 hd ht k1 k2) hr K1 K2
theorem Mh_if_ne {x : Int32} {off : Int} {tgt : Nat} {r1 r2 : α × Mm × Prop} (hd : decode (mB M) pc = .ok (.ifCond .ne off, 3)) (ht : (pc : Int) + off = (tgt : Int)) (hr : r = if x = 0 then r2 else r1) (K1 : ¬ x = 0 → Mh w l E M c0 s0 tgt lv st m o r1) (K2 : x = 0 → Mh w l E M c0 s0 (pc + 3) lv st m o r2) : Mh w l E M c0 s0 pc lv (.int x :: st) m o r :=
  Mh_br (fun p e R s md args below meth c Q H locs ls cells slots hC k1 k2 => lv_if_ne hC.1 hC.2.1 hd ht k2 k1) hr K2 K1
theorem Mh_icmp_ne {x y : Int32} {off : Int} {tgt : Nat} {r1 r2 : α × Mm × Prop} (hd : decode (mB M) pc = .ok (.if_icmp .ne off, 3)) (ht : (pc : Int) + off = (tgt : Int)) (hr : r = if x = y then r2 else r1) (K1 : ¬ x = y → Mh w l E M c0 s0 tgt lv st m o r1) (K2 : x = y → Mh w l E M c0 s0 (pc + 3) lv st m o r2) : Mh w l E M c0 s0 pc lv (.int y :: .int x :: st) m o r :=
  Mh_br (fun p e R s md args below meth c Q H locs ls cells slots hC k1 k2 => lv_icmp_ne hC.1 hC.2.1 hd ht k2 k1) hr K2 K1
theorem Mh_if_lt {x : Int32} {off : Int} {tgt : Nat} {r1 r2 : α × Mm × Prop} (hd : decode (mB M) pc = .ok (.ifCond .lt off, 3)) (ht : (pc : Int) + off = (tgt : Int)) (hr : r = if x < 0 then r1 else r2) (K1 : x < 0 → Mh w l E M c0 s0 tgt lv st m o r1) (K2 : ¬ (x < 0) → Mh w l E M c0 s0 (pc + 3) lv st m o r2) : Mh w l E M c0 s0 pc lv (.int x :: st) m o r :=
  Mh_br (fun p e R s md args below meth c Q H locs ls cells slots hC k1 k2 => lv_if_lt hC.1 hC.2.1 hd ht k1 k2) hr K1 K2
theorem Mh_icmp_lt {x y : Int32} {off : Int} {tgt : Nat} {r1 r2 : α × Mm × Prop} (hd : decode (mB M) pc = .ok (.if_icmp .lt off, 3)) (ht : (pc : Int) + off = (tgt : Int)) (hr : r = if x < y then r1 else r2) (K1 : x < y → Mh w l E M c0 s0 tgt lv st m o r1) (K2 : ¬ (x < y) → Mh w l E M c0 s0 (pc + 3) lv st m o r2) : Mh w l E M c0 s0 pc lv (.int y :: .int x :: st) m o r :=
  Mh_br (fun p e R s md args below meth c Q H locs ls cells slots hC k1 k2 => lv_icmp_lt hC.1 hC.2.1 hd ht k1 k2) hr K1 K2
theorem Mh_if_ge {x : Int32} {off : Int} {tgt : Nat} {r1 r2 : α × Mm × Prop} (hd : decode (mB M) pc = .ok (.ifCond .ge off, 3)) (ht : (pc : Int) + off = (tgt : Int)) (hr : r = if 0 ≤ x then r1 else r2) (K1 : 0 ≤ x → Mh w l E M c0 s0 tgt lv st m o r1) (K2 : ¬ (0 ≤ x) → Mh w l E M c0 s0 (pc + 3) lv st m o r2) : Mh w l E M c0 s0 pc lv (.int x :: st) m o r :=
  Mh_br (fun p e R s md args below meth c Q H locs ls cells slots hC k1 k2 => lv_if_ge hC.1 hC.2.1 hd ht k1 k2) hr K1 K2
theorem Mh_icmp_ge {x y : Int32} {off : Int} {tgt : Nat} {r1 r2 : α × Mm × Prop} (hd : decode (mB M) pc = .ok (.if_icmp .ge off, 3)) (ht : (pc : Int) + off = (tgt : Int)) (hr : r = if y ≤ x then r1 else r2) (K1 : y ≤ x → Mh w l E M c0 s0 tgt lv st m o r1) (K2 : ¬ (y ≤ x) → Mh w l E M c0 s0 (pc + 3) lv st m o r2) : Mh w l E M c0 s0 pc lv (.int y :: .int x :: st) m o r :=
  Mh_br (fun p e R s md args below meth c Q H locs ls cells slots hC k1 k2 => lv_icmp_ge hC.1 hC.2.1 hd ht k1 k2) hr K1 K2
theorem Mh_if_gt {x : Int32} {off : Int} {tgt : Nat} {r1 r2 : α × Mm × Prop} (hd : decode (mB M) pc = .ok (.ifCond .gt off, 3)) (ht : (pc : Int) + off = (tgt : Int)) (hr : r = if 0 < x then r1 else r2) (K1 : 0 < x → Mh w l E M c0 s0 tgt lv st m o r1) (K2 : ¬ (0 < x) → Mh w l E M c0 s0 (pc + 3) lv st m o r2) : Mh w l E M c0 s0 pc lv (.int x :: st) m o r :=
  Mh_br (fun p e R s md args below meth c Q H locs ls cells slots hC k1 k2 => lv_if_gt hC.1 hC.2.1 hd ht k1 k2) hr K1 K2
theorem Mh_icmp_gt {x y : Int32} {off : Int} {tgt : Nat} {r1 r2 : α × Mm × Prop} (hd : decode (mB M) pc = .ok (.if_icmp .gt off, 3)) (ht : (pc : Int) + off = (tgt : Int)) (hr : r = if y < x then r1 else r2) (K1 : y < x → Mh w l E M c0 s0 tgt lv st m o r1) (K2 : ¬ (y < x) → Mh w l E M c0 s0 (pc + 3) lv st m o r2) : Mh w l E M c0 s0 pc lv (.int y :: .int x :: st) m o r :=
  Mh_br (fun p e R s md args below meth c Q H locs ls cells slots hC k1 k2 => lv_icmp_gt hC.1 hC.2.1 hd ht k1 k2) hr K1 K2
theorem Mh_if_le {x : Int32} {off : Int} {tgt : Nat} {r1 r2 : α × Mm × Prop} (hd : decode (mB M) pc = .ok (.ifCond .le off, 3)) (ht : (pc : Int) + off = (tgt : Int)) (hr : r = if x ≤ 0 then r1 else r2) (K1 : x ≤ 0 → Mh w l E M c0 s0 tgt lv st m o r1) (K2 : ¬ (x ≤ 0) → Mh w l E M c0 s0 (pc + 3) lv st m o r2) : Mh w l E M c0 s0 pc lv (.int x :: st) m o r :=
  Mh_br (fun p e R s md args below meth c Q H locs ls cells slots hC k1 k2 => lv_if_le hC.1 hC.2.1 hd ht k1 k2) hr K1 K2
theorem Mh_icmp_le {x y : Int32} {off : Int} {tgt : Nat} {r1 r2 : α × Mm × Prop} (hd : decode (mB M) pc = .ok (.if_icmp .le off, 3)) (ht : (pc : Int) + off = (tgt : Int)) (hr : r = if x ≤ y then r1 else r2) (K1 : x ≤ y → Mh w l E M c0 s0 tgt lv st m o r1) (K2 : ¬ (x ≤ y) → Mh w l E M c0 s0 (pc + 3) lv st m o r2) : Mh w l E M c0 s0 pc lv (.int y :: .int x :: st) m o r :=
  Mh_br (fun p e R s md args below meth c Q H locs ls cells slots hC k1 k2 => lv_icmp_le hC.1 hC.2.1 hd ht k1 k2) hr K1 K2
end MHI
