/-! ===== Math's own, switches, the String constant ===== -/
section MHR
variable {α : Type} {w : α → List Value} {l : Launch} {E : En} {M : Mi} {c0 s0 : Nat} {pc : Nat} {lv : List (Nat × Value)} {st : List Value} {m : Mm} {o : Prop} {r : α × Mm × Prop}
/-- as Mh_go, where the room is asked -/
theorem Mh_gob {pc' : Nat} {st' : List Value}
    (hW : ∀ (p : Program) (e : Env) (R : Room) (s : State) (md : MethodId) (args : Array Value) (below : List Frame) (meth : Method) (c : Code) (Q : State → Prop) (H : Heap) (locs : List Loc) (ls : Array Slot) (cells slots : Nat),
      Cx E M c0 p R s md args meth c → (cells ≤ R.cells ∧ slots ≤ R.slots) → ls.size = mN M → W p l e R s md args below meth c H locs cells slots Q (F0 md pc' ls (st'.map (im E))) → W p l e R s md args below meth c H locs cells slots Q (F0 md pc ls (st.map (im E))))
    (K : Mh w l E M c0 s0 pc' lv st' m o r) : Mh w l E M c0 s0 pc lv st m o r := by
  obtain ⟨⟨k1, k2, k3⟩, K⟩ := K
  refine ⟨⟨k1, k2, k3⟩, fun hr p e R s md args below meth c Q H locs ls hC hc hm hRt hR hS hl => ?_⟩
  exact hW p e R s md args below meth c Q H locs ls _ _ hC ⟨by omega, by omega⟩ hl.1 (K hr p e R s md args below meth c Q H locs ls hC hc hm hRt hR hS hl)
theorem Mh_max {idx : Nat} {x y : Int32} (hF : 1 ≤ mF M ∧ 21 ≤ mL M) (h1 : Cond.methodLink (mO M) idx Lib.Math.max.name ∈ GT) (h2 : Cond.static Lib.Math.max.name ∈ GT) (h3 : Cond.initialized "java/lang/Math" ∈ GT) (h4 : Cond.code Lib.Math.max.name Lib.Math.max.code 2 (some .int) ∈ GT) (hst : (st.map fun v => v.category).sum ≤ 8) (hd : decode (mB M) pc = .ok (.invokestatic idx, 3)) (K : Mh w l E M c0 s0 (pc + 3) lv (.int (if x < y then y else x) :: st) m o r) : Mh w l E M c0 s0 pc lv (.int y :: .int x :: st) m o r :=
  Mh_gob (fun p e R s md args below meth c Q H locs ls cells slots hC hb hz k => va_mmax hC.1 hC.2.1 (hC.2.2.1.trans hz.symm) hC.2.2.2.1 (hC.2.2.2.2.1 _ h1) (hC.2.2.2.2.1 _ h2) (hC.2.2.2.2.1 _ h3) (hC.2.2.2.2.1 _ h4) (Nat.le_trans hF.1 hC.2.2.2.2.2.2.2.2.1.1) (by have := hC.2.2.2.2.2.2.2.2.1.2; rw [cat_im]; omega) hb.1 hb.2 hd k) K
theorem Mh_min {idx : Nat} {x y : Int32} (hF : 1 ≤ mF M ∧ 21 ≤ mL M) (h1 : Cond.methodLink (mO M) idx Lib.Math.min.name ∈ GT) (h2 : Cond.static Lib.Math.min.name ∈ GT) (h3 : Cond.initialized "java/lang/Math" ∈ GT) (h4 : Cond.code Lib.Math.min.name Lib.Math.min.code 2 (some .int) ∈ GT) (hst : (st.map fun v => v.category).sum ≤ 8) (hd : decode (mB M) pc = .ok (.invokestatic idx, 3)) (K : Mh w l E M c0 s0 (pc + 3) lv (.int (if y < x then y else x) :: st) m o r) : Mh w l E M c0 s0 pc lv (.int y :: .int x :: st) m o r :=
  Mh_gob (fun p e R s md args below meth c Q H locs ls cells slots hC hb hz k => va_mmin hC.1 hC.2.1 (hC.2.2.1.trans hz.symm) hC.2.2.2.1 (hC.2.2.2.2.1 _ h1) (hC.2.2.2.2.1 _ h2) (hC.2.2.2.2.1 _ h3) (hC.2.2.2.2.1 _ h4) (Nat.le_trans hF.1 hC.2.2.2.2.2.2.2.2.1.1) (by have := hC.2.2.2.2.2.2.2.2.1.2; rw [cat_im]; omega) hb.1 hb.2 hd k) K
theorem Mh_abs {idx : Nat} {x : Int32} (hF : 1 ≤ mF M ∧ 21 ≤ mL M) (h1 : Cond.methodLink (mO M) idx Lib.Math.abs.name ∈ GT) (h2 : Cond.static Lib.Math.abs.name ∈ GT) (h3 : Cond.initialized "java/lang/Math" ∈ GT) (h4 : Cond.code Lib.Math.abs.name Lib.Math.abs.code 1 (some .int) ∈ GT) (hst : (st.map fun v => v.category).sum ≤ 8) (hd : decode (mB M) pc = .ok (.invokestatic idx, 3)) (K : Mh w l E M c0 s0 (pc + 3) lv (.int (if 0 ≤ x then x else 0 - x) :: st) m o r) : Mh w l E M c0 s0 pc lv (.int x :: st) m o r :=
  Mh_gob (fun p e R s md args below meth c Q H locs ls cells slots hC hb hz k => va_mabs hC.1 hC.2.1 (hC.2.2.1.trans hz.symm) hC.2.2.2.1 (hC.2.2.2.2.1 _ h1) (hC.2.2.2.2.1 _ h2) (hC.2.2.2.2.1 _ h3) (hC.2.2.2.2.1 _ h4) (Nat.le_trans hF.1 hC.2.2.2.2.2.2.2.2.1.1) (by have := hC.2.2.2.2.2.2.2.2.1.2; rw [cat_im]; omega) hb.1 hb.2 hd k) K
/-- a case split of the answer, no step -/
theorem Mh_ite {C : Prop} [Decidable C] {r1 r2 : α × Mm × Prop} (hr : r = if C then r1 else r2) (K1 : C → Mh w l E M c0 s0 pc lv st m o r1) (K2 : ¬ C → Mh w l E M c0 s0 pc lv st m o r2) : Mh w l E M c0 s0 pc lv st m o r := by
  subst hr
  by_cases h : C
  · rw [if_pos h]; exact K1 h
  · rw [if_neg h]; exact K2 h
theorem Mh_lsw {dflt : Int} {ps : Array (Int × Int)} {len : Nat} {x : Int32} {off : Int} {tgt : Nat} (hd : decode (mB M) pc = .ok (.lookupswitch dflt ps, len)) (hp : (ps.toList.zip (ps.toList.drop 1)).all (fun (a, next) => a.1 < next.1) = true) (ho : Op.lookupswitch.offset ps.toList dflt x.toInt = off) (ht : (pc : Int) + off = (tgt : Int)) (K : Mh w l E M c0 s0 tgt lv st m o r) : Mh w l E M c0 s0 pc lv (.int x :: st) m o r :=
  Mh_go id (fun _ p e R s md args below meth c Q H locs ls cells slots hC hR hS hl k => lv_lookup hC.1 hC.2.1 hd hp ho ht (k ls hl)) K
theorem Mh_tsi {dflt lo hi : Int} {offs : Array Int} {len : Nat} {x : Int32} {off : Int} {tgt : Nat} (hd : decode (mB M) pc = .ok (.tableswitch dflt lo hi offs, len)) (h1 : ¬ x.toInt < lo) (h2 : ¬ hi < x.toInt) (ho : offs[(x.toInt - lo).toNat]? = some off) (ht : (pc : Int) + off = (tgt : Int)) (K : Mh w l E M c0 s0 tgt lv st m o r) : Mh w l E M c0 s0 pc lv (.int x :: st) m o r :=
  Mh_go id (fun _ p e R s md args below meth c Q H locs ls cells slots hC hR hS hl k => lv_tableIn hC.1 hC.2.1 hd h1 h2 ho ht (k ls hl)) K
theorem Mh_tso {dflt lo hi : Int} {offs : Array Int} {len : Nat} {x : Int32} {tgt : Nat} (hd : decode (mB M) pc = .ok (.tableswitch dflt lo hi offs, len)) (h : x.toInt < lo ∨ hi < x.toInt) (ht : (pc : Int) + dflt = (tgt : Int)) (K : Mh w l E M c0 s0 tgt lv st m o r) : Mh w l E M c0 s0 pc lv (.int x :: st) m o r :=
  Mh_go id (fun _ p e R s md args below meth c Q H locs ls cells slots hC hR hS hl k => lv_tableOut hC.1 hC.2.1 hd h ht (k ls hl)) K
/-- the String constant: itself, its coder, its bytes, their number, one of them -/
theorem Mh_ldS (hO : mO M = "HayVotes$LawReader") (hd : decode (mB M) pc = .ok (.ldc 93, 2)) (K : Mh w l E M c0 s0 (pc + 2) lv (.null :: st) m o r) : Mh w l E M c0 s0 pc lv st m o r :=
  Mh_go id (fun _ p e R s md args below meth c Q H locs ls cells slots hC hR hS hl k => va_ldcS hC.1 hC.2.1 (by rw [← hO]; exact hC.2.2.2.1) hC.2.2.2.2.2.2.2.1.2.2.2.2.1 hd (k ls hl)) K
theorem Mh_cpS {idx : Nat} (hg : Cond.fieldLink (mO M) idx "java/lang/String" "COMPACT_STRINGS" "Z" ∈ GT) (hd : decode (mB M) pc = .ok (.getstatic idx, 3)) (K : Mh w l E M c0 s0 (pc + 3) lv (.int 1 :: st) m o r) : Mh w l E M c0 s0 pc lv st m o r :=
  Mh_go id (fun _ p e R s md args below meth c Q H locs ls cells slots hC hR hS hl k => va_gets hC.1 hC.2.1 hC.2.2.2.2.2.2.2.1.2.2.2.2.2 hS hC.2.2.2.1 (hC.2.2.2.2.1 _ hg) (fun _ h => h) hd (k ls hl)) K
theorem Mh_coS {idx : Nat} (hg : Cond.fieldLink (mO M) idx "java/lang/String" "coder" "B" ∈ GT) (hd : decode (mB M) pc = .ok (.getfield idx, 3)) (K : Mh w l E M c0 s0 (pc + 3) lv (.int 0 :: st) m o r) : Mh w l E M c0 s0 pc lv (.null :: st) m o r :=
  Mh_go id (fun _ p e R s md args below meth c Q H locs ls cells slots hC hR hS hl k => vk_getf hC.1 hC.2.1 (hC.2.2.2.2.2.2.2.1.2.2.2.1.1 0 (by decide)).2.1 hS hC.2.2.2.1 (hC.2.2.2.2.1 _ hg) (fun _ h => h) hd (k ls hl)) K
theorem Mh_vaS {idx : Nat} (hg : Cond.fieldLink (mO M) idx "java/lang/String" "value" "[B" ∈ GT) (hd : decode (mB M) pc = .ok (.getfield idx, 3)) (K : Mh w l E M c0 s0 (pc + 3) lv (.float 0 :: st) m o r) : Mh w l E M c0 s0 pc lv (.null :: st) m o r :=
  Mh_go id (fun _ p e R s md args below meth c Q H locs ls cells slots hC hR hS hl k => vk_getf hC.1 hC.2.1 (hC.2.2.2.2.2.2.2.1.2.2.2.1.1 0 (by decide)).2.2.1 hS hC.2.2.2.1 (hC.2.2.2.2.1 _ hg) (fun _ h => h) hd (k ls hl)) K
theorem Mh_lnS (hd : decode (mB M) pc = .ok (.arraylength, 1)) (K : Mh w l E M c0 s0 (pc + 1) lv (.int 10 :: st) m o r) : Mh w l E M c0 s0 pc lv (.float 0 :: st) m o r :=
  Mh_go id (fun _ p e R s md args below meth c Q H locs ls cells slots hC hR hS hl k => va_tlen hC.1 hC.2.1 (hC.2.2.2.2.2.2.2.1.2.2.2.1.1 0 (by decide)).2.2.2 hS rfl hd (k ls hl)) K
theorem Mh_baS {i : Int32} (hd : decode (mB M) pc = .ok (.baload, 1)) (K : Mh w l E M c0 s0 (pc + 1) lv (.int (lby.getD i.toNatClampNeg 0) :: st) m (o ∧ vp_in i 10) r) : Mh w l E M c0 s0 pc lv (.int i :: .float 0 :: st) m o r :=
  Mh_go (o' := o ∧ vp_in i 10) And.left (fun h p e R s md args below meth c Q H locs ls cells slots hC hR hS hl k => va_tb hC.1 hC.2.1 (hC.2.2.2.2.2.2.2.1.2.2.2.1.1 0 (by decide)).2.2.2 hS h.2 rfl hd (k ls hl)) K
theorem Mh_loadS {v : Value} {i : Nat} (j : Nat) (hv : v = .null ∨ v = .float 0) (hj : lv[j]? = some (i, v)) (hd : decode (mB M) pc = .ok (.aload i, 2)) (K : Mh w l E M c0 s0 (pc + 2) lv (v :: st) m o r) : Mh w l E M c0 s0 pc lv st m o r :=
  Mh_go id (fun _ p e R s md args below meth c Q H locs ls cells slots hC hR hS hl k => by
    have h1 := lv_at hl j (imL_at hj)
    have k2 := k ls hl
    rcases hv with rfl | rfl
    · exact lv_aload hC.1 hC.2.1 hd h1 k2
    · exact lv_aload hC.1 hC.2.1 hd h1 k2) K
theorem Mh_loadS_n {v : Value} {i : Fin 4} (j : Nat) (hv : v = .null ∨ v = .float 0) (hj : lv[j]? = some ((i : Nat), v)) (hd : decode (mB M) pc = .ok (.aload_n i, 1)) (K : Mh w l E M c0 s0 (pc + 1) lv (v :: st) m o r) : Mh w l E M c0 s0 pc lv st m o r :=
  Mh_go id (fun _ p e R s md args below meth c Q H locs ls cells slots hC hR hS hl k => by
    have h1 := lv_at hl j (imL_at hj)
    have k2 := k ls hl
    rcases hv with rfl | rfl
    · exact lv_aload_n hC.1 hC.2.1 hd rfl h1 k2
    · exact lv_aload_n hC.1 hC.2.1 hd rfl h1 k2) K
variable {β : Type} {wb : β → List Value} {N : Mi} {y : MethodName} {as : List Value} {rb : β × Mm × Prop}
/-- invokevirtual at the String constant -/
theorem Mh_cvS {idx n : Nat} {st0 : List Value} (hwb : ∀ x, (wb x).head?.toList = (wb x).map (im E)) (hG : Cgood y N) (hy : y.cls = "java/lang/String") (h1 : Cond.methodLink (mO M) idx y ∈ GT) (h2 : Cond.instanceMethod y ∈ GT) (h3 : Cond.selects y.cls y y ∈ GT) (hp : (parseMethodDescriptor y.desc).map (fun d => d.parameters.length) = some n) (hn : as.length = n) (hF : mF N + 1 ≤ mF M ∧ 8 + (mN N + 11) + mL N ≤ mL M) (hst : (st.map fun v => v.category).sum ≤ 8) (hs0 : st0 = as.reverse ++ .null :: st) (hd : decode (mB M) pc = .ok (.invokevirtual idx, 3))
    (hM : Mt wb l E y N (.null :: as) m o rb) (K : Mh w l E M c0 s0 (pc + 3) lv (wb rb.1 ++ st) rb.2.1 rb.2.2 r) : Mh w l E M c0 s0 pc lv st0 m o r := by
  refine Mh_run (fun h => h) hwb hM (fun ho hb p e R s md args below meth c H locs ls cells slots hC hR hS hsz hz hcs => ?_) K
  subst hs0
  have hts := hC.2.2.2.2.1
  have hrecv := vk_recv hC.2.2.2.2.2.2.2.1.2.2.2.1 (i := 0) (by decide) hS
  rw [← hy] at hrecv
  exact va_runV (As := as.map (im E)) (b := E.2.2.2.2.1 0) (C := y.cls) (bytes := mB N) (maxL := mN N) (ret := mR N) (Ts := GT) (own := mO M) (nL := mN M) ⟨hC.1, hC.2.1, hC.2.2.1, hC.2.2.2.1, hts⟩ (hM.2 hb) ⟨callB_of n hts (good_wsm hG.1) rfl rfl rfl (hts _ hG.2.1) (hts _ h1) ⟨hG.2.2.1, hG.2.2.2, hp⟩ ⟨Nat.le_trans hF.1 hC.2.2.2.2.2.2.2.2.1.1, Nat.le_trans hF.2 hC.2.2.2.2.2.2.2.2.1.2⟩, hts _ h2, hts _ h3⟩ ⟨blind_m, hrecv, pre_m (as := .null :: as) hC hR hS hz⟩ rfl (by rw [List.length_map]; exact hn) hsz (imr as .null st) (by rw [cat_im]; exact lv_room hst) hd hcs
end MHR
theorem tbl_out {x : Int32} (lo n : Nat) (h : ∀ j, j < n → ¬ x.toInt = ((lo + j : Nat) : Int)) : x.toInt < (lo : Int) ∨ ((lo + n : Nat) : Int) - 1 < x.toInt := by
  by_cases h1 : x.toInt < (lo : Int)
  · exact .inl h1
  · refine .inr ?_
    by_cases h2 : ((lo + n : Nat) : Int) - 1 < x.toInt
    · exact h2
    · exact absurd (by omega) (h (x.toInt.toNat - lo) (by omega))

section MHT
variable {α : Type} {w : α → List Value} {l : Launch} {E : En} {M : Mi} {c0 s0 : Nat} {pc : Nat} {lv : List (Nat × Value)} {st : List Value} {m : Mm} {o : Prop} {r : α × Mm × Prop}
/-- a table's default, also where it stands in the table -/
theorem Mh_tsd {dflt lo hi : Int} {offs : Array Int} {len : Nat} {x : Int32} {tgt : Nat} (keys : List Int) (hd : decode (mB M) pc = .ok (.tableswitch dflt lo hi offs, len)) (hk : ∀ j, j < offs.size → offs[j]? = some dflt ∨ (lo + (j : Int)) ∈ keys) (hz : hi = lo + (offs.size : Int) - 1) (hn : ∀ k ∈ keys, ¬ x.toInt = k) (ht : (pc : Int) + dflt = (tgt : Int)) (K : Mh w l E M c0 s0 tgt lv st m o r) : Mh w l E M c0 s0 pc lv (.int x :: st) m o r := by
  by_cases h1 : x.toInt < lo
  · exact Mh_tso hd (.inl h1) ht K
  · by_cases h2 : hi < x.toInt
    · exact Mh_tso hd (.inr h2) ht K
    · have hj : (x.toInt - lo).toNat < offs.size := by omega
      rcases hk _ hj with h3 | h3
      · exact Mh_tsi hd h1 h2 h3 ht K
      · exact absurd (by omega) (hn _ h3)
variable {N : Mi} {y : MethodName} {as : List Value}
theorem Mh_cvI {rb : Int32 × Mm × Prop} {idx ci q n : Nat} {st0 : List Value} {o1 : Prop} (ho1 : o1 → o ∧ gT m q = ci + 1) (hG : Cgood y N) (h12 : ci < 12) (hcl : hcl[ci]? = some (cl3 ci)) (hy : y.cls = (cl3 ci).1) (h1 : Cond.methodLink (mO M) idx y ∈ GT) (h2 : Cond.instanceMethod y ∈ GT ∧ Cond.selects y.cls y y ∈ GT) (hp : (parseMethodDescriptor y.desc).map (fun d => d.parameters.length) = some n) (hn : as.length = n) (hF : mF N + 1 ≤ mF M ∧ 8 + (mN N + 11) + mL N ≤ mL M) (hst : (st.map fun v => v.category).sum ≤ 8) (hs0 : st0 = as.reverse ++ .ref q :: st) (hd : decode (mB M) pc = .ok (.invokevirtual idx, 3)) (hM : Mt wI l E y N (.ref q :: as) m o1 rb) {k : Int32 → Mm → Prop → α × Mm × Prop} (hr : r = bnd rb k) (K : Mh w l E M c0 s0 (pc + 3) lv (.int rb.1 :: st) rb.2.1 rb.2.2 (k rb.1 rb.2.1 rb.2.2)) : Mh w l E M c0 s0 pc lv st0 m o r := by
  subst hr
  exact Mh_cv ho1 wI_ok hG h12 hcl hy h1 h2.1 h2.2 hp hn hF hst hs0 hd hM K
theorem Mh_cvJ {rb : Int64 × Mm × Prop} {idx ci q n : Nat} {st0 : List Value} {o1 : Prop} (ho1 : o1 → o ∧ gT m q = ci + 1) (hG : Cgood y N) (h12 : ci < 12) (hcl : hcl[ci]? = some (cl3 ci)) (hy : y.cls = (cl3 ci).1) (h1 : Cond.methodLink (mO M) idx y ∈ GT) (h2 : Cond.instanceMethod y ∈ GT ∧ Cond.selects y.cls y y ∈ GT) (hp : (parseMethodDescriptor y.desc).map (fun d => d.parameters.length) = some n) (hn : as.length = n) (hF : mF N + 1 ≤ mF M ∧ 8 + (mN N + 11) + mL N ≤ mL M) (hst : (st.map fun v => v.category).sum ≤ 8) (hs0 : st0 = as.reverse ++ .ref q :: st) (hd : decode (mB M) pc = .ok (.invokevirtual idx, 3)) (hM : Mt wJ l E y N (.ref q :: as) m o1 rb) {k : Int64 → Mm → Prop → α × Mm × Prop} (hr : r = bnd rb k) (K : Mh w l E M c0 s0 (pc + 3) lv (.long rb.1 :: st) rb.2.1 rb.2.2 (k rb.1 rb.2.1 rb.2.2)) : Mh w l E M c0 s0 pc lv st0 m o r := by
  subst hr
  exact Mh_cv ho1 wJ_ok hG h12 hcl hy h1 h2.1 h2.2 hp hn hF hst hs0 hd hM K
theorem Mh_cvU {rb : Unit × Mm × Prop} {idx ci q n : Nat} {st0 : List Value} {o1 : Prop} (ho1 : o1 → o ∧ gT m q = ci + 1) (hG : Cgood y N) (h12 : ci < 12) (hcl : hcl[ci]? = some (cl3 ci)) (hy : y.cls = (cl3 ci).1) (h1 : Cond.methodLink (mO M) idx y ∈ GT) (h2 : Cond.instanceMethod y ∈ GT ∧ Cond.selects y.cls y y ∈ GT) (hp : (parseMethodDescriptor y.desc).map (fun d => d.parameters.length) = some n) (hn : as.length = n) (hF : mF N + 1 ≤ mF M ∧ 8 + (mN N + 11) + mL N ≤ mL M) (hst : (st.map fun v => v.category).sum ≤ 8) (hs0 : st0 = as.reverse ++ .ref q :: st) (hd : decode (mB M) pc = .ok (.invokevirtual idx, 3)) (hM : Mt wU l E y N (.ref q :: as) m o1 rb) {k : Unit → Mm → Prop → α × Mm × Prop} (hr : r = bnd rb k) (K : Mh w l E M c0 s0 (pc + 3) lv st rb.2.1 rb.2.2 (k rb.1 rb.2.1 rb.2.2)) : Mh w l E M c0 s0 pc lv st0 m o r := by
  subst hr
  exact Mh_cv ho1 wU_ok hG h12 hcl hy h1 h2.1 h2.2 hp hn hF hst hs0 hd hM K
theorem Mh_csI {rb : Int32 × Mm × Prop} {idx n : Nat} {st0 : List Value} (hG : Cgood y N) (h1 : Cond.methodLink (mO M) idx y ∈ GT ∨ ∃ host, Cond.methodLinkNest (mO M) idx y host ∈ NWl) (h2 : Cond.static y ∈ GT) (hp : (parseMethodDescriptor y.desc).map (fun d => d.parameters.length) = some n) (hn : as.length = n) (hF : mF N + 1 ≤ mF M ∧ 8 + (mN N + 11) + mL N ≤ mL M) (hst : (st.map fun v => v.category).sum ≤ 8) (hs0 : st0 = as.reverse ++ st) (hd : decode (mB M) pc = .ok (.invokestatic idx, 3)) (hM : Mt wI l E y N as m o rb) {k : Int32 → Mm → Prop → α × Mm × Prop} (hr : r = bnd rb k) (K : Mh w l E M c0 s0 (pc + 3) lv (.int rb.1 :: st) rb.2.1 rb.2.2 (k rb.1 rb.2.1 rb.2.2)) : Mh w l E M c0 s0 pc lv st0 m o r := by
  subst hr
  exact Mh_cs wI_ok hG h1 h2 hp hn hF hst hs0 hd hM K
theorem Mh_csJ {rb : Int64 × Mm × Prop} {idx n : Nat} {st0 : List Value} (hG : Cgood y N) (h1 : Cond.methodLink (mO M) idx y ∈ GT ∨ ∃ host, Cond.methodLinkNest (mO M) idx y host ∈ NWl) (h2 : Cond.static y ∈ GT) (hp : (parseMethodDescriptor y.desc).map (fun d => d.parameters.length) = some n) (hn : as.length = n) (hF : mF N + 1 ≤ mF M ∧ 8 + (mN N + 11) + mL N ≤ mL M) (hst : (st.map fun v => v.category).sum ≤ 8) (hs0 : st0 = as.reverse ++ st) (hd : decode (mB M) pc = .ok (.invokestatic idx, 3)) (hM : Mt wJ l E y N as m o rb) {k : Int64 → Mm → Prop → α × Mm × Prop} (hr : r = bnd rb k) (K : Mh w l E M c0 s0 (pc + 3) lv (.long rb.1 :: st) rb.2.1 rb.2.2 (k rb.1 rb.2.1 rb.2.2)) : Mh w l E M c0 s0 pc lv st0 m o r := by
  subst hr
  exact Mh_cs wJ_ok hG h1 h2 hp hn hF hst hs0 hd hM K
theorem Mh_ciU {rb : Unit × Mm × Prop} {idx q n : Nat} {st0 : List Value} (hG : Cgood y N) (hrt : mR N = none) (hy1 : y.name = "<init>") (h1 : Cond.methodLink (mO M) idx y ∈ GT ∨ ∃ host, Cond.methodLinkNest (mO M) idx y host ∈ NWl) (h2 : Cond.instanceMethod y ∈ GT) (hp : (parseMethodDescriptor y.desc).map (fun d => d.parameters.length) = some n) (hn : as.length = n) (hF : mF N + 1 ≤ mF M ∧ 8 + (mN N + 11) + mL N ≤ mL M) (hst : (st.map fun v => v.category).sum ≤ 8) (hs0 : st0 = as.reverse ++ .ref q :: st) (hd : decode (mB M) pc = .ok (.invokespecial idx, 3)) (hM : Mt wU l E y N (.ref q :: as) m o rb) {k : Unit → Mm → Prop → α × Mm × Prop} (hr : r = bnd rb k) (K : Mh w l E M c0 s0 (pc + 3) lv st rb.2.1 rb.2.2 (k rb.1 rb.2.1 rb.2.2)) : Mh w l E M c0 s0 pc lv st0 m o r := by
  subst hr
  exact Mh_ci wU_ok hG hrt hy1 h1 h2 hp hn hF hst hs0 hd hM K
theorem Mh_cvSI {rb : Int32 × Mm × Prop} {idx n : Nat} {st0 : List Value} (hG : Cgood y N) (hy : y.cls = "java/lang/String") (h1 : Cond.methodLink (mO M) idx y ∈ GT) (h2 : Cond.instanceMethod y ∈ GT ∧ Cond.selects y.cls y y ∈ GT) (hp : (parseMethodDescriptor y.desc).map (fun d => d.parameters.length) = some n) (hn : as.length = n) (hF : mF N + 1 ≤ mF M ∧ 8 + (mN N + 11) + mL N ≤ mL M) (hst : (st.map fun v => v.category).sum ≤ 8) (hs0 : st0 = as.reverse ++ .null :: st) (hd : decode (mB M) pc = .ok (.invokevirtual idx, 3)) (hM : Mt wI l E y N (.null :: as) m o rb) {k : Int32 → Mm → Prop → α × Mm × Prop} (hr : r = bnd rb k) (K : Mh w l E M c0 s0 (pc + 3) lv (.int rb.1 :: st) rb.2.1 rb.2.2 (k rb.1 rb.2.1 rb.2.2)) : Mh w l E M c0 s0 pc lv st0 m o r := by
  subst hr
  exact Mh_cvS wI_ok hG hy h1 h2.1 h2.2 hp hn hF hst hs0 hd hM K
end MHT
