/-! ===== a method's contract, and its call ===== -/
def Pcm (E : En) (m : Mm) (U : State) : Prop := HR E m U.heap ∧ KS E U U.heap ∧ U.heap.size = E.2.1 + gC m
def Qcm {β : Type} (wb : β → List Value) (E : En) (rb : β × Mm × Prop) : Array Value → State → Outcome → State → Prop := fun _ st oc t => oc = .returned (wb rb.1).head? ∧ HR E rb.2.1 t.heap ∧ va_F (eA E) st t
def rmm (M : Mi) (a b : Nat) : Room := { frames := mF M, cells := a, slots := b, locals := mL M }
def wsm (y : MethodName) (M : Mi) : List Cond := Cond.code y (mB M) (mN M) (mR M) :: GT
/-- the contract: from the memory m with the arguments as, it answers rb.1 and leaves rb.2.1 -/
def Mt {β : Type} (wb : β → List Value) (l : Launch) (E : En) (y : MethodName) (N : Mi) (as : List Value) (m : Mm) (o : Prop) (rb : β × Mm × Prop) : Prop :=
  Mono m o rb ∧ (rb.2.2 → Met l y (wsm y N) (rmm N (gC rb.2.1 - gC m) (gS rb.2.1 - gS m)) (va_Pc (as.map (im E)) (Pcm E m)) (Qcm wb E rb) (gC rb.2.1 - gC m) (gS rb.2.1 - gS m) (eA E))
theorem args_im (E : En) : ∀ (as : List Value) (i : Nat), lv_args i (as.map (im E)) = (lv_args i as).map (imL E)
  | [], _ => rfl
  | v :: vs, i => by
    rw [List.map_cons, lv_args, lv_args, List.map_cons, im_cat, args_im E vs]
    rfl
theorem sl_im (E : En) (as : List Value) : (lg_sl (as.map (im E))).length = (lg_sl as).length := by
  induction as with
  | nil => rfl
  | cons v vs ih =>
    unfold lg_sl at ih ⊢
    rw [List.map_cons, List.flatMap_cons, List.flatMap_cons, List.length_append, List.length_append, ih, im_cat]
    split <;> rfl
section MTO
variable {l : Launch} {E : En} {y : MethodName} {N : Mi} {as : List Value} {m : Mm} {o : Prop}
theorem Mt_of {β : Type} {wb : β → List Value} {rb : β × Mm × Prop} (hy : plainName y.cls = true) (hc : y.cls = mO N) (hi : mI N = true → y.name = "<init>") (hw : mW N = false) (hn : (lg_sl as).length ≤ mN N)
    (hret : ∀ (p : Program) (e : Env) (R : Room) (s : State) (md : MethodId) (args : Array Value) (below : List Frame) (meth : Method) (c : Code), p.tables.exec = Jvm.exec → c.code = mB N → meth.sig.returnType = mR N → meth.locks = false → ∀ (pc : Nat) (H : Heap) (locs : List Loc) (ls : Array Slot) (cells slots : Nat), decode (mB N) pc = .ok (retI (mR N), 1) → rok (mR N) (wb rb.1) → (∀ t : State, t.heap = H → s.WarmedH t.vm → Qcm wb E rb args s (.returned (wb rb.1).head?) t) → (∀ q ∈ locs, eA E q.base) → W p l e R s md args below meth c H locs cells slots (MQ below (Qcm wb E rb) args s cells slots (eA E)) (F0 md pc ls (wb rb.1)))
    (K : Mh wb l E N (gC m) (gS m) 0 (lv_args 0 as) [] m o rb) : Mt wb l E y N as m o rb := by
  refine ⟨K.1, fun hr => Met.ofW (cc := mB N) (maxL := mN N) (ret := mR N) hy rfl ?_⟩
  intro p e s md args below meth c s₁ B hml hv
  obtain ⟨rfl, hR, hKS, hsz⟩ := hv
  have hts := atoms_spec (ws := wsm y N) B.pre
  have hown : s.vm.findClass (mO N) = some md.cls := by rw [← hc]; exact findClass_of_methodNamed B.named
  have hlk := B.notSynchronized
  have hname := (name_of_methodNamed B.named B.method).1
  have hCx : Cx E N (gC m) p (headSpec (wsm y N) (rmm N (gC rb.2.1 - gC m) (gS rb.2.1 - gS m))).room s md (as.map (im E)).toArray meth c :=
    ⟨B.exec, B.bytes, hml, hown, fun w hw => hts w (List.mem_cons_of_mem _ hw), B.returns, hlk, hKS, ⟨Nat.le_refl _, Nat.le_refl _⟩, hsz, fun h => hname.trans (hi h), fun h => by rw [hw] at h; cases h⟩
  have hl := lv_entry (as.map (im E)) (n := mN N) (by rw [sl_im]; exact hn)
  rw [args_im] at hl
  have h := K.2 hr p e (headSpec (wsm y N) (rmm N (gC rb.2.1 - gC m) (gS rb.2.1 - gS m))).room s md (as.map (im E)).toArray below meth c (MQ below (Qcm wb E rb) (as.map (im E)).toArray s (gC rb.2.1 - gC m) (gS rb.2.1 - gS m) (eA E)) s.heap [] _ hCx ⟨Nat.le_refl _, Nat.le_refl _⟩ ⟨Nat.le_refl _, Nat.le_refl _⟩
    (fun pc H locs ls hd hk hR' hS' => hret p e _ s md _ below meth c B.exec B.bytes B.returns hlk pc H locs ls _ _ hd hk (fun t ht _ => ⟨rfl, by rw [ht]; exact hR', hS'.F ht⟩) hS'.2.2) hR va_S.rf hl
  rw [Nat.sub_self, Nat.sub_self] at h
  rw [lg_entry_eq]
  exact h
theorem Mt_I {rb : Int32 × Mm × Prop} {ty : FieldType} (hy : plainName y.cls = true) (hc : y.cls = mO N) (hi : mI N = false) (hw : mW N = false) (hn : (lg_sl as).length ≤ mN N) (ht : mR N = some ty) (hty : ty = .int ∨ ty = .boolean ∨ ty = .byte) (K : Mh wI l E N (gC m) (gS m) 0 (lv_args 0 as) [] m o rb) : Mt wI l E y N as m o rb := by
  refine Mt_of hy hc (fun h => by rw [hi] at h; cases h) hw hn ?_ K
  intro p e R s md args below meth c hx hb hr hlk pc H locs ls cells slots hd hk hq hf
  rw [ht] at hd hk hr
  have hd' : decode (mB N) pc = .ok (.ireturn, 1) := by rcases hty with rfl | rfl | rfl <;> exact hd
  exact W.zret (Qc := Qcm wI E rb) (free := eA E) hx hb hr hk hq hf hd' hlk
theorem Mt_J {rb : Int64 × Mm × Prop} (hy : plainName y.cls = true) (hc : y.cls = mO N) (hi : mI N = false) (hw : mW N = false) (hn : (lg_sl as).length ≤ mN N) (ht : mR N = some .long) (K : Mh wJ l E N (gC m) (gS m) 0 (lv_args 0 as) [] m o rb) : Mt wJ l E y N as m o rb := by
  refine Mt_of hy hc (fun h => by rw [hi] at h; cases h) hw hn ?_ K
  intro p e R s md args below meth c hx hb hr hlk pc H locs ls cells slots hd hk hq hf
  rw [ht] at hd hr
  exact W.lret (Qc := Qcm wJ E rb) (free := eA E) hx hb hr hq hf hd hlk
theorem Mt_U {rb : Unit × Mm × Prop} (hy : plainName y.cls = true) (hc : y.cls = mO N) (hi : mI N = true → y.name = "<init>") (hw : mW N = false) (hn : (lg_sl as).length ≤ mN N) (ht : mR N = none) (K : Mh wU l E N (gC m) (gS m) 0 (lv_args 0 as) [] m o rb) : Mt wU l E y N as m o rb := by
  refine Mt_of hy hc hi hw hn ?_ K
  intro p e R s md args below meth c hx hb hr hlk pc H locs ls cells slots hd hk hq hf
  rw [ht] at hd hr
  exact W.vret (Qc := Qcm wU E rb) (free := eA E) hx hb hr hq hf hd hlk
theorem Mt_out {β : Type} {wb : β → List Value} {x : β} : Mt wb l E y N as m o (x, m, False) := ⟨⟨fun h => h.elim, Nat.le_refl _, Nat.le_refl _⟩, fun h => h.elim⟩
end MTO
section MTC
variable {α : Type} {w : α → List Value} {l : Launch} {E : En} {M : Mi} {c0 s0 : Nat} {pc : Nat} {lv : List (Nat × Value)} {st : List Value} {m : Mm} {o : Prop} {r : α × Mm × Prop}
variable {β : Type} {wb : β → List Value} {N : Mi} {y : MethodName} {as : List Value} {rb : β × Mm × Prop}
theorem blind_m : FrameBlind (va_Pc (as.map (im E)) (Pcm E m)) := fun a U g mk h => ⟨h.1, h.2.1, KS.same (s := U) (U := U.calling g mk a) rfl h.2.2.1, h.2.2.2⟩
theorem pre_m {p : Program} {R : Room} {s : State} {md : MethodId} {args : Array Value} {meth : Method} {c : Code} {H : Heap} {locs : List Loc} (hC : Cx E M c0 p R s md args meth c) (hR : HR E m H) (hS : va_S (eA E) s.heap H locs) (hz : H.size = E.2.1 + gC m) : ∀ U : State, U.heap = H → s.WarmedH U.vm → va_Pc (as.map (im E)) (Pcm E m) (as.map (im E)).toArray U := by
  intro U hU hW
  refine ⟨rfl, by rw [hU]; exact hR, ?_, by rw [hU]; exact hz⟩
  rw [hU]
  exact KS.warm hW (KS.kept hS.2.1 hC.2.2.2.2.2.2.2.1)
/-- a call, by any road that runs it -/
theorem Mh_run {st0 : List Value} {o1 : Prop} (ho : o1 → o) (hwb : ∀ x, (wb x).head?.toList = (wb x).map (im E)) (hM : Mt wb l E y N as m o1 rb)
    (hrun : o1 → rb.2.2 → ∀ (p : Program) (e : Env) (R : Room) (s : State) (md : MethodId) (args : Array Value) (below : List Frame) (meth : Method) (c : Code) (H : Heap) (locs : List Loc) (ls : Array Slot) (cells slots : Nat),
      Cx E M c0 p R s md args meth c → HR E m H → va_S (eA E) s.heap H locs → ls.size = mN M → H.size = E.2.1 + gC m → (cells + (gC rb.2.1 - gC m) ≤ R.cells ∧ slots + (gS rb.2.1 - gS m) ≤ R.slots) → va_Run p l e R s md args below meth c H locs cells slots (gC rb.2.1 - gC m) (gS rb.2.1 - gS m) (F0 md pc ls (st0.map (im E))) (st.map (im E)) (Qcm wb E rb (as.map (im E)).toArray) (eA E))
    (K : Mh w l E M c0 s0 (pc + 3) lv (wb rb.1 ++ st) rb.2.1 rb.2.2 r) : Mh w l E M c0 s0 pc lv st0 m o r := by
  obtain ⟨⟨k1, k2, k3⟩, K⟩ := K
  obtain ⟨⟨j1, j2, j3⟩, hM⟩ := hM
  refine ⟨⟨fun h => ho (j1 (k1 h)), by omega, by omega⟩, fun hr p e R s md args below meth c Q H locs ls hC hc hm hRt hR hS hl => ?_⟩
  intro T hT X
  have hz : H.size = E.2.1 + gC m := HR_size X hT hC.2.2.2.2.2.2.2.2.2.1 hm.1 hR hS
  obtain ⟨v, st₀, t, T', L, h0, X', hL, e1, e2, ⟨hv, hHR, hF⟩, go⟩ := hrun (j1 (k1 hr)) (k1 hr) p e R s md args below meth c H locs ls (gC m - c0) (gS m - s0) hC hR hS hl.1 hz ⟨by omega, by omega⟩ T hT X
  have ec : gC m - c0 + (gC rb.2.1 - gC m) = gC rb.2.1 - c0 := by omega
  have es : gS m - s0 + (gS rb.2.1 - gS m) = gS rb.2.1 - s0 := by omega
  rw [ec, es] at X'
  have hv' : v = (wb rb.1).head? := by injection hv
  have hS1 : va_S (eA E) s.heap T'.heap (locs ++ L) := by
    obtain ⟨f1, f2⟩ := hF
    rw [h0] at f1 f2
    refine ⟨Nat.le_trans hS.1 (by rw [e1]; exact f1), fun q a1 a2 => ?_, fun q hq => ?_⟩
    · rw [e1, f2 q (Nat.lt_of_lt_of_le a1 hS.1) a2]
      exact hS.2.1 q a1 a2
    · rcases List.mem_append.mp hq with hq | hq
      · exact hS.2.2 q hq
      · exact hL q hq
  obtain ⟨t2, a1, b1⟩ := K hr p e R s md args below meth c Q T'.heap (locs ++ L) ls hC hc ⟨by omega, by omega⟩ hRt (by rw [e1]; exact hHR) hS1 hl T' rfl X'
  refine ⟨t2, go t2 ?_, b1⟩
  rw [hv', hwb, ← List.map_append]
  exact a1
def Cgood (y : MethodName) (N : Mi) : Prop := Cond.code y (mB N) (mN N) (mR N) ∈ GT ∧ Cond.initialized y.cls ∈ GT ∧ (y.cls ≠ "java/lang/invoke/MethodHandle" ∧ y.cls ≠ "java/lang/invoke/VarHandle")
theorem good_wsm (h : Cond.code y (mB N) (mN N) (mR N) ∈ GT) : GoodIn GT (wsm y N) := by
  intro w hw
  rcases List.mem_cons.mp hw with rfl | hw
  · exact ⟨h, good_of_word (GT_good h)⟩
  · exact ⟨hw, good_of_word (GT_good hw)⟩
theorem imr (as : List Value) (x : Value) (st : List Value) : (as.reverse ++ x :: st).map (im E) = (as.map (im E)).reverse ++ im E x :: st.map (im E) := by
  rw [List.map_append, List.map_reverse, List.map_cons]
theorem imr0 (as : List Value) (st : List Value) : (as.reverse ++ st).map (im E) = (as.map (im E)).reverse ++ st.map (im E) := by
  rw [List.map_append, List.map_reverse]
theorem cat_im (st : List Value) : ((st.map (im E)).map fun v => v.category).sum = (st.map fun v => v.category).sum := by
  rw [List.map_map]
  congr 1
  apply List.map_congr_left
  intro v _
  exact im_cat v
/-- invokevirtual, at an object of the class ci -/
theorem Mh_cv {idx ci q n : Nat} {st0 : List Value} {o1 : Prop} (ho1 : o1 → o ∧ gT m q = ci + 1) (hwb : ∀ x, (wb x).head?.toList = (wb x).map (im E)) (hG : Cgood y N) (h12 : ci < 12) (hcl : hcl[ci]? = some (cl3 ci)) (hy : y.cls = (cl3 ci).1) (h1 : Cond.methodLink (mO M) idx y ∈ GT) (h2 : Cond.instanceMethod y ∈ GT) (h3 : Cond.selects y.cls y y ∈ GT) (hp : (parseMethodDescriptor y.desc).map (fun d => d.parameters.length) = some n) (hn : as.length = n) (hF : mF N + 1 ≤ mF M ∧ 8 + (mN N + 11) + mL N ≤ mL M) (hst : (st.map fun v => v.category).sum ≤ 8) (hs0 : st0 = as.reverse ++ .ref q :: st) (hd : decode (mB M) pc = .ok (.invokevirtual idx, 3))
    (hM : Mt wb l E y N (.ref q :: as) m o1 rb) (K : Mh w l E M c0 s0 (pc + 3) lv (wb rb.1 ++ st) rb.2.1 rb.2.2 r) : Mh w l E M c0 s0 pc lv st0 m o r := by
  refine Mh_run (fun h => (ho1 h).1) hwb hM (fun ho' hb p e R s md args below meth c H locs ls cells slots hC hR hS hsz hz hcs => ?_) K
  have ho := ho1 ho'
  subst hs0
  have hts := hC.2.2.2.2.1
  have hat := HR_at hR (q := q) (by omega)
  rw [cel_obj E m q ci ho.2 h12] at hat
  have hrecv := va_recv hC.2.2.2.2.2.2.2.1.1 hR.1 hcl hat
  rw [← hy] at hrecv
  refine va_runV (As := as.map (im E)) (b := ad E q) (C := y.cls) (bytes := mB N) (maxL := mN N) (ret := mR N) (Ts := GT) (own := mO M) (nL := mN M) ⟨hC.1, hC.2.1, hC.2.2.1, hC.2.2.2.1, hts⟩ (hM.2 hb) ⟨callB_of n hts (good_wsm hG.1) rfl rfl rfl (hts _ hG.2.1) (hts _ h1) ⟨hG.2.2.1, hG.2.2.2, hp⟩ ⟨Nat.le_trans hF.1 hC.2.2.2.2.2.2.2.2.1.1, Nat.le_trans hF.2 hC.2.2.2.2.2.2.2.2.1.2⟩, hts _ h2, hts _ h3⟩ ⟨blind_m, hrecv, pre_m (as := .ref q :: as) hC hR hS hz⟩ rfl (by rw [List.length_map]; exact hn) hsz (imr as (.ref q) st) (by rw [cat_im]; exact lv_room hst) hd hcs
/-- invokestatic -/
theorem Mh_cs {idx n : Nat} {st0 : List Value} (hwb : ∀ x, (wb x).head?.toList = (wb x).map (im E)) (hG : Cgood y N) (h1 : Cond.methodLink (mO M) idx y ∈ GT ∨ ∃ host, Cond.methodLinkNest (mO M) idx y host ∈ NWl) (h2 : Cond.static y ∈ GT) (hp : (parseMethodDescriptor y.desc).map (fun d => d.parameters.length) = some n) (hn : as.length = n) (hF : mF N + 1 ≤ mF M ∧ 8 + (mN N + 11) + mL N ≤ mL M) (hst : (st.map fun v => v.category).sum ≤ 8) (hs0 : st0 = as.reverse ++ st) (hd : decode (mB M) pc = .ok (.invokestatic idx, 3))
    (hM : Mt wb l E y N as m o rb) (K : Mh w l E M c0 s0 (pc + 3) lv (wb rb.1 ++ st) rb.2.1 rb.2.2 r) : Mh w l E M c0 s0 pc lv st0 m o r := by
  refine Mh_run (fun h => h) hwb hM (fun ho hb p e R s md args below meth c H locs ls cells slots hC hR hS hsz hz hcs => ?_) K
  subst hs0
  have hts := hC.2.2.2.2.1
  have hfr := hC.2.2.2.2.2.2.2.2.1
  rcases h1 with h1 | ⟨host, h1⟩
  · exact va_runS (As := as.map (im E)) (bytes := mB N) (maxL := mN N) (ret := mR N) (Ts := GT) (own := mO M) (nL := mN M) ⟨hC.1, hC.2.1, hC.2.2.1, hC.2.2.2.1, hts⟩ (hM.2 hb) ⟨callB_of n hts (good_wsm hG.1) rfl rfl rfl (hts _ hG.2.1) (hts _ h1) ⟨hG.2.2.1, hG.2.2.2, hp⟩ ⟨Nat.le_trans hF.1 hfr.1, Nat.le_trans hF.2 hfr.2⟩, hts _ h2⟩ ⟨blind_m, pre_m hC hR hS hz⟩ rfl (by rw [List.length_map]; exact hn) hsz (imr0 as st) (by rw [cat_im]; exact lv_room hst) hd hcs
  · exact va_runSN (As := as.map (im E)) (bytes := mB N) (maxL := mN N) (ret := mR N) (Ts := GT) (own := mO M) (nL := mN M) ⟨hC.1, hC.2.1, hC.2.2.1, hC.2.2.2.1, hts⟩ (hM.2 hb) ⟨va_cnB n hts (good_wsm hG.1) rfl rfl rfl (hC.2.2.2.2.2.2.2.1.2.1 _ h1) (hts _ hG.2.1) ⟨hG.2.2.1, hG.2.2.2, hp⟩ ⟨Nat.le_trans hF.1 hfr.1, Nat.le_trans hF.2 hfr.2⟩, hts _ h2, trivial⟩ ⟨blind_m, pre_m hC hR hS hz⟩ rfl (by rw [List.length_map]; exact hn) hsz (imr0 as st) (by rw [cat_im]; exact lv_room hst) hd hcs
/-- invokespecial of a maker -/
theorem Mh_ci {idx q n : Nat} {st0 : List Value} (hwb : ∀ x, (wb x).head?.toList = (wb x).map (im E)) (hG : Cgood y N) (hrt : mR N = none) (hy1 : y.name = "<init>") (h1 : Cond.methodLink (mO M) idx y ∈ GT ∨ ∃ host, Cond.methodLinkNest (mO M) idx y host ∈ NWl) (h2 : Cond.instanceMethod y ∈ GT) (hp : (parseMethodDescriptor y.desc).map (fun d => d.parameters.length) = some n) (hn : as.length = n) (hF : mF N + 1 ≤ mF M ∧ 8 + (mN N + 11) + mL N ≤ mL M) (hst : (st.map fun v => v.category).sum ≤ 8) (hs0 : st0 = as.reverse ++ .ref q :: st) (hd : decode (mB M) pc = .ok (.invokespecial idx, 3))
    (hM : Mt wb l E y N (.ref q :: as) m o rb) (K : Mh w l E M c0 s0 (pc + 3) lv (wb rb.1 ++ st) rb.2.1 rb.2.2 r) : Mh w l E M c0 s0 pc lv st0 m o r := by
  refine Mh_run (fun h => h) hwb hM (fun ho hb p e R s md args below meth c H locs ls cells slots hC hR hS hsz hz hcs => ?_) K
  subst hs0
  have hts := hC.2.2.2.2.1
  have hfr := hC.2.2.2.2.2.2.2.2.1
  have hcd := hG.1
  have hgw := good_wsm hG.1
  have hw0 : wsm y N = Cond.code y (mB N) (mN N) none :: GT := by unfold wsm; rw [hrt]
  rcases h1 with h1 | ⟨host, h1⟩
  · exact va_runI (As := as.map (im E)) (b := ad E q) (bytes := mB N) (maxL := mN N) (Ts := GT) (own := mO M) (nL := mN M) ⟨hC.1, hC.2.1, hC.2.2.1, hC.2.2.2.1, hts⟩ (hM.2 hb) ⟨callB_of n hts hgw hw0 rfl rfl (hts _ hG.2.1) (hts _ h1) ⟨hG.2.2.1, hG.2.2.2, hp⟩ ⟨Nat.le_trans hF.1 hfr.1, Nat.le_trans hF.2 hfr.2⟩, hy1, hts _ h2⟩ ⟨blind_m, pre_m (as := .ref q :: as) hC hR hS hz⟩ rfl (by rw [List.length_map]; exact hn) hsz (imr as (.ref q) st) (by rw [cat_im]; exact lv_room hst) hd hcs
  · exact va_runIN (As := as.map (im E)) (b := ad E q) (bytes := mB N) (maxL := mN N) (Ts := GT) (own := mO M) (nL := mN M) ⟨hC.1, hC.2.1, hC.2.2.1, hC.2.2.2.1, hts⟩ (hM.2 hb) ⟨va_cnB n hts hgw hw0 rfl rfl (hC.2.2.2.2.2.2.2.1.2.1 _ h1) (hts _ hG.2.1) ⟨hG.2.2.1, hG.2.2.2, hp⟩ ⟨Nat.le_trans hF.1 hfr.1, Nat.le_trans hF.2 hfr.2⟩, hy1, hts _ h2⟩ ⟨blind_m, pre_m (as := .ref q :: as) hC hR hS hz⟩ rfl (by rw [List.length_map]; exact hn) hsz (imr as (.ref q) st) (by rw [cat_im]; exact lv_room hst) hd hcs
theorem wI_ok (x : Int32) : (wI x).head?.toList = (wI x).map (im E) := rfl
theorem wJ_ok (x : Int64) : (wJ x).head?.toList = (wJ x).map (im E) := rfl
theorem wU_ok (x : Unit) : (wU x).head?.toList = (wU x).map (im E) := rfl
end MTC
