/-! ===== what is made; calls; a method's contract out of its walk ===== -/
section MHN
variable {α : Type} {w : α → List Value} {l : Launch} {E : En} {M : Mi} {c0 s0 : Nat} {pc : Nat} {lv : List (Nat × Value)} {st : List Value} {m : Mm} {o : Prop} {r : α × Mm × Prop}
theorem HR_size {p : Program} {e : Env} {R : Room} {s : State} {md : MethodId} {args : Array Value} {below : List Frame} {meth : Method} {c : Code} {T : State} {H : Heap} {locs : List Loc} {sl : Nat} (X : Stand p l e R s md args below meth c T locs (gC m - c0) sl) (hT : T.heap = H) (h0 : s.heap.size = E.2.1 + c0) (hm : c0 ≤ gC m) (hR : HR E m H) (hS : va_S (eA E) s.heap H locs) : H.size = E.2.1 + gC m := by
  have h1 := X.heapSize
  rw [hT] at h1
  have h2 := hS.1
  by_cases hz : gC m = 0
  · omega
  · have h3 := (hR.1 (gC m - 1) _ (wls_get E m (k := gC m - 1) (by omega))).lt
    dsimp only at h3
    omega
theorem ad_succ (E : En) (n : Nat) : ad E (n + 1) = E.2.1 + n := by unfold ad; rw [if_neg (by omega), Nat.add_sub_cancel]
/-- a cell is made -/
theorem Mh_al {pc' : Nat} {st0 : List Value} (t n z : Nat) (ht : t ≠ 0)
    (hW : ∀ (p : Program) (e : Env) (R : Room) (s : State) (md : MethodId) (args : Array Value) (below : List Frame) (meth : Method) (c : Code) (Q : State → Prop) (H : Heap) (locs : List Loc) (ls : Array Slot) (cells slots : Nat),
      Cx E M c0 p R s md args meth c → HR E m H → va_S (eA E) s.heap H locs → (∀ q, s.heap.size ≤ q → eA E q) → (cells + 1 ≤ R.cells ∧ slots + z ≤ R.slots) → (∀ (x : Nat) (H1 : Heap), va_P E.2.2.1 hcl (wls E m ++ [(x, cel E (nC m t n z) (gC m + 1))]) H1 → va_D (eA E) (wls E m ++ [(x, cel E (nC m t n z) (gC m + 1))]) → va_S (eA E) s.heap H1 locs → W p l e R s md args below meth c H1 locs (cells + 1) (slots + z) Q (F0 md pc' ls (.ref x :: st.map (im E)))) → W p l e R s md args below meth c H locs cells slots Q (F0 md pc ls (st0.map (im E))))
    (K : Mh w l E M c0 s0 pc' lv (.ref (gC m + 1) :: st) (nC m t n z) o r) : Mh w l E M c0 s0 pc lv st0 m o r := by
  obtain ⟨⟨k1, k2, k3⟩, K⟩ := K
  rw [gC_nC] at k2
  rw [gS_nC] at k3
  refine ⟨⟨k1, by omega, by omega⟩, fun hr p e R s md args below meth c Q H locs ls hC hc hm hRt hR hS hl => ?_⟩
  have h0 := hC.2.2.2.2.2.2.2.2.2.1
  refine hW p e R s md args below meth c Q H locs ls _ _ hC hR hS (fun q hq => by show E.2.1 ≤ q; omega) ⟨by omega, by omega⟩ (fun (x : Nat) H1 hP1 hD1 hS1 => ?_)
  intro T hT X
  have h1 := X.heapSize
  rw [hT] at h1
  have hnew : (wls E m ++ [(x, cel E (nC m t n z) (gC m + 1))])[gC m]? = some (x, cel E (nC m t n z) (gC m + 1)) := by
    rw [List.getElem?_append_right (by rw [wls_len]; exact Nat.le_refl _), wls_len, Nat.sub_self]
    rfl
  have hlt : x < H1.size := (hP1 _ _ hnew).lt
  have hA : E.2.1 ≤ x := hD1.2 _ _ hnew
  have hx : x = E.2.1 + gC m := by
    by_cases hxx : x < E.2.1 + gC m
    · have hk : x - E.2.1 < gC m := by omega
      have hold : (wls E m ++ [(x, cel E (nC m t n z) (gC m + 1))])[x - E.2.1]? = some (E.2.1 + (x - E.2.1), cel E m (x - E.2.1 + 1)) := by
        rw [List.getElem?_append_left (by rw [wls_len]; exact hk)]
        exact wls_get E m hk
      have := hD1.1 _ _ _ _ hold hnew (by show E.2.1 + (x - E.2.1) = x; omega)
      omega
    · omega
  have e1 : gC (nC m t n z) - c0 = gC m - c0 + 1 := by rw [gC_nC]; omega
  have e2 : gS (nC m t n z) - s0 = gS m - s0 + z := by rw [gS_nC]; omega
  have h := K hr p e R s md args below meth c Q H1 locs ls hC hc ⟨by rw [gC_nC]; omega, by rw [gS_nC]; omega⟩ hRt (HR_new hR ht hx rfl hP1) hS1 hl
  rw [e1, e2, List.map_cons, show im E (.ref (gC m + 1)) = .ref (ad E (gC m + 1)) from rfl, ad_succ, ← hx] at h
  exact h T hT X
def dfv (k : Nat) : Value := if k = 0 then .int 0 else if k = 1 then .long 0 else .null
/-- new -/
theorem Mh_new {ci idx : Nat} {ty : Nat → FieldType} (h12 : ci < 12) (hc : hcl[ci]? = some (cl3 ci)) (hin : ∀ w ∈ u_ws (cl3 ci).1 (cl3 ci).2.1 (cl3 ci).2.2, w ∈ GT) (hT : Fty ci ty) (hdf : ∀ j, j < (cl3 ci).2.2 → (fk ci)[j]? = some (kdD ((cl3 ci).2.1 j).2.2.1) ∧ defaultValue (ty j) = dfv (kdD ((cl3 ci).2.1 j).2.2.1)) (hcl : Cond.classLink (mO M) idx (cl3 ci).1 ∈ GT) (hins : Cond.instantiable (cl3 ci).1 (cl3 ci).2.2 ∈ GT) (hini : Cond.initialized (cl3 ci).1 ∈ GT) (hd : decode (mB M) pc = .ok (.new idx, 3))
    (K : Mh w l E M c0 s0 (pc + 3) lv (.ref (gC m + 1) :: st) (nC m (ci + 1) 0 (cl3 ci).2.2) o r) : Mh w l E M c0 s0 pc lv st m o r := by
  refine Mh_al (ci + 1) 0 (cl3 ci).2.2 (by omega) (fun p e R s md args below meth c Q H locs ls cells slots hC hR hS hA hb kk => ?_) K
  have hts := hC.2.2.2.2.1
  have hcel : cel E (nC m (ci + 1) 0 (cl3 ci).2.2) (gC m + 1) = .inr (ci, fls E (nC m (ci + 1) 0 (cl3 ci).2.2) (gC m + 1) (fk ci)) := cel_obj E _ _ ci (by rw [gT_nC, if_pos rfl]) h12
  refine va_new hC.1 hC.2.1 hts hin ty hT.1 hC.2.2.2.1 (hts _ hcl) (hts _ hins) (hts _ hini) hC.2.2.2.2.2.2.2.1.1 hR.1 (wls_D E m) hS hA hc (fs := fls E (nC m (ci + 1) 0 (cl3 ci).2.2) (gC m + 1) (fk ci)) (fun j hj => ?_) hb.1 hb.2 hd (fun q H1 hP1 hD1 hS1 => kk q H1 (by rw [hcel]; exact hP1) (by rw [hcel]; exact hD1) hS1)
  obtain ⟨h1, h2⟩ := hdf j hj
  rw [h2]
  unfold vp_V
  rw [List.getD_eq_getElem?_getD, fls_get E _ _ h1, Option.getD_some]
  simp only [fvl, dfv, gI_nC, gL_nC, gR_nC, if_true, rfo, va_rf]
/-- newarray -/
theorem Mh_nar {n : Int32} (t t0 N : Nat) (at0 : ArrayType) {ty : FieldType} (ht : t = 20 ∨ t = 21 ∨ t = 22 ∨ t = 23) (h0 : (tyl E)[t0]? = some (E.2.2.2.1 t, ty)) (hty : newarray.typeOf at0 = ty) (hra : ∀ (s : State) (cA : ClassId), va_RA s cA ty → s.vm.findClass ("[" ++ ty.toString) = some cA) (hdv : (t = 21 ∧ defaultValue ty = .long 0) ∨ (t ≠ 21 ∧ defaultValue ty = .int 0)) (hg : Cond.arrayClass ty ∈ GT) (hn : ¬ n < 0) (hN : n.toNatClampNeg = N) (hbt : N * componentBytes ty ≤ 536870912) (hd : decode (mB M) pc = .ok (.newarray at0, 2))
    (K : Mh w l E M c0 s0 (pc + 2) lv (.ref (gC m + 1) :: st) (nC m t N N) o r) : Mh w l E M c0 s0 pc lv (.int n :: st) m o r := by
  refine Mh_al t N N (by omega) (fun p e R s md args below meth c Q H locs ls cells slots hC hR hS hA hb kk => ?_) K
  have hK := hC.2.2.2.2.2.2.2.1.1
  have hcel : cel E (nC m t N N) (gC m + 1) = .inl (E.2.2.2.1 t, ace E (nC m t N N) (gC m + 1)) := by
    unfold cel
    rw [if_neg (by rw [gT_nC, if_pos rfl]; omega), gT_nC, if_pos rfl]
  refine va_newa hC.1 hC.2.1 (atype := at0) (by rw [hty]; exact hC.2.2.2.2.1 _ hg) hty hK hR.1 (wls_D E m) hS hA (a0 := ace E (nC m t N N) (gC m + 1)) (N' := N) (fun cA => ?_) hn hN hbt hb.1 hb.2 hd (fun q cA H1 hK1 hP1 hD1 hS1 => ?_)
  · have eN : gN (nC m t N N) (gC m + 1) = N := by rw [gN_nC, if_pos rfl]
    have eT : gT (nC m t N N) (gC m + 1) = t := by rw [gT_nC, if_pos rfl]
    unfold ace
    rw [eN, eT]
    rcases hdv with ⟨h1, h2⟩ | ⟨h1, h2⟩
    · rw [if_pos h1, vp_cell_l, h2]
      congr 1
      funext j
      rw [gL_nC, if_pos rfl]
    · rw [if_neg h1, if_pos (by omega), vp_cell_i, h2]
      congr 1
      funext j
      rw [gI_nC, if_pos rfl]
  · have h1 := (hK1.2 (tyl E).length (cA, ty) (by simp)).2
    have h2 := (hK.2 t0 _ h0).2
    have h3 : cA = E.2.2.2.1 t := Option.some.inj ((hra s cA h1).symm.trans (hra s _ h2))
    subst h3
    exact kk q H1 (by rw [hcel]; exact hP1) (by rw [hcel]; exact hD1) hS1
/-- anewarray -/
theorem Mh_anr {n : Int32} {idx : Nat} (t t0 N : Nat) {C : String} (ht : 24 ≤ t) (h0 : (tyl E)[t0]? = some (E.2.2.2.1 t, .object C)) (hao : ∀ s H, KS E s H → va_AO C s) (hg : Cond.classLink (mO M) idx C ∈ GT) (hn : ¬ n < 0) (hN : n.toNatClampNeg = N) (hbt : N * 4 ≤ 536870912) (hd : decode (mB M) pc = .ok (.anewarray idx, 3))
    (K : Mh w l E M c0 s0 (pc + 3) lv (.ref (gC m + 1) :: st) (nC m t N N) o r) : Mh w l E M c0 s0 pc lv (.int n :: st) m o r := by
  refine Mh_al t N N (by omega) (fun p e R s md args below meth c Q H locs ls cells slots hC hR hS hA hb kk => ?_) K
  have hKS := hC.2.2.2.2.2.2.2.1
  have hK := hKS.1
  have hcel : cel E (nC m t N N) (gC m + 1) = .inl (E.2.2.2.1 t, N, .inr (.inr (.inr (.inr (fun _ => none))))) := by
    rw [cel_refs E (nC m t N N) (gC m + 1) t (by rw [gT_nC, if_pos rfl]) ht, gN_nC, if_pos rfl]
    simp only [gR_nC, if_true, rfo]
  refine va_newq hC.1 hC.2.1 hC.2.2.2.1 (hC.2.2.2.2.1 _ hg) (hao s _ hKS) hK hR.1 (wls_D E m) hS hA (N' := N) hn hN hbt hb.1 hb.2 hd (fun q cA H1 hK1 hP1 hD1 hS1 => ?_)
  have h1 := (hK1.2 (tyl E).length (cA, .object C) (by simp)).2
  have h2 := (hK.2 t0 _ h0).2
  obtain ⟨_, _, _, _, _, f1⟩ := h1
  obtain ⟨_, _, _, _, _, f2⟩ := h2
  have h3 : cA = E.2.2.2.1 t := Option.some.inj (f1.symm.trans f2)
  subst h3
  exact kk q H1 (by rw [hcel]; exact hP1) (by rw [hcel]; exact hD1) hS1
/-- Object's own maker -/
theorem Mh_oin {idx q : Nat} (hF : 1 ≤ mF M ∧ 12 ≤ mL M) (h1 : Cond.methodLink (mO M) idx objectInit ∈ GT) (h2 : Cond.instanceMethod objectInit ∈ GT) (h3 : Cond.code objectInit ⟨#[0xb1]⟩ 1 none ∈ GT) (hd : decode (mB M) pc = .ok (.invokespecial idx, 3)) (K : Mh w l E M c0 s0 (pc + 3) lv [] m o r) : Mh w l E M c0 s0 pc lv [.ref q] m o r :=
  Mh_go id (fun _ p e R s md args below meth c Q H locs ls cells slots hC hR hS hl k => by
    obtain ⟨hx, hb, hml, hown, hts, -, -, -, hfl, -⟩ := hC
    exact W.objInit hx hb hown (hts _ h1) (hts _ h2) (hts _ h3) (g := F0 md pc ls [.ref (ad E q)]) rfl (by show ls.size = c.maxLocals; rw [hl.1, hml]) rfl hd (by omega) (by simp [F0, JFrame.monitorRoom]; omega) (k ls hl)) K
end MHN
