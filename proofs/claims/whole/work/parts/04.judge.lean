/-! ===== what is known of the tables; the judgement Mh: from a place in a method's code the machine comes to the answer and memory that a function tells ===== -/
def GT : List Cond := lw_tbl.filter goodWord
theorem mem_GT {w : Cond} (h : w ∈ lw_tbl) (hg : goodWord w = true) : w ∈ GT := List.mem_filter.mpr ⟨h, hg⟩
theorem GT_sub {w : Cond} (h : w ∈ GT) : w ∈ lw_tbl := (List.mem_filter.mp h).1
theorem GT_good {w : Cond} (h : w ∈ GT) : goodWord w = true := (List.mem_filter.mp h).2
def isNest : Cond → Bool
  | .fieldLinkNest .. => true
  | .methodLinkNest .. => true
  | _ => false
def NWl : List Cond := lw_tbl.filter isNest
theorem mem_NW {w : Cond} (h : w ∈ lw_tbl) (hg : isNest w = true) : w ∈ NWl := List.mem_filter.mpr ⟨h, hg⟩
theorem nest_warm {w : Cond} (hn : isNest w = true) {s U : State} (hW : s.WarmedH U.vm) (h : va_Nw w s) : va_Nw w U := by
  cases w <;> first | (simp [isNest] at hn; done) | exact va_Nw.warmF hW h | exact va_Nw.warmM hW h
theorem nest_same {w : Cond} (hn : isNest w = true) {s U : State} (hv : s.vm = U.vm) (h : va_Nw w s) : va_Nw w U := by
  cases w <;> first | (simp [isNest] at hn; done) | exact va_Nw.same rfl hv h
theorem nest_of {w : Cond} (hn : isNest w = true) {A : Array Value} {U : State} (h : w.before A U = true) : va_Nw w U := by
  cases w <;> first | (simp [isNest] at hn; done) | exact va_Nw.of rfl h
def tyl (E : En) : List (ClassId × FieldType) := [(E.2.2.2.1 20, .int), (E.2.2.2.1 21, .long), (E.2.2.2.1 22, .boolean), (E.2.2.2.1 23, .byte), (E.2.2.2.1 24, .object "HayVotes$Stack"), (E.2.2.2.1 25, .object "HayVotes$Cow")]
abbrev eA (E : En) : Nat → Prop := fun q => E.2.1 ≤ q
def lby : List Int32 := [104, 118, 119, 120, 107, 115, 116, 100, 98, 117]
def SF (E : En) (U : State) (H : Heap) : Prop := vk_S 1 [10] [lby] E.2.2.2.2.1 E.2.2.2.2.2.1 (eA E) U H ∧ vk_R "HayVotes$LawReader" 93 "hvwxkstdbu" (E.2.2.2.2.1 0) U ∧ va_Z "java/lang/String" "COMPACT_STRINGS" "Z" (.int 1) (eA E) U H
/-- what holds of every state on the way -/
def KS (E : En) (U : State) (H : Heap) : Prop := va_K E.2.2.1 hcl (tyl E) U ∧ (∀ w ∈ NWl, va_Nw w U) ∧ (va_AO "HayVotes$Stack" U ∧ va_AO "HayVotes$Cow" U) ∧ SF E U H
theorem KS.warm {E : En} {s U : State} {H : Heap} (hW : s.WarmedH U.vm) (h : KS E s H) : KS E U H :=
  ⟨va_K.moved hW.alike h.1, fun w hw => nest_warm (List.mem_filter.mp hw).2 hW (h.2.1 w hw), ⟨va_AO.moved hW.alike h.2.2.1.1, va_AO.moved hW.alike h.2.2.1.2⟩, vk_S.moved hW.alike h.2.2.2.1, vk_R.warm hW h.2.2.2.2.1, va_Z.moved hW.alike h.2.2.2.2.2⟩
theorem KS.same {E : En} {s U : State} {H : Heap} (hv : s.vm = U.vm) (h : KS E s H) : KS E U H :=
  ⟨va_K.moved (by rw [hv]; exact Vm.Alike.refl _) h.1, fun w hw => nest_same (List.mem_filter.mp hw).2 hv (h.2.1 w hw), ⟨va_AO.moved (by rw [hv]; exact Vm.Alike.refl _) h.2.2.1.1, va_AO.moved (by rw [hv]; exact Vm.Alike.refl _) h.2.2.1.2⟩, vk_S.moved (by rw [hv]; exact Vm.Alike.refl _) h.2.2.2.1, vk_R.same hv.symm h.2.2.2.2.1, va_Z.moved (by rw [hv]; exact Vm.Alike.refl _) h.2.2.2.2.2⟩
theorem KS.kept {E : En} {s : State} {H H1 : Heap} (hq : ∀ a : Nat, a < H.size → ¬ eA E a → H1[a]? = H[a]?) (h : KS E s H) : KS E s H1 :=
  ⟨h.1, h.2.1, h.2.2.1, vk_S.kept h.2.2.2.1 hq, h.2.2.2.2.1, va_Z.kept h.2.2.2.2.2 hq⟩
/-- a method: its class, bytes, locals, answer's type, frames and words of locals that it may use, whether it makes an object, whether it is the law -/
abbrev Mi : Type := String × ByteArray × Nat × Option FieldType × Nat × Nat × Bool × Bool
abbrev mO (M : Mi) : String := M.1
abbrev mB (M : Mi) : ByteArray := M.2.1
abbrev mN (M : Mi) : Nat := M.2.2.1
abbrev mR (M : Mi) : Option FieldType := M.2.2.2.1
abbrev mF (M : Mi) : Nat := M.2.2.2.2.1
abbrev mL (M : Mi) : Nat := M.2.2.2.2.2.1
abbrev mI (M : Mi) : Bool := M.2.2.2.2.2.2.1
abbrev mW (M : Mi) : Bool := M.2.2.2.2.2.2.2
def retI (r : Option FieldType) : Instr := match r with
  | none => .return_
  | some .long => .lreturn
  | some _ => .ireturn
def Cx (E : En) (M : Mi) (c0 : Nat) (p : Program) (R : Room) (s : State) (md : MethodId) (args : Array Value) (meth : Method) (c : Code) : Prop :=
  p.tables.exec = Jvm.exec ∧ c.code = mB M ∧ c.maxLocals = mN M ∧ s.vm.findClass (mO M) = some md.cls ∧ (∀ w ∈ GT, w.before args s = true) ∧ meth.sig.returnType = mR M ∧ meth.locks = false ∧ KS E s s.heap ∧ (mF M ≤ R.frames ∧ mL M ≤ R.locals) ∧ s.heap.size = E.2.1 + c0 ∧ (mI M = true → meth.name = "<init>") ∧ (mW M = true → va_X E.1 E.2.2.2.2.2.2.1 E.2.2.2.2.2.2.2 s s.heap ∧ E.1 < s.heap.size ∧ ¬ eA E E.1)
def Mono {α : Type} (m : Mm) (o : Prop) (r : α × Mm × Prop) : Prop := (r.2.2 → o) ∧ gC m ≤ gC r.2.1 ∧ gS m ≤ gS r.2.1
/-- what can be answered as it is -/
def rok (t : Option FieldType) (v : List Value) : Prop := match t, v with
  | some ty, [x] => narrow ty x = x
  | _, _ => True
/-- where it returns -/
def Rt {α : Type} (w : α → List Value) (l : Launch) (E : En) (M : Mi) (c0 s0 : Nat) (r : α × Mm × Prop) (p : Program) (e : Env) (R : Room) (s : State) (md : MethodId) (args : Array Value) (below : List Frame) (meth : Method) (c : Code) (Q : State → Prop) : Prop :=
  ∀ (pc : Nat) (H : Heap) (locs : List Loc) (ls : Array Slot), decode (mB M) pc = .ok (retI (mR M), 1) → rok (mR M) (w r.1) → HR E r.2.1 H → va_S (eA E) s.heap H locs → W p l e R s md args below meth c H locs (gC r.2.1 - c0) (gS r.2.1 - s0) Q (F0 md pc ls (w r.1))
def Mh {α : Type} (w : α → List Value) (l : Launch) (E : En) (M : Mi) (c0 s0 : Nat) (pc : Nat) (lv : List (Nat × Value)) (st : List Value) (m : Mm) (o : Prop) (r : α × Mm × Prop) : Prop :=
  Mono m o r ∧ (r.2.2 → ∀ (p : Program) (e : Env) (R : Room) (s : State) (md : MethodId) (args : Array Value) (below : List Frame) (meth : Method) (c : Code) (Q : State → Prop) (H : Heap) (locs : List Loc) (ls : Array Slot),
    Cx E M c0 p R s md args meth c → (gC r.2.1 - c0 ≤ R.cells ∧ gS r.2.1 - s0 ≤ R.slots) → (c0 ≤ gC m ∧ s0 ≤ gS m) → Rt w l E M c0 s0 r p e R s md args below meth c Q → HR E m H → va_S (eA E) s.heap H locs → lv_has ls (mN M) (lv.map (imL E)) →
    W p l e R s md args below meth c H locs (gC m - c0) (gS m - s0) Q (F0 md pc ls (st.map (im E))))
def wI (x : Int32) : List Value := [.int x]
def wJ (x : Int64) : List Value := [.long x]
def wU (_ : Unit) : List Value := []
section MH
variable {α : Type} {w : α → List Value} {l : Launch} {E : En} {M : Mi} {c0 s0 : Nat} {pc : Nat} {lv : List (Nat × Value)} {st : List Value} {m : Mm} {o : Prop} {r : α × Mm × Prop}
/-- a step that leaves the heap alone -/
theorem Mh_go {pc' : Nat} {lv' : List (Nat × Value)} {st' : List Value} {o' : Prop} (ho : o' → o)
    (hW : o' → ∀ (p : Program) (e : Env) (R : Room) (s : State) (md : MethodId) (args : Array Value) (below : List Frame) (meth : Method) (c : Code) (Q : State → Prop) (H : Heap) (locs : List Loc) (ls : Array Slot) (cells slots : Nat),
      Cx E M c0 p R s md args meth c → HR E m H → va_S (eA E) s.heap H locs → lv_has ls (mN M) (lv.map (imL E)) → (∀ ls', lv_has ls' (mN M) (lv'.map (imL E)) → W p l e R s md args below meth c H locs cells slots Q (F0 md pc' ls' (st'.map (im E)))) → W p l e R s md args below meth c H locs cells slots Q (F0 md pc ls (st.map (im E))))
    (K : Mh w l E M c0 s0 pc' lv' st' m o' r) : Mh w l E M c0 s0 pc lv st m o r := by
  obtain ⟨⟨k1, k2⟩, K⟩ := K
  refine ⟨⟨fun h => ho (k1 h), k2⟩, fun hr p e R s md args below meth c Q H locs ls hC hc hm hRt hR hS hl => ?_⟩
  exact hW (k1 hr) p e R s md args below meth c Q H locs ls _ _ hC hR hS hl (fun ls' hl' => K hr p e R s md args below meth c Q H locs ls' hC hc hm hRt hR hS hl')
/-- a branch -/
theorem Mh_br {C : Prop} [Decidable C] {p1 p2 : Nat} {st' : List Value} {r1 r2 : α × Mm × Prop}
    (hW : ∀ (p : Program) (e : Env) (R : Room) (s : State) (md : MethodId) (args : Array Value) (below : List Frame) (meth : Method) (c : Code) (Q : State → Prop) (H : Heap) (locs : List Loc) (ls : Array Slot) (cells slots : Nat),
      Cx E M c0 p R s md args meth c → (C → W p l e R s md args below meth c H locs cells slots Q (F0 md p1 ls (st'.map (im E)))) → (¬ C → W p l e R s md args below meth c H locs cells slots Q (F0 md p2 ls (st'.map (im E)))) → W p l e R s md args below meth c H locs cells slots Q (F0 md pc ls (st.map (im E))))
    (hr : r = if C then r1 else r2) (K1 : C → Mh w l E M c0 s0 p1 lv st' m o r1) (K2 : ¬ C → Mh w l E M c0 s0 p2 lv st' m o r2) : Mh w l E M c0 s0 pc lv st m o r := by
  subst hr
  by_cases hc : C
  · rw [if_pos hc]
    obtain ⟨k1, K⟩ := K1 hc
    exact ⟨k1, fun hr p e R s md args below meth c Q H locs ls hC hcc hm hRt hR hS hl => hW p e R s md args below meth c Q H locs ls _ _ hC (fun _ => K hr p e R s md args below meth c Q H locs ls hC hcc hm hRt hR hS hl) (fun h => absurd hc h)⟩
  · rw [if_neg hc]
    obtain ⟨k1, K⟩ := K2 hc
    exact ⟨k1, fun hr p e R s md args below meth c Q H locs ls hC hcc hm hRt hR hS hl => hW p e R s md args below meth c Q H locs ls _ _ hC (fun h => absurd h hc) (fun _ => K hr p e R s md args below meth c Q H locs ls hC hcc hm hRt hR hS hl)⟩
/-- a store into the heap -/
theorem Mh_st {pc' : Nat} {st' : List Value} {o' : Prop} {m' : Mm} (ho : o' → o) (hg : gC m' = gC m ∧ gS m' = gS m)
    (hW : o' → ∀ (p : Program) (e : Env) (R : Room) (s : State) (md : MethodId) (args : Array Value) (below : List Frame) (meth : Method) (c : Code) (Q : State → Prop) (H : Heap) (locs : List Loc) (ls : Array Slot) (cells slots : Nat),
      Cx E M c0 p R s md args meth c → HR E m H → va_S (eA E) s.heap H locs → (∀ H1 locs1, HR E m' H1 → va_S (eA E) s.heap H1 locs1 → W p l e R s md args below meth c H1 locs1 cells slots Q (F0 md pc' ls (st'.map (im E)))) → W p l e R s md args below meth c H locs cells slots Q (F0 md pc ls (st.map (im E))))
    (K : Mh w l E M c0 s0 pc' lv st' m' o' r) : Mh w l E M c0 s0 pc lv st m o r := by
  obtain ⟨⟨k1, k2, k3⟩, K⟩ := K
  refine ⟨⟨fun h => ho (k1 h), by rw [← hg.1]; exact k2, by rw [← hg.2]; exact k3⟩, fun hr p e R s md args below meth c Q H locs ls hC hc hm hRt hR hS hl => ?_⟩
  refine hW (k1 hr) p e R s md args below meth c Q H locs ls _ _ hC hR hS (fun H1 locs1 hR1 hS1 => ?_)
  have h := K hr p e R s md args below meth c Q H1 locs1 ls hC hc (by rw [hg.1, hg.2]; exact hm) hRt hR1 hS1 hl
  rw [hg.1, hg.2] at h
  exact h
/-- the return -/
theorem Mh_ret {x : α} (hd : decode (mB M) pc = .ok (retI (mR M), 1)) (hw : st.map (im E) = w x) (hk : o → rok (mR M) (w x)) (hr : r = (x, m, o)) : Mh w l E M c0 s0 pc lv st m o r := by
  subst hr
  refine ⟨⟨id, Nat.le_refl _, Nat.le_refl _⟩, fun hr p e R s md args below meth c Q H locs ls hC hc hm hRt hR hS hl => ?_⟩
  rw [hw]
  exact hRt pc H locs ls hd (hk hr) hR hS
/-- the end of a loop's count -/
theorem Mh_out {x : α} (hr : r = (x, m, False)) : Mh w l E M c0 s0 pc lv st m o r := by
  subst hr
  exact ⟨⟨fun h => h.elim, Nat.le_refl _, Nat.le_refl _⟩, fun h => h.elim⟩
/-- what is known need not be told -/
theorem Mh_ok {c : Prop} (h : o → c) (K : Mh w l E M c0 s0 pc lv st m o r) : Mh w l E M c0 s0 pc lv st m (o ∧ c) r := ⟨⟨fun hr => ⟨K.1.1 hr, h (K.1.1 hr)⟩, K.1.2⟩, K.2⟩
/-- fewer locals -/
theorem Mh_sub {lv' : List (Nat × Value)} (ks : List Nat) (h : lv_pick lv ks = lv') (K : Mh w l E M c0 s0 pc lv' st m o r) : Mh w l E M c0 s0 pc lv st m o r := by
  refine ⟨K.1, fun hr p e R s md args below meth c Q H locs ls hC hc hm hRt hR hS hl => K.2 hr p e R s md args below meth c Q H locs ls hC hc hm hRt hR hS ⟨hl.1, hl.2.1, fun q hq => ?_⟩⟩
  subst h
  obtain ⟨x, hx, rfl⟩ := List.mem_map.mp hq
  obtain ⟨k, -, hk⟩ := List.mem_filterMap.mp hx
  exact hl.2.2 _ (List.mem_map.mpr ⟨x, List.mem_of_getElem? hk, rfl⟩)
theorem Mh_o {o' : Prop} (ho : o' → o) (K : Mh w l E M c0 s0 pc lv st m o' r) : Mh w l E M c0 s0 pc lv st m o r := ⟨⟨fun h => ho (K.1.1 h), K.1.2⟩, K.2⟩
end MH
/-- a boolean answer -/
theorem Mh_retZ {l : Launch} {E : En} {M : Mi} {c0 s0 : Nat} {pc : Nat} {lv : List (Nat × Value)} {m : Mm} {o : Prop} {r : Int32 × Mm × Prop} {x : Int32} (hd : decode (mB M) pc = .ok (retI (mR M), 1)) (ht : mR M = some .boolean ∨ mR M = some .byte) (hr : r = (x, m, o ∧ (x = 0 ∨ x = 1))) : Mh wI l E M c0 s0 pc lv [.int x] m o r :=
  Mh_o (o' := o ∧ (x = 0 ∨ x = 1)) And.left (Mh_ret hd rfl (fun h => by
    rcases ht with ht | ht
    · rw [ht]; show narrow .boolean (.int x) = .int x; rcases h.2 with rfl | rfl <;> decide
    · rw [ht]; show narrow .byte (.int x) = .int x; rcases h.2 with rfl | rfl <;> decide) hr)
def bnd {β γ : Type} (r : β × Mm × Prop) (k : β → Mm → Prop → γ) : γ := k r.1 r.2.1 r.2.2
abbrev ix (x : Int32) : Nat := x.toNatClampNeg
abbrev irm (a b : Int32) : Int32 := a - a / b * b
abbrev lrm (a b : Int64) : Int64 := a - a / b * b
