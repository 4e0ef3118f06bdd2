/-! ===== fields, arrays, what is made ===== -/
/-- a field of a class, of a kind -/
def Fdk (ci k kd : Nat) : Prop := ci < 12 ∧ hcl[ci]? = some (cl3 ci) ∧ (∀ w ∈ u_ws (cl3 ci).1 (cl3 ci).2.1 (cl3 ci).2.2, w ∈ GT) ∧ k < (cl3 ci).2.2 ∧ (fk ci)[k]? = some kd
/-- how a class links it -/
def Flk (own : String) (idx ci k : Nat) : Prop := Cond.fieldLink own idx ((cl3 ci).2.1 k).1 ((cl3 ci).2.1 k).2.1 ((cl3 ci).2.1 k).2.2.1 ∈ GT ∨ ∃ host, Cond.fieldLinkNest own idx ((cl3 ci).2.1 k).1 ((cl3 ci).2.1 k).2.1 ((cl3 ci).2.1 k).2.2.1 host ∈ NWl
/-- what a class' fields are: types, names apart -/
def Fty (ci : Nat) (ty : Nat → FieldType) : Prop := (∀ k, k < (cl3 ci).2.2 → parseFieldDescriptor ((cl3 ci).2.1 k).2.2.1 = some (ty k)) ∧ (∀ a, a < (cl3 ci).2.2 → ∀ b, b < (cl3 ci).2.2 → a ≠ b → ((cl3 ci).2.1 a).2.1 ≠ ((cl3 ci).2.1 b).2.1)
section MHF
variable {α : Type} {w : α → List Value} {l : Launch} {E : En} {M : Mi} {c0 s0 : Nat} {pc : Nat} {lv : List (Nat × Value)} {st : List Value} {m : Mm} {o : Prop} {r : α × Mm × Prop}
/-- getfield -/
theorem Mh_get {ci k kd idx q : Nat} {x : Value} (hF : Fdk ci k kd) (hL : Flk (mO M) idx ci k) (hd : decode (mB M) pc = .ok (.getfield idx, 3)) {o' : Prop} (ho : o' → o ∧ gT m q = ci + 1) (hx : o' → fvl E m q k kd = im E x)
    (K : Mh w l E M c0 s0 (pc + 3) lv (x :: st) m o' r) : Mh w l E M c0 s0 pc lv (.ref q :: st) m o r := by
  obtain ⟨h12, hc, hin, hk, hkd⟩ := hF
  refine Mh_go (fun h => (ho h).1) (fun h p e R s md args below meth c Q H locs ls cells slots hC hR hS hl kk => ?_) K
  obtain ⟨hx1, hb, hml, hown, hts, hr, hlk, hKS, -⟩ := hC
  have hq : gT m q = ci + 1 := (ho h).2
  have hat := HR_at hR (q := q) (by omega)
  rw [cel_obj E m q ci hq h12] at hat
  have hv : (fls E m q (fk ci))[k]? = some (im E x) := by rw [fls_get E m q hkd, hx h]
  rcases hL with hL | ⟨host, hL⟩
  · exact va_get hx1 hb hts hin hown hKS.1 hR.1 (q - 1) hat hc k hk (hts _ hL) (fun _ h => h) hv hd (kk ls hl)
  · exact va_getN hx1 hb hts hin hown hKS.1 hR.1 (q - 1) hat hc k hk (va_Nw.use rfl (hKS.2.1 _ hL)) (fun _ h => h) hv hd (kk ls hl)
theorem Mh_gI {ci k idx q : Nat} (hF : Fdk ci k 0) (hL : Flk (mO M) idx ci k) (hd : decode (mB M) pc = .ok (.getfield idx, 3)) (K : Mh w l E M c0 s0 (pc + 3) lv (.int (gI m q k) :: st) m (o ∧ gT m q = ci + 1) r) : Mh w l E M c0 s0 pc lv (.ref q :: st) m o r :=
  Mh_get (o' := o ∧ gT m q = ci + 1) hF hL hd id (fun _ => rfl) K
theorem Mh_gJ {ci k idx q : Nat} (hF : Fdk ci k 1) (hL : Flk (mO M) idx ci k) (hd : decode (mB M) pc = .ok (.getfield idx, 3)) (K : Mh w l E M c0 s0 (pc + 3) lv (.long (gL m q k) :: st) m (o ∧ gT m q = ci + 1) r) : Mh w l E M c0 s0 pc lv (.ref q :: st) m o r :=
  Mh_get (o' := o ∧ gT m q = ci + 1) hF hL hd id (fun _ => rfl) K
theorem Mh_gR {ci k idx q : Nat} (hF : Fdk ci k 2) (hL : Flk (mO M) idx ci k) (hd : decode (mB M) pc = .ok (.getfield idx, 3)) (K : Mh w l E M c0 s0 (pc + 3) lv (.ref (gR m q k) :: st) m (o ∧ (gT m q = ci + 1 ∧ gR m q k ≠ 0)) r) : Mh w l E M c0 s0 pc lv (.ref q :: st) m o r :=
  Mh_get (o' := o ∧ (gT m q = ci + 1 ∧ gR m q k ≠ 0)) hF hL hd (fun h => ⟨h.1, h.2.1⟩) (fun h => by simp only [fvl, rfo, if_neg h.2.2]; rfl) K
/-- putfield -/
theorem Mh_put {ci k kd idx q : Nat} {ty : Nat → FieldType} {x : Value} {m' : Mm} (hF : Fdk ci k kd) (hT : Fty ci ty) (hL : Flk (mO M) idx ci k) (hfin : ((cl3 ci).2.1 k).2.2.2 = false ∨ (((cl3 ci).2.1 k).2.2.2 = true ∧ mI M = true ∧ ((cl3 ci).2.1 k).1 = mO M ∧ Cond.fieldLink (mO M) idx ((cl3 ci).2.1 k).1 ((cl3 ci).2.1 k).2.1 ((cl3 ci).2.1 k).2.2.1 ∈ GT)) (hd : decode (mB M) pc = .ok (.putfield idx, 3)) {o' : Prop} (ho : o' → o ∧ gT m q = ci + 1) (hn : o' → narrow (ty k) (im E x) = im E x) (hf : o' → fits (ty k) (im E x) = true) (hg : gC m' = gC m ∧ gS m' = gS m)
    (hm : o' → ∀ H H1, HR E m H → va_P E.2.2.1 hcl ((wls E m).set (q - 1) (ad E q, .inr (ci, (fls E m q (fk ci)).set k (im E x)))) H1 → HR E m' H1)
    (K : Mh w l E M c0 s0 (pc + 3) lv st m' o' r) : Mh w l E M c0 s0 pc lv (x :: .ref q :: st) m o r := by
  obtain ⟨h12, hc, hin, hk, hkd⟩ := hF
  refine Mh_st (fun h => (ho h).1) hg (fun h p e R s md args below meth c Q H locs ls cells slots hC hR hS kk => ?_) K
  obtain ⟨hx1, hb, hml, hown, hts, hr, hlk, hKS, -, -, hini, -⟩ := hC
  have hq : gT m q = ci + 1 := (ho h).2
  have hat := HR_at hR (q := q) (by omega)
  rw [cel_obj E m q ci hq h12] at hat
  have hlen : k < (fls E m q (fk ci)).length := by rw [fls_len]; exact (List.getElem?_eq_some_iff.mp hkd).1
  have kk' : ∀ (H1 : Heap) (locs1 : List Loc), va_P E.2.2.1 hcl ((wls E m).set (q - 1) (ad E q, .inr (ci, (fls E m q (fk ci)).set k (im E x)))) H1 → va_D (eA E) ((wls E m).set (q - 1) (ad E q, .inr (ci, (fls E m q (fk ci)).set k (im E x)))) → va_S (eA E) s.heap H1 locs1 → W p l e R s md args below meth c H1 locs1 cells slots Q (F0 md (pc + 3) ls (st.map (im E))) :=
    fun H1 locs1 hP1 _ hS1 => kk H1 locs1 (hm h H H1 hR hP1) hS1
  rcases hfin with hfin | ⟨hfin, hi, hdec, hL2⟩
  · rcases hL with hL | ⟨host, hL⟩
    · exact va_put hx1 hb hts hin ty hT.1 hT.2 hown hKS.1 hR.1 (wls_D E m) hS (q - 1) hat hc k hk (hts _ hL) (fun _ h => h) hfin (hT.1 k hk) (hn h) (hf h) hlen hd kk'
    · exact va_putN hx1 hb hts hin ty hT.1 hT.2 hown hKS.1 hR.1 (wls_D E m) hS (q - 1) hat hc k hk (va_Nw.use rfl (hKS.2.1 _ hL)) (fun _ h => h) hfin (hT.1 k hk) (hn h) (hf h) hlen hd kk'
  · exact va_putF hx1 hb hts hin ty hT.1 hT.2 hown hKS.1 hR.1 (wls_D E m) hS (q - 1) hat hc k hk (hts _ hL2) (fun _ h => h) hfin (hini hi) hdec (hT.1 k hk) (hn h) (hf h) hlen hd kk'
theorem Mh_pI {ci k idx q : Nat} {ty : Nat → FieldType} {x : Int32} (hF : Fdk ci k 0) (hT : Fty ci ty) (ht : ty k = .int) (hL : Flk (mO M) idx ci k) (hfin : ((cl3 ci).2.1 k).2.2.2 = false) (hd : decode (mB M) pc = .ok (.putfield idx, 3)) (K : Mh w l E M c0 s0 (pc + 3) lv st (sI m q k x) (o ∧ gT m q = ci + 1) r) : Mh w l E M c0 s0 pc lv (.int x :: .ref q :: st) m o r :=
  Mh_put (m' := sI m q k x) (o' := o ∧ gT m q = ci + 1) hF hT hL (.inl hfin) hd id (fun _ => by rw [ht]; rfl) (fun _ => by rw [ht]; rfl) ⟨rfl, rfl⟩ (fun h H H1 hR hP => HR_fldI hR h.2 hF.1 hF.2.2.2.2 hP) K
theorem nar_bool {x : Int32} (h : x = 0 ∨ x = 1) : narrow .boolean (.int x) = .int x ∧ fits .boolean (.int x) = true := by rcases h with rfl | rfl <;> decide
theorem Mh_pZ {ci k idx q : Nat} {ty : Nat → FieldType} {x : Int32} (hF : Fdk ci k 0) (hT : Fty ci ty) (ht : ty k = .boolean) (hL : Flk (mO M) idx ci k) (hfin : ((cl3 ci).2.1 k).2.2.2 = false) (hd : decode (mB M) pc = .ok (.putfield idx, 3)) (K : Mh w l E M c0 s0 (pc + 3) lv st (sI m q k x) (o ∧ (gT m q = ci + 1 ∧ (x = 0 ∨ x = 1))) r) : Mh w l E M c0 s0 pc lv (.int x :: .ref q :: st) m o r :=
  Mh_put (m' := sI m q k x) (o' := o ∧ (gT m q = ci + 1 ∧ (x = 0 ∨ x = 1))) hF hT hL (.inl hfin) hd (fun h => ⟨h.1, h.2.1⟩) (fun h => by rw [ht]; exact (nar_bool h.2.2).1) (fun h => by rw [ht]; exact (nar_bool h.2.2).2) ⟨rfl, rfl⟩ (fun h H H1 hR hP => HR_fldI hR h.2.1 hF.1 hF.2.2.2.2 hP) K
theorem Mh_pJ {ci k idx q : Nat} {ty : Nat → FieldType} {x : Int64} (hF : Fdk ci k 1) (hT : Fty ci ty) (ht : ty k = .long) (hL : Flk (mO M) idx ci k) (hfin : ((cl3 ci).2.1 k).2.2.2 = false) (hd : decode (mB M) pc = .ok (.putfield idx, 3)) (K : Mh w l E M c0 s0 (pc + 3) lv st (sL m q k x) (o ∧ gT m q = ci + 1) r) : Mh w l E M c0 s0 pc lv (.long x :: .ref q :: st) m o r :=
  Mh_put (m' := sL m q k x) (o' := o ∧ gT m q = ci + 1) hF hT hL (.inl hfin) hd id (fun _ => by rw [ht]; rfl) (fun _ => by rw [ht]; rfl) ⟨rfl, rfl⟩ (fun h H H1 hR hP => HR_fldL hR h.2 hF.1 hF.2.2.2.2 hP) K
theorem Mh_pR {ci k idx q x : Nat} {ty : Nat → FieldType} (hF : Fdk ci k 2) (hT : Fty ci ty) (ht : (∃ C, ty k = .object C) ∨ (∃ C, ty k = .array C)) (hL : Flk (mO M) idx ci k) (hfin : ((cl3 ci).2.1 k).2.2.2 = false ∨ (((cl3 ci).2.1 k).2.2.2 = true ∧ mI M = true ∧ ((cl3 ci).2.1 k).1 = mO M ∧ Cond.fieldLink (mO M) idx ((cl3 ci).2.1 k).1 ((cl3 ci).2.1 k).2.1 ((cl3 ci).2.1 k).2.2.1 ∈ GT)) (hd : decode (mB M) pc = .ok (.putfield idx, 3)) (K : Mh w l E M c0 s0 (pc + 3) lv st (sR m q k x) (o ∧ (gT m q = ci + 1 ∧ x ≠ 0)) r) : Mh w l E M c0 s0 pc lv (.ref x :: .ref q :: st) m o r :=
  Mh_put (m' := sR m q k x) (o' := o ∧ (gT m q = ci + 1 ∧ x ≠ 0)) hF hT hL hfin hd (fun h => ⟨h.1, h.2.1⟩) (fun _ => by rcases ht with ⟨C, ht⟩ | ⟨C, ht⟩ <;> rw [ht] <;> rfl) (fun _ => by rcases ht with ⟨C, ht⟩ | ⟨C, ht⟩ <;> rw [ht] <;> rfl) ⟨rfl, rfl⟩ (fun h H H1 hR hP => HR_fldR hR h.2.1 hF.1 hF.2.2.2.2 h.2.2 hP) K
/-- arrays -/
theorem Mh_ial {q : Nat} {i : Int32} (hd : decode (mB M) pc = .ok (.iaload, 1)) (K : Mh w l E M c0 s0 (pc + 1) lv (.int (gI m q i.toNatClampNeg) :: st) m (o ∧ (gT m q = 20 ∧ vp_in i (gN m q))) r) : Mh w l E M c0 s0 pc lv (.int i :: .ref q :: st) m o r :=
  Mh_go (o' := o ∧ (gT m q = 20 ∧ vp_in i (gN m q))) And.left (fun h p e R s md args below meth c Q H locs ls cells slots hC hR hS hl k => by
    have hat := HR_at hR (q := q) (by omega)
    rw [cel_int E m q 20 h.2.1 (.inl rfl)] at hat
    exact va_iald hC.1 hC.2.1 hC.2.2.2.2.2.2.2.1.1 hR.1 (q - 1) 0 hat rfl h.2.2 hd (k ls hl)) K
theorem Mh_lal {q : Nat} {i : Int32} (hd : decode (mB M) pc = .ok (.laload, 1)) (K : Mh w l E M c0 s0 (pc + 1) lv (.long (gL m q i.toNatClampNeg) :: st) m (o ∧ (gT m q = 21 ∧ vp_in i (gN m q))) r) : Mh w l E M c0 s0 pc lv (.int i :: .ref q :: st) m o r :=
  Mh_go (o' := o ∧ (gT m q = 21 ∧ vp_in i (gN m q))) And.left (fun h p e R s md args below meth c Q H locs ls cells slots hC hR hS hl k => by
    have hat := HR_at hR (q := q) (by omega)
    rw [cel_long E m q h.2.1] at hat
    exact va_lald hC.1 hC.2.1 hC.2.2.2.2.2.2.2.1.1 hR.1 (q - 1) 1 hat rfl h.2.2 hd (k ls hl)) K
theorem Mh_zal {q : Nat} {i : Int32} (hd : decode (mB M) pc = .ok (.baload, 1)) (K : Mh w l E M c0 s0 (pc + 1) lv (.int (gI m q i.toNatClampNeg) :: st) m (o ∧ (gT m q = 22 ∧ vp_in i (gN m q))) r) : Mh w l E M c0 s0 pc lv (.int i :: .ref q :: st) m o r :=
  Mh_go (o' := o ∧ (gT m q = 22 ∧ vp_in i (gN m q))) And.left (fun h p e R s md args below meth c Q H locs ls cells slots hC hR hS hl k => by
    have hat := HR_at hR (q := q) (by omega)
    rw [cel_int E m q 22 h.2.1 (.inr (.inl rfl))] at hat
    exact va_zald hC.1 hC.2.1 hC.2.2.2.2.2.2.2.1.1 hR.1 (q - 1) 2 hat rfl h.2.2 hd (k ls hl)) K
theorem Mh_bal {q : Nat} {i : Int32} (hd : decode (mB M) pc = .ok (.baload, 1)) (K : Mh w l E M c0 s0 (pc + 1) lv (.int (gI m q i.toNatClampNeg) :: st) m (o ∧ (gT m q = 23 ∧ vp_in i (gN m q))) r) : Mh w l E M c0 s0 pc lv (.int i :: .ref q :: st) m o r :=
  Mh_go (o' := o ∧ (gT m q = 23 ∧ vp_in i (gN m q))) And.left (fun h p e R s md args below meth c Q H locs ls cells slots hC hR hS hl k => by
    have hat := HR_at hR (q := q) (by omega)
    rw [cel_int E m q 23 h.2.1 (.inr (.inr rfl))] at hat
    exact va_bald hC.1 hC.2.1 hC.2.2.2.2.2.2.2.1.1 hR.1 (q - 1) 3 hat rfl h.2.2 hd (k ls hl)) K
theorem Mh_aal {q : Nat} {i : Int32} (t : Nat) (ht : t = 24 ∨ t = 25) (hd : decode (mB M) pc = .ok (.aaload, 1)) (K : Mh w l E M c0 s0 (pc + 1) lv (.ref (gR m q i.toNatClampNeg) :: st) m (o ∧ (gT m q = t ∧ vp_in i (gN m q) ∧ gR m q i.toNatClampNeg ≠ 0)) r) : Mh w l E M c0 s0 pc lv (.int i :: .ref q :: st) m o r :=
  Mh_go (o' := o ∧ (gT m q = t ∧ vp_in i (gN m q) ∧ gR m q i.toNatClampNeg ≠ 0)) And.left (fun h p e R s md args below meth c Q H locs ls cells slots hC hR hS hl k => by
    have hat := HR_at hR (q := q) (by omega)
    rw [cel_refs E m q t h.2.1 (by omega)] at hat
    have k2 := k ls hl
    have e1 : im E (.ref (gR m q i.toNatClampNeg)) = va_rf (rfo E (gR m q i.toNatClampNeg)) := by simp only [rfo, if_neg h.2.2.2]; rfl
    rw [List.map_cons, e1] at k2
    rcases ht with rfl | rfl
    · exact va_aldq hC.1 hC.2.1 hC.2.2.2.2.2.2.2.1.1 hR.1 (q - 1) 4 hat rfl h.2.2.1 hd k2
    · exact va_aldq hC.1 hC.2.1 hC.2.2.2.2.2.2.2.1.1 hR.1 (q - 1) 5 hat rfl h.2.2.1 hd k2) K
theorem Mh_ias {q : Nat} {i x : Int32} (hd : decode (mB M) pc = .ok (.iastore, 1)) (K : Mh w l E M c0 s0 (pc + 1) lv st (sI m q i.toNatClampNeg x) (o ∧ (gT m q = 20 ∧ vp_in i (gN m q))) r) : Mh w l E M c0 s0 pc lv (.int x :: .int i :: .ref q :: st) m o r :=
  Mh_st (m' := sI m q i.toNatClampNeg x) (o' := o ∧ (gT m q = 20 ∧ vp_in i (gN m q))) And.left ⟨rfl, rfl⟩ (fun h p e R s md args below meth c Q H locs ls cells slots hC hR hS k => by
    have hat := HR_at hR (q := q) (by omega)
    rw [cel_int E m q 20 h.2.1 (.inl rfl)] at hat
    exact va_iast hC.1 hC.2.1 hC.2.2.2.2.2.2.2.1.1 hR.1 (wls_D E m) hS (q - 1) 0 hat rfl h.2.2 hd (fun H1 locs1 hP1 _ hS1 => k H1 locs1 (HR_arrI hR h.2.1 (.inl rfl) hP1) hS1)) K
theorem Mh_zas {q : Nat} {i x : Int32} (hd : decode (mB M) pc = .ok (.bastore, 1)) (K : Mh w l E M c0 s0 (pc + 1) lv st (sI m q i.toNatClampNeg (x &&& 1)) (o ∧ (gT m q = 22 ∧ vp_in i (gN m q))) r) : Mh w l E M c0 s0 pc lv (.int x :: .int i :: .ref q :: st) m o r :=
  Mh_st (m' := sI m q i.toNatClampNeg (x &&& 1)) (o' := o ∧ (gT m q = 22 ∧ vp_in i (gN m q))) And.left ⟨rfl, rfl⟩ (fun h p e R s md args below meth c Q H locs ls cells slots hC hR hS k => by
    have hat := HR_at hR (q := q) (by omega)
    rw [cel_int E m q 22 h.2.1 (.inr (.inl rfl))] at hat
    exact va_zast hC.1 hC.2.1 hC.2.2.2.2.2.2.2.1.1 hR.1 (wls_D E m) hS (q - 1) 2 hat rfl h.2.2 hd (fun H1 locs1 hP1 _ hS1 => k H1 locs1 (HR_arrI hR h.2.1 (.inr (.inl rfl)) hP1) hS1)) K
theorem Mh_bas {q : Nat} {i x : Int32} (hd : decode (mB M) pc = .ok (.bastore, 1)) (K : Mh w l E M c0 s0 (pc + 1) lv st (sI m q i.toNatClampNeg x.toInt8.toInt32) (o ∧ (gT m q = 23 ∧ vp_in i (gN m q))) r) : Mh w l E M c0 s0 pc lv (.int x :: .int i :: .ref q :: st) m o r :=
  Mh_st (m' := sI m q i.toNatClampNeg x.toInt8.toInt32) (o' := o ∧ (gT m q = 23 ∧ vp_in i (gN m q))) And.left ⟨rfl, rfl⟩ (fun h p e R s md args below meth c Q H locs ls cells slots hC hR hS k => by
    have hat := HR_at hR (q := q) (by omega)
    rw [cel_int E m q 23 h.2.1 (.inr (.inr rfl))] at hat
    exact va_bast hC.1 hC.2.1 hC.2.2.2.2.2.2.2.1.1 hR.1 (wls_D E m) hS (q - 1) 3 hat rfl h.2.2 hd (fun H1 locs1 hP1 _ hS1 => k H1 locs1 (HR_arrI hR h.2.1 (.inr (.inr rfl)) hP1) hS1)) K
theorem Mh_las {q : Nat} {i : Int32} {x : Int64} (hd : decode (mB M) pc = .ok (.lastore, 1)) (K : Mh w l E M c0 s0 (pc + 1) lv st (sL m q i.toNatClampNeg x) (o ∧ (gT m q = 21 ∧ vp_in i (gN m q))) r) : Mh w l E M c0 s0 pc lv (.long x :: .int i :: .ref q :: st) m o r :=
  Mh_st (m' := sL m q i.toNatClampNeg x) (o' := o ∧ (gT m q = 21 ∧ vp_in i (gN m q))) And.left ⟨rfl, rfl⟩ (fun h p e R s md args below meth c Q H locs ls cells slots hC hR hS k => by
    have hat := HR_at hR (q := q) (by omega)
    rw [cel_long E m q h.2.1] at hat
    exact va_last hC.1 hC.2.1 hC.2.2.2.2.2.2.2.1.1 hR.1 (wls_D E m) hS (q - 1) 1 hat rfl h.2.2 hd (fun H1 locs1 hP1 _ hS1 => k H1 locs1 (HR_arrL hR h.2.1 hP1) hS1)) K
/-- aastore: kind 24 holds STACKS (class 7), kind 25 COWS (class 1) -/
theorem Mh_aas {q x : Nat} {i : Int32} (t ci : Nat) (ht : (t = 24 ∧ ci = 7) ∨ (t = 25 ∧ ci = 1)) (hd : decode (mB M) pc = .ok (.aastore, 1)) (K : Mh w l E M c0 s0 (pc + 1) lv st (sR m q i.toNatClampNeg x) (o ∧ (gT m q = t ∧ vp_in i (gN m q) ∧ gT m x = ci + 1)) r) : Mh w l E M c0 s0 pc lv (.ref x :: .int i :: .ref q :: st) m o r :=
  Mh_st (m' := sR m q i.toNatClampNeg x) (o' := o ∧ (gT m q = t ∧ vp_in i (gN m q) ∧ gT m x = ci + 1)) And.left ⟨rfl, rfl⟩ (fun h p e R s md args below meth c Q H locs ls cells slots hC hR hS k => by
    have hat := HR_at hR (q := q) (by omega)
    rw [cel_refs E m q t h.2.1 (by omega)] at hat
    have hax := HR_at hR (q := x) (by omega)
    rw [cel_obj E m x ci h.2.2.2 (by omega)] at hax
    have hx0 : x ≠ 0 := by have := (hR.2 x (by omega)).1; omega
    rcases ht with ⟨rfl, rfl⟩ | ⟨rfl, rfl⟩
    · exact va_astq hC.1 hC.2.1 hC.2.2.2.2.2.2.2.1.1 hR.1 (wls_D E m) hS (q - 1) 4 (x - 1) 7 (r := (RX7, TX7, 9)) hat rfl hax rfl h.2.2.1 hd (fun H1 locs1 hP1 _ hS1 => k H1 locs1 (HR_arrR hR h.2.1 (by omega) hx0 hP1) hS1)
    · exact va_astq hC.1 hC.2.1 hC.2.2.2.2.2.2.2.1.1 hR.1 (wls_D E m) hS (q - 1) 5 (x - 1) 1 (r := (RX1, TX1, 6)) hat rfl hax rfl h.2.2.1 hd (fun H1 locs1 hP1 _ hS1 => k H1 locs1 (HR_arrR hR h.2.1 (by omega) hx0 hP1) hS1)) K
/-- the law's own script -/
theorem Mh_sal {i : Int32} (hw : mW M = true) (hd : decode (mB M) pc = .ok (.iaload, 1)) (K : Mh w l E M c0 s0 (pc + 1) lv (.int (E.2.2.2.2.2.2.2 i.toNatClampNeg) :: st) m (o ∧ vp_in i E.2.2.2.2.2.2.1) r) : Mh w l E M c0 s0 pc lv (.int i :: .ref 0 :: st) m o r :=
  Mh_go (o' := o ∧ vp_in i E.2.2.2.2.2.2.1) And.left (fun h p e R s md args below meth c Q H locs ls cells slots hC hR hS hl k => by
    obtain ⟨hX, hbl, hbA⟩ := hC.2.2.2.2.2.2.2.2.2.2.2 hw
    exact va_sld hC.1 hC.2.1 hX hbl hbA hS h.2 hd (k ls hl)) K
theorem Mh_sln (hw : mW M = true) (hd : decode (mB M) pc = .ok (.arraylength, 1)) (K : Mh w l E M c0 s0 (pc + 1) lv (.int (Int32.ofNat E.2.2.2.2.2.2.1) :: st) m o r) : Mh w l E M c0 s0 pc lv (.ref 0 :: st) m o r :=
  Mh_go id (fun h p e R s md args below meth c Q H locs ls cells slots hC hR hS hl k => by
    obtain ⟨hX, hbl, hbA⟩ := hC.2.2.2.2.2.2.2.2.2.2.2 hw
    exact va_slen hC.1 hC.2.1 hX hbl hbA hS hd (k ls hl)) K
end MHF
