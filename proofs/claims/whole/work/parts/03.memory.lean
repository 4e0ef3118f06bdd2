/-! ===== a memory by places: ints, longs, references, kinds; what the heap is to it ===== -/
abbrev Mm : Type := (Nat → Nat → Int32) × (Nat → Nat → Int64) × (Nat → Nat → Nat) × (Nat → Nat × Nat) × (Nat × Nat)
def gI (m : Mm) (q i : Nat) : Int32 := m.1 q i
def gL (m : Mm) (q i : Nat) : Int64 := m.2.1 q i
def gR (m : Mm) (q i : Nat) : Nat := m.2.2.1 q i
def gT (m : Mm) (q : Nat) : Nat := (m.2.2.2.1 q).1
def gN (m : Mm) (q : Nat) : Nat := (m.2.2.2.1 q).2
def gC (m : Mm) : Nat := m.2.2.2.2.1
def gS (m : Mm) : Nat := m.2.2.2.2.2
def sI (m : Mm) (q i : Nat) (v : Int32) : Mm := (fun a b => if a = q ∧ b = i then v else m.1 a b, m.2)
def sL (m : Mm) (q i : Nat) (v : Int64) : Mm := (m.1, fun a b => if a = q ∧ b = i then v else m.2.1 a b, m.2.2)
def sR (m : Mm) (q i v : Nat) : Mm := (m.1, m.2.1, fun a b => if a = q ∧ b = i then v else m.2.2.1 a b, m.2.2.2)
/-- a new cell at the next place: of kind t, of length n; z slots -/
def nC (m : Mm) (t n z : Nat) : Mm := (fun a b => if a = gC m + 1 then 0 else m.1 a b, fun a b => if a = gC m + 1 then 0 else m.2.1 a b, fun a b => if a = gC m + 1 then 0 else m.2.2.1 a b, fun a => if a = gC m + 1 then (t, n) else m.2.2.2.1 a, (gC m + 1, gS m + z))
section HMEM
variable (m : Mm) (q i a b : Nat) (v : Int32) (w : Int64) (r t n z : Nat)
theorem gI_sI : gI (sI m q i v) a b = if a = q ∧ b = i then v else gI m a b := rfl
theorem gL_sI : gL (sI m q i v) a b = gL m a b := rfl
theorem gR_sI : gR (sI m q i v) a b = gR m a b := rfl
theorem gT_sI : gT (sI m q i v) a = gT m a := rfl
theorem gN_sI : gN (sI m q i v) a = gN m a := rfl
theorem gC_sI : gC (sI m q i v) = gC m := rfl
theorem gS_sI : gS (sI m q i v) = gS m := rfl
theorem gI_sL : gI (sL m q i w) a b = gI m a b := rfl
theorem gL_sL : gL (sL m q i w) a b = if a = q ∧ b = i then w else gL m a b := rfl
theorem gR_sL : gR (sL m q i w) a b = gR m a b := rfl
theorem gT_sL : gT (sL m q i w) a = gT m a := rfl
theorem gN_sL : gN (sL m q i w) a = gN m a := rfl
theorem gC_sL : gC (sL m q i w) = gC m := rfl
theorem gS_sL : gS (sL m q i w) = gS m := rfl
theorem gI_sR : gI (sR m q i r) a b = gI m a b := rfl
theorem gL_sR : gL (sR m q i r) a b = gL m a b := rfl
theorem gR_sR : gR (sR m q i r) a b = if a = q ∧ b = i then r else gR m a b := rfl
theorem gT_sR : gT (sR m q i r) a = gT m a := rfl
theorem gN_sR : gN (sR m q i r) a = gN m a := rfl
theorem gC_sR : gC (sR m q i r) = gC m := rfl
theorem gS_sR : gS (sR m q i r) = gS m := rfl
theorem gI_nC : gI (nC m t n z) a b = if a = gC m + 1 then 0 else gI m a b := rfl
theorem gL_nC : gL (nC m t n z) a b = if a = gC m + 1 then 0 else gL m a b := rfl
theorem gR_nC : gR (nC m t n z) a b = if a = gC m + 1 then 0 else gR m a b := rfl
theorem gT_nC : gT (nC m t n z) a = if a = gC m + 1 then t else gT m a := by
  unfold gT nC; by_cases h : a = gC m + 1 <;> simp [h]
theorem gN_nC : gN (nC m t n z) a = if a = gC m + 1 then n else gN m a := by
  unfold gN nC; by_cases h : a = gC m + 1 <;> simp [h]
theorem gC_nC : gC (nC m t n z) = gC m + 1 := rfl
theorem gS_nC : gS (nC m t n z) = gS m + z := rfl
end HMEM
/-- where the places lie: the script's address, the first own address, the classes' numbers and slots, the array classes, the constants' addresses, the script -/
abbrev En : Type := Nat × Nat × va_G × (Nat → ClassId) × (Nat → Nat) × (Nat → Nat) × Nat × (Nat → Int32)
def ad (E : En) (q : Nat) : Nat := if q = 0 then E.1 else E.2.1 + (q - 1)
def rfo (E : En) (r : Nat) : Option Nat := if r = 0 then none else some (ad E r)
/-- a value as the machine has it; 'null' stands for the one String constant, a float for its bytes -/
def im (E : En) (v : Value) : Value := match v with
  | .ref q => .ref (ad E q)
  | .null => .ref (E.2.2.2.2.1 0)
  | .float _ => .ref (E.2.2.2.2.2.1 0)
  | v => v
def imL (E : En) (q : Nat × Value) : Nat × Value := (q.1, im E q.2)
/-- the classes, and their fields' kinds: 0 an int (or boolean), 1 a long, 2 a reference -/
abbrev hcl : List vw_C := [(RX0, TX0, 4), (RX1, TX1, 6), (RX2, TX2, 1), (RX3, TX3, 13), (RX4, TX4, 5), (RX5, TX5, 12), (RX6, TX6, 3), (RX7, TX7, 9), (RX9, TX9, 2), (RX10, TX10, 9), (RX11, TX11, 12), (RX12, TX12, 78)]
def cl3 (ci : Nat) : vw_C := hcl.getD ci ("", fun _ => ("", "", "", false), 0)
def kdD (d : String) : Nat := if d = "I" ∨ d = "Z" then 0 else if d = "J" then 1 else 2
def fk (ci : Nat) : List Nat := (List.range (cl3 ci).2.2).map (fun k => kdD ((cl3 ci).2.1 k).2.2.1)
def fvl (E : En) (m : Mm) (q j k : Nat) : Value := if k = 0 then .int (gI m q j) else if k = 1 then .long (gL m q j) else va_rf (rfo E (gR m q j))
def fls (E : En) (m : Mm) (q : Nat) (ks : List Nat) : List Value := ks.mapIdx (fun j k => fvl E m q j k)
def ace (E : En) (m : Mm) (q : Nat) : vp_A := (gN m q, if gT m q = 21 then .inr (.inl (gL m q)) else if gT m q < 24 then .inl (gI m q) else .inr (.inr (.inr (.inr (fun i => rfo E (gR m q i))))))
def cel (E : En) (m : Mm) (q : Nat) : va_E := if gT m q < 20 then .inr (gT m q - 1, fls E m q (fk (gT m q - 1))) else .inl (E.2.2.2.1 (gT m q), ace E m q)
def wls (E : En) (m : Mm) : va_W := (List.range (gC m)).map (fun k => (E.2.1 + k, cel E m (k + 1)))
def HR (E : En) (m : Mm) (H : Heap) : Prop := va_P E.2.2.1 hcl (wls E m) H ∧ ∀ q, gT m q ≠ 0 → 1 ≤ q ∧ q ≤ gC m
theorem wls_len (E : En) (m : Mm) : (wls E m).length = gC m := by simp [wls]
theorem wls_get (E : En) (m : Mm) {k : Nat} (h : k < gC m) : (wls E m)[k]? = some (E.2.1 + k, cel E m (k + 1)) := by
  simp [wls, List.getElem?_map, List.getElem?_range h]
theorem wls_at (E : En) (m : Mm) {q : Nat} (h1 : 1 ≤ q) (h2 : q ≤ gC m) : (wls E m)[q - 1]? = some (ad E q, cel E m q) := by
  rw [wls_get E m (by omega), Nat.sub_add_cancel h1]
  unfold ad
  rw [if_neg (by omega)]
theorem wls_D (E : En) (m : Mm) : va_D (fun q => E.2.1 ≤ q) (wls E m) := by
  have key : ∀ (k : Nat) (q : Nat × va_E), (wls E m)[k]? = some q → k < gC m ∧ q.1 = E.2.1 + k := by
    intro k q hk
    have hl : k < gC m := by rw [← wls_len E m]; exact (List.getElem?_eq_some_iff.mp hk).1
    rw [wls_get E m hl] at hk
    cases hk
    exact ⟨hl, rfl⟩
  refine ⟨fun i j x y hi hj hxy => ?_, fun k q hk => ?_⟩
  · have h1 := (key i x hi).2
    have h2 := (key j y hj).2
    omega
  · have h1 := (key k q hk).2
    show E.2.1 ≤ q.1
    omega
theorem wls_set (E : En) (m m' : Mm) {q : Nat} (h1 : 1 ≤ q) (h2 : q ≤ gC m) (hC : gC m' = gC m) (ho : ∀ a, a ≠ q → cel E m' a = cel E m a) : (wls E m).set (q - 1) (ad E q, cel E m' q) = wls E m' := by
  apply List.ext_getElem?
  intro k
  by_cases hk : k = q - 1
  · subst hk
    rw [List.getElem?_set_self (by rw [wls_len]; omega), wls_at E m' h1 (by omega)]
  · rw [List.getElem?_set_ne (Ne.symm hk)]
    by_cases hl : k < gC m
    · rw [wls_get E m hl, wls_get E m' (by omega), ho (k + 1) (by omega)]
    · rw [List.getElem?_eq_none (by rw [wls_len]; omega), List.getElem?_eq_none (by rw [wls_len]; omega)]
theorem HR_set {E : En} {m m' : Mm} {H H1 : Heap} {q : Nat} (hR : HR E m H) (hq : gT m q ≠ 0) (hC : gC m' = gC m) (hT : ∀ a, gT m' a = gT m a) (ho : ∀ a, a ≠ q → cel E m' a = cel E m a) (hP : va_P E.2.2.1 hcl ((wls E m).set (q - 1) (ad E q, cel E m' q)) H1) : HR E m' H1 := by
  obtain ⟨h1, h2⟩ := hR.2 q hq
  rw [wls_set E m m' h1 h2 hC ho] at hP
  exact ⟨hP, fun a ha => by rw [hC]; exact hR.2 a (by rw [← hT]; exact ha)⟩
theorem HR_at {E : En} {m : Mm} {H : Heap} {q : Nat} (hR : HR E m H) (hq : gT m q ≠ 0) : (wls E m)[q - 1]? = some (ad E q, cel E m q) := wls_at E m (hR.2 q hq).1 (hR.2 q hq).2
theorem fls_congr (E : En) (m m' : Mm) (a : Nat) (h1 : gI m' a = gI m a) (h2 : gL m' a = gL m a) (h3 : gR m' a = gR m a) (ks : List Nat) : fls E m' a ks = fls E m a ks := by
  unfold fls
  congr 1
  funext j k
  simp only [fvl, h1, h2, h3]
theorem cel_congr (E : En) (m m' : Mm) (a : Nat) (h1 : gI m' a = gI m a) (h2 : gL m' a = gL m a) (h3 : gR m' a = gR m a) (h4 : gT m' a = gT m a) (h5 : gN m' a = gN m a) : cel E m' a = cel E m a := by
  unfold cel ace
  rw [fls_congr E m m' a h1 h2 h3, h1, h2, h3, h4, h5]
theorem cel_sI (E : En) (m : Mm) (q i : Nat) (v : Int32) (a : Nat) (h : a ≠ q) : cel E (sI m q i v) a = cel E m a :=
  cel_congr E m _ a (by funext b; rw [gI_sI, if_neg (fun z => h z.1)]) rfl rfl rfl rfl
theorem cel_sL (E : En) (m : Mm) (q i : Nat) (v : Int64) (a : Nat) (h : a ≠ q) : cel E (sL m q i v) a = cel E m a :=
  cel_congr E m _ a rfl (by funext b; rw [gL_sL, if_neg (fun z => h z.1)]) rfl rfl rfl
theorem cel_sR (E : En) (m : Mm) (q i v : Nat) (a : Nat) (h : a ≠ q) : cel E (sR m q i v) a = cel E m a :=
  cel_congr E m _ a rfl rfl (by funext b; rw [gR_sR, if_neg (fun z => h z.1)]) rfl rfl
/-- arrays -/
theorem cel_int (E : En) (m : Mm) (q t : Nat) (h : gT m q = t) (ht : t = 20 ∨ t = 22 ∨ t = 23) : cel E m q = .inl (E.2.2.2.1 t, gN m q, .inl (gI m q)) := by
  subst h
  unfold cel ace
  rw [if_neg (by omega), if_neg (by omega), if_pos (by omega)]
theorem cel_long (E : En) (m : Mm) (q : Nat) (h : gT m q = 21) : cel E m q = .inl (E.2.2.2.1 21, gN m q, .inr (.inl (gL m q))) := by
  unfold cel ace
  rw [if_neg (by omega), if_pos h, h]
theorem cel_refs (E : En) (m : Mm) (q t : Nat) (h : gT m q = t) (ht : 24 ≤ t) : cel E m q = .inl (E.2.2.2.1 t, gN m q, .inr (.inr (.inr (.inr (fun i => rfo E (gR m q i)))))) := by
  subst h
  unfold cel ace
  rw [if_neg (by omega), if_neg (by omega), if_neg (by omega)]
theorem cel_obj (E : En) (m : Mm) (q ci : Nat) (h : gT m q = ci + 1) (hc : ci < 12) : cel E m q = .inr (ci, fls E m q (fk ci)) := by
  unfold cel
  rw [if_pos (by omega), h]
  rfl
theorem fls_get (E : En) (m : Mm) (q : Nat) {ks : List Nat} {j k : Nat} (h : ks[j]? = some k) : (fls E m q ks)[j]? = some (fvl E m q j k) := by
  simp [fls, List.getElem?_mapIdx, h]
theorem fls_len (E : En) (m : Mm) (q : Nat) (ks : List Nat) : (fls E m q ks).length = ks.length := by simp [fls]
theorem fls_set (E : En) (m m' : Mm) (q : Nat) {ks : List Nat} {j k : Nat} (h : ks[j]? = some k) (ho : ∀ a b, a ≠ j → fvl E m' q a b = fvl E m q a b) : (fls E m q ks).set j (fvl E m' q j k) = fls E m' q ks := by
  apply List.ext_getElem?
  intro a
  by_cases ha : a = j
  · subst ha
    rw [List.getElem?_set_self (by rw [fls_len]; exact (List.getElem?_eq_some_iff.mp h).1), fls_get E m' q h]
  · rw [List.getElem?_set_ne (Ne.symm ha)]
    simp only [fls, List.getElem?_mapIdx, ho a _ ha]
/-- what is stored where it belongs -/
theorem HR_arrI {E : En} {m : Mm} {H H1 : Heap} {q i t : Nat} {v : Int32} (hR : HR E m H) (h : gT m q = t) (ht : t = 20 ∨ t = 22 ∨ t = 23) (hP : va_P E.2.2.1 hcl ((wls E m).set (q - 1) (ad E q, .inl (E.2.2.2.1 t, gN m q, .inl (upd (gI m q) i v)))) H1) : HR E (sI m q i v) H1 := by
  refine HR_set hR (q := q) (by omega) rfl (fun _ => rfl) (fun a ha => cel_sI E m q i v a ha) ?_
  rw [cel_int E (sI m q i v) q t h ht]
  have e : gI (sI m q i v) q = upd (gI m q) i v := by
    funext b
    rw [gI_sI]
    unfold upd
    simp
  rw [e]
  exact hP
theorem HR_arrL {E : En} {m : Mm} {H H1 : Heap} {q i : Nat} {v : Int64} (hR : HR E m H) (h : gT m q = 21) (hP : va_P E.2.2.1 hcl ((wls E m).set (q - 1) (ad E q, .inl (E.2.2.2.1 21, gN m q, .inr (.inl (vp_updL (gL m q) i v))))) H1) : HR E (sL m q i v) H1 := by
  refine HR_set hR (q := q) (by omega) rfl (fun _ => rfl) (fun a ha => cel_sL E m q i v a ha) ?_
  rw [cel_long E (sL m q i v) q h]
  have e : gL (sL m q i v) q = vp_updL (gL m q) i v := by
    funext b
    rw [gL_sL]
    unfold vp_updL
    simp
  rw [e]
  exact hP
theorem HR_arrR {E : En} {m : Mm} {H H1 : Heap} {q i t v : Nat} (hR : HR E m H) (h : gT m q = t) (ht : 24 ≤ t) (hv : v ≠ 0) (hP : va_P E.2.2.1 hcl ((wls E m).set (q - 1) (ad E q, .inl (E.2.2.2.1 t, gN m q, .inr (.inr (.inr (.inr (va_up (fun i => rfo E (gR m q i)) i (some (ad E v)))))))) ) H1) : HR E (sR m q i v) H1 := by
  refine HR_set hR (q := q) (by omega) rfl (fun _ => rfl) (fun a ha => cel_sR E m q i v a ha) ?_
  rw [cel_refs E (sR m q i v) q t h ht]
  have e : (fun b => rfo E (gR (sR m q i v) q b)) = va_up (fun i => rfo E (gR m q i)) i (some (ad E v)) := by
    funext b
    rw [gR_sR]
    unfold va_up
    by_cases hb : b = i
    · simp [hb, rfo, hv]
    · simp [hb]
  rw [show gN (sR m q i v) q = gN m q from rfl, e]
  exact hP
theorem HR_fldI {E : En} {m : Mm} {H H1 : Heap} {q j ci : Nat} {v : Int32} (hR : HR E m H) (h : gT m q = ci + 1) (hc : ci < 12) (hk : (fk ci)[j]? = some 0) (hP : va_P E.2.2.1 hcl ((wls E m).set (q - 1) (ad E q, .inr (ci, (fls E m q (fk ci)).set j (.int v)))) H1) : HR E (sI m q j v) H1 := by
  refine HR_set hR (q := q) (by omega) rfl (fun _ => rfl) (fun a ha => cel_sI E m q j v a ha) ?_
  rw [cel_obj E (sI m q j v) q ci h hc]
  have e := fls_set E m (sI m q j v) q hk (fun a b ha => by simp only [fvl, gI_sI, gL_sI, gR_sI, ha, and_false, if_false])
  rw [show fvl E (sI m q j v) q j 0 = .int v by simp [fvl, gI_sI]] at e
  rw [← e]
  exact hP
theorem HR_fldL {E : En} {m : Mm} {H H1 : Heap} {q j ci : Nat} {v : Int64} (hR : HR E m H) (h : gT m q = ci + 1) (hc : ci < 12) (hk : (fk ci)[j]? = some 1) (hP : va_P E.2.2.1 hcl ((wls E m).set (q - 1) (ad E q, .inr (ci, (fls E m q (fk ci)).set j (.long v)))) H1) : HR E (sL m q j v) H1 := by
  refine HR_set hR (q := q) (by omega) rfl (fun _ => rfl) (fun a ha => cel_sL E m q j v a ha) ?_
  rw [cel_obj E (sL m q j v) q ci h hc]
  have e := fls_set E m (sL m q j v) q hk (fun a b ha => by simp only [fvl, gI_sL, gL_sL, gR_sL, ha, and_false, if_false])
  rw [show fvl E (sL m q j v) q j 1 = .long v by simp [fvl, gL_sL]] at e
  rw [← e]
  exact hP
theorem HR_fldR {E : En} {m : Mm} {H H1 : Heap} {q j ci v : Nat} (hR : HR E m H) (h : gT m q = ci + 1) (hc : ci < 12) (hk : (fk ci)[j]? = some 2) (hv : v ≠ 0) (hP : va_P E.2.2.1 hcl ((wls E m).set (q - 1) (ad E q, .inr (ci, (fls E m q (fk ci)).set j (.ref (ad E v))))) H1) : HR E (sR m q j v) H1 := by
  refine HR_set hR (q := q) (by omega) rfl (fun _ => rfl) (fun a ha => cel_sR E m q j v a ha) ?_
  rw [cel_obj E (sR m q j v) q ci h hc]
  have e := fls_set E m (sR m q j v) q hk (fun a b ha => by simp only [fvl, gI_sR, gL_sR, gR_sR, ha, and_false, if_false])
  rw [show fvl E (sR m q j v) q j 2 = .ref (ad E v) by simp [fvl, gR_sR, rfo, hv, va_rf]] at e
  rw [← e]
  exact hP
/-- a new cell -/
theorem HR_new {E : En} {m : Mm} {H H1 : Heap} {t n z x : Nat} {X : va_E} (hR : HR E m H) (ht : t ≠ 0) (hx : x = E.2.1 + gC m) (hX : cel E (nC m t n z) (gC m + 1) = X) (hP : va_P E.2.2.1 hcl (wls E m ++ [(x, X)]) H1) : HR E (nC m t n z) H1 := by
  have e : wls E m ++ [(x, X)] = wls E (nC m t n z) := by
    unfold wls
    rw [gC_nC, List.range_succ, List.map_append]
    congr 1
    · apply List.map_congr_left
      intro k hk
      have hk := List.mem_range.mp hk
      rw [cel_congr E m (nC m t n z) (k + 1) (by funext b; rw [gI_nC, if_neg (by omega)]) (by funext b; rw [gL_nC, if_neg (by omega)]) (by funext b; rw [gR_nC, if_neg (by omega)]) (by rw [gT_nC, if_neg (by omega)]) (by rw [gN_nC, if_neg (by omega)])]
    · rw [List.map_singleton, hX, hx]
  rw [e] at hP
  refine ⟨hP, fun q hq => ?_⟩
  rw [gT_nC] at hq
  rw [gC_nC]
  by_cases h : q = gC m + 1
  · omega
  · rw [if_neg h] at hq
    have := hR.2 q hq
    omega
