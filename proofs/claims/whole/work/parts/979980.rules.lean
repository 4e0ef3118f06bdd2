/-! ===== what single instructions of the class's law do ===== -/
def opV (op : Nat) (a b : Int32) : Option Int32 := if op = 37 then (if b = 0 then none else some (irm a b)) else if op = 42 then some (a * b) else if op = 43 then some (a + b) else if op = 45 then some (a - b) else if b = 0 then none else some (a / b)
def opT (op : Nat) (a b : Int32) : Bool := if op = 60 then decide (a < b) else if op = 62 then decide (b < a) else decide (a = b)
def vBin (op : Nat) (L R : (Nat → Int32) → Option Int32) (l : Nat → Int32) : Option Int32 := (L l).bind (fun a => (R l).bind (fun b => opV op a b))
def tCmp (op : Nat) (L R : (Nat → Int32) → Option Int32) (l : Nat → Int32) : Option Bool := (L l).bind (fun a => (R l).bind (fun b => some (opT op a b)))
def tNot (T : (Nat → Int32) → Option Bool) (l : Nat → Int32) : Option Bool := (T l).map (fun b => !b)
def tAnd (A B : (Nat → Int32) → Option Bool) (l : Nat → Int32) : Option Bool := (A l).bind (fun a => if a then B l else some false)
def tOr (A B : (Nat → Int32) → Option Bool) (l : Nat → Int32) : Option Bool := (A l).bind (fun a => if a then some true else B l)
theorem tAnd_assoc (A B C : (Nat → Int32) → Option Bool) : tAnd (tAnd A B) C = tAnd A (tAnd B C) := by
  funext l
  unfold tAnd
  cases A l with
  | none => rfl
  | some a => cases a <;> simp
theorem tOr_assoc (A B C : (Nat → Int32) → Option Bool) : tOr (tOr A B) C = tOr A (tOr B C) := by
  funext l
  unfold tOr
  cases A l with
  | none => rfl
  | some a => cases a <;> simp
def isBin (op : Nat) : Prop := op = 37 ∨ op = 42 ∨ op = 43 ∨ op = 45 ∨ op = 47
def isCmp (op : Nat) : Prop := op = 60 ∨ op = 62 ∨ op = 61
theorem rk_num {m : Mm} (h : Sh m) {w : Nat} (hw : isW w) {N to x st : Nat} (top : Int32) (hx : x < to) (ht : to ≤ 200) (hs : st < 200) {ly : Nat} {v : Int32} (h1 : gI m (w + 1) x = 1) (h2 : gI m (w + 2) x = v) (hl : ly < 32) (o : Prop) : f_X3_reckon_11 (N + 1) w (nI to) top (nI ly) (nI x) (nI st) m o = f_X3_reckon_11 N w (nI to) v (nI (ly + 1)) (nI (x + 1)) (nI (st + 1)) (sI m (w + 9) ly top) o := by
  obtain ⟨t0, r0, r1, -, -, -, -, r6, r7, r8⟩ := w_sh h hw
  obtain ⟨T1, T2, -, -, -, -, T7, T8, T9⟩ := w_T h hw
  obtain ⟨N1, N2, -, -, -, -, N7, N8, N9⟩ := w_N h hw
  have i1 : vp_in (nI x) 200 := vp_in_nI (by omega) (by omega)
  have i2 : vp_in (nI ly) 32 := vp_in_nI (by omega) (by omega)
  have a1 : ¬ w + 1 = 0 := by omega
  have a2 : ¬ w + 2 = 0 := by omega
  have a9 : ¬ w + 9 = 0 := by omega
  have c1 : nI ly < 32 := nI_lt (b := 32) hl (by omega)
  show f_X3_reckon_11b (f_X3_reckon_11 N) w (nI to) top (nI ly) (nI x) (nI st) m o = _
  unfold f_X3_reckon_11b
  rw [if_neg (show ¬ (200 : Int32) ≤ nI (st) from nI_ge (a := st) (b := 200) (by omega) (by omega)), if_neg (nI_ge hx (by omega))]
  simp (config := {decide := true}) only [t0, r0, r1, r8, T1, T2, T9, N1, N2, N9, h1, h2, i1, i2, a1, a2, a9, c1, ix_nI (show x < 2 ^ 31 by omega), ix_nI (show ly < 2 ^ 31 by omega), f_X3_reckon_117, f_X3_reckon_138, f_X3_reckon_404, nI_1, ne_eq, not_false_eq_true, and_self, and_true, true_and, and_false, false_and, true_or, or_true, false_or, or_false, not_true_eq_false, if_false, if_true]
theorem rk_let {m : Mm} (h : Sh m) {w : Nat} (hw : isW w) {N to x st : Nat} (top : Int32) (hx : x < to) (ht : to ≤ 200) (hs : st < 200) {ly j : Nat} (h1 : gI m (w + 1) x = 2) (h2 : gI m (w + 2) x = nI j) (hj : j < 10) (hl : ly < 32) (o : Prop) : f_X3_reckon_11 (N + 1) w (nI to) top (nI ly) (nI x) (nI st) m o = f_X3_reckon_11 N w (nI to) (gI m (w + 7) j) (nI (ly + 1)) (nI (x + 1)) (nI (st + 1)) (sI m (w + 9) ly top) o := by
  obtain ⟨t0, r0, r1, -, -, -, -, r6, r7, r8⟩ := w_sh h hw
  obtain ⟨T1, T2, -, -, -, -, T7, T8, T9⟩ := w_T h hw
  obtain ⟨N1, N2, -, -, -, -, N7, N8, N9⟩ := w_N h hw
  have i1 : vp_in (nI x) 200 := vp_in_nI (by omega) (by omega)
  have i2 : vp_in (nI ly) 32 := vp_in_nI (by omega) (by omega)
  have i3 : vp_in (nI j) 10 := vp_in_nI (by omega) (by omega)
  have a1 : ¬ w + 1 = 0 := by omega
  have a2 : ¬ w + 2 = 0 := by omega
  have a7 : ¬ w + 7 = 0 := by omega
  have a9 : ¬ w + 9 = 0 := by omega
  have b7 : ¬ (w + 7 = w + 9 ∧ j = ly) := by omega
  have c1 : nI ly < 32 := nI_lt (b := 32) hl (by omega)
  show f_X3_reckon_11b (f_X3_reckon_11 N) w (nI to) top (nI ly) (nI x) (nI st) m o = _
  unfold f_X3_reckon_11b
  rw [if_neg (show ¬ (200 : Int32) ≤ nI (st) from nI_ge (a := st) (b := 200) (by omega) (by omega)), if_neg (nI_ge hx (by omega))]
  simp (config := {decide := true}) only [t0, r0, r1, r6, r8, T1, T2, T7, T9, N1, N2, N7, N9, h1, h2, i1, i2, i3, a1, a2, a7, a9, c1, ix_nI (show x < 2 ^ 31 by omega), ix_nI (show ly < 2 ^ 31 by omega), ix_nI (show j < 2 ^ 31 by omega), f_X3_reckon_117, f_X3_reckon_138, f_X3_reckon_404, gT_sI, gN_sI, gR_sI, gI_sI, if_neg b7, nI_1, ne_eq, not_false_eq_true, and_self, and_true, true_and, and_false, false_and, true_or, or_true, false_or, or_false, not_true_eq_false, if_false, if_true]
theorem rk_not {m : Mm} (h : Sh m) {w : Nat} (hw : isW w) {N to x st : Nat} (top : Int32) (hx : x < to) (ht : to ≤ 200) (hs : st < 200) {ly : Int32} (h1 : gI m (w + 1) x = 33) (o : Prop) : f_X3_reckon_11 (N + 1) w (nI to) top ly (nI x) (nI st) m o = f_X3_reckon_11 N w (nI to) top ly (nI (x + 1)) (nI (st + 1)) (sI m w 11 (if gI m w 11 = 0 then 1 else 0)) o := by
  obtain ⟨t0, r0, r1, -, -, -, -, r6, r7, r8⟩ := w_sh h hw
  obtain ⟨T1, T2, -, -, -, -, T7, T8, T9⟩ := w_T h hw
  obtain ⟨N1, N2, -, -, -, -, N7, N8, N9⟩ := w_N h hw
  have i1 : vp_in (nI x) 200 := vp_in_nI (by omega) (by omega)
  have a1 : ¬ w + 1 = 0 := by omega
  have a2 : ¬ w + 2 = 0 := by omega
  show f_X3_reckon_11b (f_X3_reckon_11 N) w (nI to) top ly (nI x) (nI st) m o = _
  unfold f_X3_reckon_11b
  rw [if_neg (show ¬ (200 : Int32) ≤ nI (st) from nI_ge (a := st) (b := 200) (by omega) (by omega)), if_neg (nI_ge hx (by omega))]
  simp (config := {decide := true}) only [t0, r0, r1, T1, T2, N1, N2, h1, i1, a1, a2, ix_nI (show x < 2 ^ 31 by omega), f_X3_reckon_155, f_X3_reckon_158, f_X3_reckon_404, nI_1, ne_eq, not_false_eq_true, and_self, and_true, true_and, and_false, false_and, true_or, or_true, false_or, or_false, not_true_eq_false, if_false, if_true]
  by_cases q : gI m w 11 = 0
  · rw [if_pos q, if_pos q]
  · rw [if_neg q, if_neg q]
theorem rk_and {m : Mm} (h : Sh m) {w : Nat} (hw : isW w) {N to x st : Nat} (top : Int32) (hx : x < to) (ht : to ≤ 200) (hs : st < 200) {ly : Int32} {e : Nat} (h1 : gI m (w + 1) x = 38) (h2 : gI m (w + 2) x = nI e) (o : Prop) : f_X3_reckon_11 (N + 1) w (nI to) top ly (nI x) (nI st) m o = f_X3_reckon_11 N w (nI to) top ly (nI (if gI m w 11 = 0 then e else x + 1)) (nI (st + 1)) m o := by
  obtain ⟨t0, r0, r1, -, -, -, -, r6, r7, r8⟩ := w_sh h hw
  obtain ⟨T1, T2, -, -, -, -, T7, T8, T9⟩ := w_T h hw
  obtain ⟨N1, N2, -, -, -, -, N7, N8, N9⟩ := w_N h hw
  have i1 : vp_in (nI x) 200 := vp_in_nI (by omega) (by omega)
  have a1 : ¬ w + 1 = 0 := by omega
  have a2 : ¬ w + 2 = 0 := by omega
  show f_X3_reckon_11b (f_X3_reckon_11 N) w (nI to) top ly (nI x) (nI st) m o = _
  unfold f_X3_reckon_11b
  rw [if_neg (show ¬ (200 : Int32) ≤ nI (st) from nI_ge (a := st) (b := 200) (by omega) (by omega)), if_neg (nI_ge hx (by omega))]
  simp (config := {decide := true}) only [t0, r0, r1, T1, T2, N1, N2, h1, h2, i1, a1, a2, ix_nI (show x < 2 ^ 31 by omega), f_X3_reckon_175, f_X3_reckon_404, nI_1, ne_eq, not_false_eq_true, and_self, and_true, true_and, and_false, false_and, true_or, or_true, false_or, or_false, not_true_eq_false, if_false, if_true]
  by_cases q : gI m w 11 = 0
  · rw [if_pos q, if_pos q]
  · rw [if_neg q, if_neg q]
theorem rk_or {m : Mm} (h : Sh m) {w : Nat} (hw : isW w) {N to x st : Nat} (top : Int32) (hx : x < to) (ht : to ≤ 200) (hs : st < 200) {ly : Int32} {e : Nat} (h1 : gI m (w + 1) x = 124) (h2 : gI m (w + 2) x = nI e) (o : Prop) : f_X3_reckon_11 (N + 1) w (nI to) top ly (nI x) (nI st) m o = f_X3_reckon_11 N w (nI to) top ly (nI (if gI m w 11 = 0 then x + 1 else e)) (nI (st + 1)) m o := by
  obtain ⟨t0, r0, r1, -, -, -, -, r6, r7, r8⟩ := w_sh h hw
  obtain ⟨T1, T2, -, -, -, -, T7, T8, T9⟩ := w_T h hw
  obtain ⟨N1, N2, -, -, -, -, N7, N8, N9⟩ := w_N h hw
  have i1 : vp_in (nI x) 200 := vp_in_nI (by omega) (by omega)
  have a1 : ¬ w + 1 = 0 := by omega
  have a2 : ¬ w + 2 = 0 := by omega
  show f_X3_reckon_11b (f_X3_reckon_11 N) w (nI to) top ly (nI x) (nI st) m o = _
  unfold f_X3_reckon_11b
  rw [if_neg (show ¬ (200 : Int32) ≤ nI (st) from nI_ge (a := st) (b := 200) (by omega) (by omega)), if_neg (nI_ge hx (by omega))]
  simp (config := {decide := true}) only [t0, r0, r1, T1, T2, N1, N2, h1, h2, i1, a1, a2, ix_nI (show x < 2 ^ 31 by omega), f_X3_reckon_194, f_X3_reckon_404, nI_1, ne_eq, not_false_eq_true, and_self, and_true, true_and, and_false, false_and, true_or, or_true, false_or, or_false, not_true_eq_false, if_false, if_true]
  by_cases q : gI m w 11 = 0
  · rw [if_pos q, if_pos q]
  · rw [if_neg q, if_neg q]
theorem rk_bin {m : Mm} (h : Sh m) {w : Nat} (hw : isW w) {N to x st : Nat} (top : Int32) (hx : x < to) (ht : to ≤ 200) (hs : st < 200) {y op : Nat} (hop : isBin op) (h1 : gI m (w + 1) x = nI op) (hy : y < 32) : (∀ v, opV op (gI m (w + 9) y) top = some v → ∀ o, f_X3_reckon_11 (N + 1) w (nI to) top (nI (y + 1)) (nI x) (nI st) m o = f_X3_reckon_11 N w (nI to) v (nI y) (nI (x + 1)) (nI (st + 1)) m o) ∧ (opV op (gI m (w + 9) y) top = none → ∀ o, f_X3_reckon_11 (N + 1) w (nI to) top (nI (y + 1)) (nI x) (nI st) m o = (0, m, o)) := by
  obtain ⟨t0, r0, r1, -, -, -, -, r6, r7, r8⟩ := w_sh h hw
  obtain ⟨T1, T2, -, -, -, -, T7, T8, T9⟩ := w_T h hw
  obtain ⟨N1, N2, -, -, -, -, N7, N8, N9⟩ := w_N h hw
  have i1 : vp_in (nI x) 200 := vp_in_nI (by omega) (by omega)
  have i2 : vp_in (nI y) 32 := vp_in_nI (by omega) (by omega)
  have a1 : ¬ w + 1 = 0 := by omega
  have a2 : ¬ w + 2 = 0 := by omega
  have a9 : ¬ w + 9 = 0 := by omega
  have c1 : ¬ nI (y + 1) < 1 := fun z => absurd ((nI_ltI (b := 1) (by omega) (by omega)).mp z) (by omega)
  have base : ∀ o, f_X3_reckon_11 (N + 1) w (nI to) top (nI (y + 1)) (nI x) (nI st) m o = f_X3_reckon_11b (f_X3_reckon_11 N) w (nI to) top (nI (y + 1)) (nI x) (nI st) m o := fun o => rfl
  simp only [base, f_X3_reckon_11b, if_neg (show ¬ (200 : Int32) ≤ nI (st) from nI_ge (a := st) (b := 200) (by omega) (by omega)), if_neg (nI_ge hx (show to < 2 ^ 31 by omega)), r0, r1, ix_nI (show x < 2 ^ 31 by omega)]
  generalize hL : gI m (w + 9) y = L
  rcases hop with rfl | rfl | rfl | rfl | rfl
  · have h1 : gI m (w + 1) x = 37 := h1
    unfold opV
    rw [if_pos rfl]
    by_cases q : top = 0
    · rw [if_pos q]
      refine ⟨fun v z => (by cases z), fun _ o => ?_⟩
      simp (config := {decide := true}) only [h1, q, c1, t0, T1, T2, N1, N2, i1, a1, a2, f_X3_reckon_223, ne_eq, not_false_eq_true, and_self, and_true, true_and, and_false, false_and, true_or, or_true, false_or, or_false, not_true_eq_false, if_false, if_true]
    · rw [if_neg q]
      refine ⟨fun v z o => ?_, fun z => by cases z⟩
      cases z
      simp (config := {decide := true}) only [h1, q, c1, t0, r8, T1, T2, T9, N1, N2, N9, i1, i2, a1, a2, a9, f_X3_reckon_225, f_X3_reckon_404, pk_m1, ix_nI (show y < 2 ^ 31 by omega), hL, nI_1, ne_eq, not_false_eq_true, and_self, and_true, true_and, and_false, false_and, true_or, or_true, false_or, or_false, not_true_eq_false, if_false, if_true]
  · have h1 : gI m (w + 1) x = 42 := h1
    unfold opV
    rw [if_neg (by omega), if_pos rfl]
    refine ⟨fun v z o => ?_, fun z => by cases z⟩
    cases z
    simp (config := {decide := true}) only [h1, c1, t0, r8, T1, T2, T9, N1, N2, N9, i1, i2, a1, a2, a9, f_X3_reckon_225, f_X3_reckon_404, pk_m1, ix_nI (show y < 2 ^ 31 by omega), hL, nI_1, ite_self, ne_eq, not_false_eq_true, and_self, and_true, true_and, and_false, false_and, true_or, or_true, false_or, or_false, not_true_eq_false, if_false, if_true]
  · have h1 : gI m (w + 1) x = 43 := h1
    unfold opV
    rw [if_neg (by omega), if_neg (by omega), if_pos rfl]
    refine ⟨fun v z o => ?_, fun z => by cases z⟩
    cases z
    simp (config := {decide := true}) only [h1, c1, t0, r8, T1, T2, T9, N1, N2, N9, i1, i2, a1, a2, a9, f_X3_reckon_225, f_X3_reckon_404, pk_m1, ix_nI (show y < 2 ^ 31 by omega), hL, nI_1, ite_self, ne_eq, not_false_eq_true, and_self, and_true, true_and, and_false, false_and, true_or, or_true, false_or, or_false, not_true_eq_false, if_false, if_true]
  · have h1 : gI m (w + 1) x = 45 := h1
    unfold opV
    rw [if_neg (by omega), if_neg (by omega), if_neg (by omega), if_pos rfl]
    refine ⟨fun v z o => ?_, fun z => by cases z⟩
    cases z
    simp (config := {decide := true}) only [h1, c1, t0, r8, T1, T2, T9, N1, N2, N9, i1, i2, a1, a2, a9, f_X3_reckon_225, f_X3_reckon_404, pk_m1, ix_nI (show y < 2 ^ 31 by omega), hL, nI_1, ite_self, ne_eq, not_false_eq_true, and_self, and_true, true_and, and_false, false_and, true_or, or_true, false_or, or_false, not_true_eq_false, if_false, if_true]
  · have h1 : gI m (w + 1) x = 47 := h1
    unfold opV
    rw [if_neg (by omega), if_neg (by omega), if_neg (by omega), if_neg (by omega)]
    by_cases q : top = 0
    · rw [if_pos q]
      refine ⟨fun v z => (by cases z), fun _ o => ?_⟩
      simp (config := {decide := true}) only [h1, q, c1, t0, T1, T2, N1, N2, i1, a1, a2, f_X3_reckon_223, ne_eq, not_false_eq_true, and_self, and_true, true_and, and_false, false_and, true_or, or_true, false_or, or_false, not_true_eq_false, if_false, if_true]
    · rw [if_neg q]
      refine ⟨fun v z o => ?_, fun z => by cases z⟩
      cases z
      simp (config := {decide := true}) only [h1, q, c1, t0, r8, T1, T2, T9, N1, N2, N9, i1, i2, a1, a2, a9, f_X3_reckon_225, f_X3_reckon_404, pk_m1, ix_nI (show y < 2 ^ 31 by omega), hL, nI_1, ne_eq, not_false_eq_true, and_self, and_true, true_and, and_false, false_and, true_or, or_true, false_or, or_false, not_true_eq_false, if_false, if_true]
theorem rk_cmp {m : Mm} (h : Sh m) {w : Nat} (hw : isW w) {N to x st : Nat} (top : Int32) (hx : x < to) (ht : to ≤ 200) (hs : st < 200) {y op : Nat} (hop : isCmp op) (h1 : gI m (w + 1) x = nI op) (hy : y < 32) (o : Prop) : f_X3_reckon_11 (N + 1) w (nI to) top (nI (y + 1)) (nI x) (nI st) m o = f_X3_reckon_11 N w (nI to) top 0 (nI (x + 1)) (nI (st + 1)) (sI m w 11 (if opT op (gI m (w + 9) y) top then 1 else 0)) o := by
  obtain ⟨t0, r0, r1, -, -, -, -, r6, r7, r8⟩ := w_sh h hw
  obtain ⟨T1, T2, -, -, -, -, T7, T8, T9⟩ := w_T h hw
  obtain ⟨N1, N2, -, -, -, -, N7, N8, N9⟩ := w_N h hw
  have i1 : vp_in (nI x) 200 := vp_in_nI (by omega) (by omega)
  have i2 : vp_in (nI y) 32 := vp_in_nI (by omega) (by omega)
  have a1 : ¬ w + 1 = 0 := by omega
  have a2 : ¬ w + 2 = 0 := by omega
  have a9 : ¬ w + 9 = 0 := by omega
  have c1 : ¬ nI (y + 1) < 1 := fun z => absurd ((nI_ltI (b := 1) (by omega) (by omega)).mp z) (by omega)
  have base : f_X3_reckon_11 (N + 1) w (nI to) top (nI (y + 1)) (nI x) (nI st) m o = f_X3_reckon_11b (f_X3_reckon_11 N) w (nI to) top (nI (y + 1)) (nI x) (nI st) m o := rfl
  rw [base]
  unfold f_X3_reckon_11b
  rw [if_neg (show ¬ (200 : Int32) ≤ nI (st) from nI_ge (a := st) (b := 200) (by omega) (by omega)), if_neg (nI_ge hx (show to < 2 ^ 31 by omega))]
  rcases hop with rfl | rfl | rfl
  · have h1 : gI m (w + 1) x = 60 := h1
    have eT : opT 60 (gI m (w + 9) y) top = decide (gI m (w + 9) y < top) := rfl
    simp (config := {decide := true}) only [eT, r0, r1, ix_nI (show x < 2 ^ 31 by omega), h1, c1, t0, r8, T1, T2, T9, N1, N2, N9, i1, i2, a1, a2, a9, f_X3_reckon_225, f_X3_reckon_356, f_X3_reckon_359, f_X3_reckon_404, pk_m1, ix_nI (show y < 2 ^ 31 by omega), nI_1, ite_self, decide_eq_true_eq, ne_eq, not_false_eq_true, and_self, and_true, true_and, and_false, false_and, true_or, or_true, false_or, or_false, not_true_eq_false, if_false, if_true]
    generalize gI m (w + 9) y = L
    by_cases q : top ≤ L
    · rw [if_pos q, if_neg (fun z => (fa_of_lt z).2.1 q)]
    · rw [if_neg q, if_pos (fa_of_nle q)]
  · have h1 : gI m (w + 1) x = 62 := h1
    have eT : opT 62 (gI m (w + 9) y) top = decide (top < gI m (w + 9) y) := rfl
    simp (config := {decide := true}) only [eT, r0, r1, ix_nI (show x < 2 ^ 31 by omega), h1, c1, t0, r8, T1, T2, T9, N1, N2, N9, i1, i2, a1, a2, a9, f_X3_reckon_225, f_X3_reckon_377, f_X3_reckon_380, f_X3_reckon_404, pk_m1, ix_nI (show y < 2 ^ 31 by omega), nI_1, ite_self, decide_eq_true_eq, ne_eq, not_false_eq_true, and_self, and_true, true_and, and_false, false_and, true_or, or_true, false_or, or_false, not_true_eq_false, if_false, if_true]
    generalize gI m (w + 9) y = L
    by_cases q : L ≤ top
    · rw [if_pos q, if_neg (fun z => (fa_of_lt z).2.1 q)]
    · rw [if_neg q, if_pos (fa_of_nle q)]
  · have h1 : gI m (w + 1) x = 61 := h1
    have eT : opT 61 (gI m (w + 9) y) top = decide (gI m (w + 9) y = top) := rfl
    simp (config := {decide := true}) only [eT, r0, r1, ix_nI (show x < 2 ^ 31 by omega), h1, c1, t0, r8, T1, T2, T9, N1, N2, N9, i1, i2, a1, a2, a9, f_X3_reckon_225, f_X3_reckon_398, f_X3_reckon_401, f_X3_reckon_404, pk_m1, ix_nI (show y < 2 ^ 31 by omega), nI_1, ite_self, decide_eq_true_eq, ne_eq, not_false_eq_true, and_self, and_true, true_and, and_false, false_and, true_or, or_true, false_or, or_false, not_true_eq_false, if_false, if_true]
    generalize gI m (w + 9) y = L
    by_cases q : L = top
    · rw [if_pos q, if_pos q]
    · rw [if_neg q, if_neg q]
