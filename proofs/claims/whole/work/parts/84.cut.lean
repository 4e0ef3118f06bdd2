/-! ===== cut ===== -/
theorem e_tally2 {m : Mm} (h : Sh m) {w : Nat} (x y : Int32) (hw : w ≤ 16) (h7 : gI m 2 7 = nI w) (hL : ∀ e, e < w → okL (gI m (33 + 2 * e) 4)) (T : Nat → Int32) (o : Prop) : F_X2_tally 201 2 x y (fil m 202 0 20 T) o = ((), fil m 202 0 20 (tlC m x y w), o) := by
  have g : ∀ z i, z ≠ 202 → gI (fil m 202 0 20 T) z i = gI m z i := fun z i hz => by rw [gI_fil, if_neg (fun q => hz q.1)]
  rw [e_tally (m := fil m 202 0 20 T) h x y hw (by rw [g 2 7 (by omega)]; exact h7) (fun e he => by rw [g _ _ (by omega)]; exact hL e he), fil_fil]
  congr 2
  refine fil_congr _ _ _ _ (fun i _ => tlF_congr w (fun e he => ⟨?_, g _ _ (by omega), g _ _ (by omega)⟩) i)
  unfold qrt
  rw [g _ _ (by omega), g _ _ (by omega)]
def seN (m : Mm) (w : Nat) (col : Int32) (x y : Nat) : Int32 := sm (fun q => if stF m w (nI x) (nI y) q = col then 1 else 0) 0 0 4
theorem l_seatsOf {m : Mm} (h : Sh m) (w : Nat) (x y col : Int32) : ∀ (k N q : Nat) (a : Int32) (o : Prop), q + k = 4 → k < N → f_X2_seatsOf_4 N 201 col a (nI q) (fil m 202 0 20 (tlC m x y w)) o = (sm (fun q => if stF m w x y q = col then 1 else 0) a q k, fil m 202 0 20 (tlC m x y w), o) := by
  intro k
  induction k with
  | zero =>
    intro N q a o hq hN
    obtain ⟨N, rfl⟩ : ∃ N1, N = N1 + 1 := ⟨N - 1, by omega⟩
    show f_X2_seatsOf_4b (f_X2_seatsOf_4 N) 201 col a (nI q) _ o = _
    obtain rfl : q = 4 := by omega
    unfold f_X2_seatsOf_4b
    rw [if_pos (by decide)]
    rfl
  | succ k ih =>
    intro N q a o hq hN
    obtain ⟨N, rfl⟩ : ∃ N1, N = N1 + 1 := ⟨N - 1, by omega⟩
    have h' : Sh (fil m 202 0 20 (tlC m x y w)) := h
    show f_X2_seatsOf_4b (f_X2_seatsOf_4 N) 201 col a (nI q) _ o = _
    unfold f_X2_seatsOf_4b
    rw [if_neg (show ¬ (4 : Int32) ≤ nI (q) from nI_ge (a := q) (b := 4) (by omega) (by omega))]
    simp (config := {decide := true}) only [f_X2_seatsOf_15, f_X2_seatsOf_24, bnd, e_holder2 h (show q < 4 by omega), shT_201 h', nI_1, ih N (q + 1) _ _ (show q + 1 + k = 4 by omega) (show k < N by omega), sm, ne_eq, not_false_eq_true, and_self, and_true, true_and, and_false, false_and, true_or, or_true, false_or, or_false, not_true_eq_false, if_false, if_true]
    rcases Classical.propComplete (stF m w x y q = col) with q1 | q1 <;> simp (config := {decide := true}) only [q1, ne_eq, not_false_eq_true, and_self, and_true, true_and, and_false, false_and, true_or, or_true, false_or, or_false, not_true_eq_false, if_false, if_true]
def ctI (S : Nat → Nat → Int32) (x : Nat) : Int32 × Int32 × Int32 → Nat → Nat → Int32 × Int32 × Int32
  | t, _, 0 => t
  | t, y, k + 1 => ctI S x (if t.1 < S x y then (S x y, nI x, nI y) else t) (y + 1) k
def ctO (S : Nat → Nat → Int32) : Int32 × Int32 × Int32 → Nat → Nat → Int32 × Int32 × Int32
  | t, _, 0 => t
  | t, x, k + 1 => ctO S (ctI S x t 1 9) (x + 1) k
def ctA (what : Int32) (t : Int32 × Int32 × Int32) : Int32 := if what = 0 then t.1 else if what = 1 then t.2.1 else t.2.2
theorem l_cut1 {m : Mm} (h : Sh m) {w : Nat} (hw : w ≤ 16) (h7 : gI m 2 7 = nI w) (hL : ∀ e, e < w → okL (gI m (33 + 2 * e) 4)) (col what : Int32) (K : Nat → Int32 → Int32 → Int32 → Int32 → Int32 → Int32 → Mm → Prop → Int32 × Mm × Prop) (x : Nat) : ∀ (k N y : Nat) (t : Int32 × Int32 × Int32) (T : Nat → Int32), y + k = 10 → k < N → ∃ T', ∀ o, f_X11_cut_39 K N 1 col what t.1 t.2.1 t.2.2 (nI x) (nI y) (fil m 202 0 20 T) o = K 1 col what (ctI (seN m w col) x t y k).1 (ctI (seN m w col) x t y k).2.1 (ctI (seN m w col) x t y k).2.2 (nI (x + 1)) (fil m 202 0 20 T') o := by
  intro k
  induction k with
  | zero =>
    intro N y t T hy hN
    obtain ⟨N, rfl⟩ : ∃ N1, N = N1 + 1 := ⟨N - 1, by omega⟩
    refine ⟨T, fun o => ?_⟩
    show f_X11_cut_39b K (f_X11_cut_39 K N) 1 col what t.1 t.2.1 t.2.2 (nI x) (nI y) _ o = _
    obtain rfl : y = 10 := by omega
    unfold f_X11_cut_39b
    rw [if_pos (by decide), nI_1]
    rfl
  | succ k ih =>
    intro N y t T hy hN
    obtain ⟨N, rfl⟩ : ∃ N1, N = N1 + 1 := ⟨N - 1, by omega⟩
    obtain ⟨T', hT⟩ := ih N (y + 1) (if t.1 < seN m w col x y then (seN m w col x y, nI x, nI y) else t) (tlC m (nI x) (nI y) w) (by omega) (by omega)
    refine ⟨T', fun o => ?_⟩
    have s1 : Sh (fil m 202 0 20 T) := h
    have s2 : Sh (fil m 202 0 20 (tlC m (nI x) (nI y) w)) := h
    have hse := fun o => l_seatsOf h w (nI x) (nI y) col 4 1000 0 0 o (by omega) (by omega)
    rw [nI_0] at hse
    have hse : ∀ o, F_X2_seatsOf 201 col (fil m 202 0 20 (tlC m (nI x) (nI y) w)) o = (seN m w col x y, fil m 202 0 20 (tlC m (nI x) (nI y) w), o) := hse
    show f_X11_cut_39b K (f_X11_cut_39 K N) 1 col what t.1 t.2.1 t.2.2 (nI x) (nI y) _ o = _
    unfold f_X11_cut_39b
    rw [if_neg (show ¬ (10 : Int32) ≤ nI (y) from nI_ge (a := y) (b := 10) (by omega) (by omega))]
    simp (config := {decide := true}) only [f_X11_cut_61, f_X11_cut_69, f_X11_cut_88, bnd, shT_1 s1, shR_1_0 s1, shR_1_7 s1, shT_2 s1, shT_201 s1, shT_1 s2, shR_1_0 s2, shR_1_7 s2, shT_2 s2, shT_201 s2, e_tally2 h _ _ hw h7 hL, hse, nI_1, ne_eq, not_false_eq_true, and_self, and_true, true_and, and_false, false_and, true_or, or_true, false_or, or_false, not_true_eq_false, if_false, if_true]
    rw [ctI]
    by_cases q : t.1 < seN m w col x y
    · rw [if_neg (fun z => (i32_nlt _ _).mpr z q)]
      simp only [if_pos q] at hT ⊢
      exact hT o
    · rw [if_pos ((i32_nlt _ _).mp q)]
      simp only [if_neg q] at hT ⊢
      exact hT o
theorem l_cut2 {m : Mm} (h : Sh m) {w : Nat} (hw : w ≤ 16) (h7 : gI m 2 7 = nI w) (hL : ∀ e, e < w → okL (gI m (33 + 2 * e) 4)) (col what : Int32) : ∀ (k N x : Nat) (t : Int32 × Int32 × Int32) (T : Nat → Int32), x + k = 10 → k < N → ∃ T', ∀ o, f_X11_cut_29 N 1 col what t.1 t.2.1 t.2.2 (nI x) (fil m 202 0 20 T) o = (ctA what (ctO (seN m w col) t x k), fil m 202 0 20 T', o) := by
  intro k
  induction k with
  | zero =>
    intro N x t T hx hN
    obtain ⟨N, rfl⟩ : ∃ N1, N = N1 + 1 := ⟨N - 1, by omega⟩
    refine ⟨T, fun o => ?_⟩
    show f_X11_cut_29b (f_X11_cut_29 N) 1 col what t.1 t.2.1 t.2.2 (nI x) _ o = _
    obtain rfl : x = 10 := by omega
    unfold f_X11_cut_29b f_X11_cut_118 ctA ctO
    rw [if_pos (by decide)]
    rcases Classical.propComplete (what = 0) with q1 | q1 <;> rcases Classical.propComplete (what = 1) with q2 | q2 <;> simp (config := {decide := true}) only [q1, q2, ne_eq, not_false_eq_true, and_self, and_true, true_and, and_false, false_and, true_or, or_true, false_or, or_false, not_true_eq_false, if_false, if_true]
  | succ k ih =>
    intro N x t T hx hN
    obtain ⟨N, rfl⟩ : ∃ N1, N = N1 + 1 := ⟨N - 1, by omega⟩
    obtain ⟨T1, h1⟩ := l_cut1 h hw h7 hL col what (f_X11_cut_29 N) x 9 1000 1 t T (by omega) (by omega)
    obtain ⟨T2, h2⟩ := ih N (x + 1) (ctI (seN m w col) x t 1 9) T1 (by omega) (by omega)
    refine ⟨T2, fun o => ?_⟩
    show f_X11_cut_29b (f_X11_cut_29 N) 1 col what t.1 t.2.1 t.2.2 (nI x) _ o = _
    unfold f_X11_cut_29b
    rw [if_neg (show ¬ (10 : Int32) ≤ nI (x) from nI_ge (a := x) (b := 10) (by omega) (by omega))]
    show f_X11_cut_39 (f_X11_cut_29 N) 1000 1 col what t.1 t.2.1 t.2.2 (nI x) (nI 1) _ o = _
    rw [h1, h2]
    rfl
theorem e_seatOf2 {m m0 : Mm} (h : Sh m) {w q : Nat} (x y : Int32) (hq : q < 4) (hw : w ≤ 16) (h3 : gI m 225 3 = nI w) (hC : ∀ e, e < w → okL (gI m0 (33 + 2 * e) 4) ∧ gI m 237 e = gI m0 (33 + 2 * e) 4 ∧ gI m 235 e = gI m0 (33 + 2 * e) 2 ∧ gI m 234 e / 10 = gI m0 (33 + 2 * e) 1 ∧ irm (gI m 234 e) 10 = gI m0 (33 + 2 * e) 0) (T : Nat → Int32) (o : Prop) : F_X12_seatOf 225 (nI q) x y (fil m 275 0 5 T) o = (stF m0 w x y q, fil m 275 0 5 (fun j => tlC m0 x y w (5 * q + j)), o) := by
  have g : ∀ z i, z ≠ 275 → gI (fil m 275 0 5 T) z i = gI m z i := fun z i hz => by rw [gI_fil, if_neg (fun q => hz q.1)]
  rw [e_seatOf (m := fil m 275 0 5 T) (m0 := m0) h x y hq hw (by rw [g 225 3 (by omega)]; exact h3) (fun e he => by rw [g 237 _ (by omega), g 235 _ (by omega), g 234 _ (by omega)]; exact hC e he), fil_fil]
theorem l_cutM0 {m m0 : Mm} (h : Sh m) {w : Nat} (hw : w ≤ 16) (h3 : gI m 225 3 = nI w) (hC : ∀ e, e < w → okL (gI m0 (33 + 2 * e) 4) ∧ gI m 237 e = gI m0 (33 + 2 * e) 4 ∧ gI m 235 e = gI m0 (33 + 2 * e) 2 ∧ gI m 234 e / 10 = gI m0 (33 + 2 * e) 1 ∧ irm (gI m 234 e) 10 = gI m0 (33 + 2 * e) 0) (col what : Int32) (K : Nat → Int32 → Int32 → Int32 → Int32 → Int32 → Int32 → Mm → Prop → Int32 × Mm × Prop) (K2 : Nat → Int32 → Int32 → Int32 → Int32 → Int32 → Int32 → Int32 → Mm → Prop → Int32 × Mm × Prop) (t : Int32 × Int32 × Int32) (x y : Nat) : ∀ (k N q : Nat) (a : Int32) (T : Nat → Int32), q + k = 4 → k < N → ∃ T', ∀ o, f_X12_cut_55 K K2 N 225 col what t.1 t.2.1 t.2.2 (nI x) (nI y) a (nI q) (fil m 275 0 5 T) o = (if t.1 < sm (fun q => if stF m0 w (nI x) (nI y) q = col then 1 else 0) a q k then K2 225 col what (sm (fun q => if stF m0 w (nI x) (nI y) q = col then 1 else 0) a q k) (nI x) (nI y) (nI x) (nI (y + 1)) (fil m 275 0 5 T') o else K2 225 col what t.1 t.2.1 t.2.2 (nI x) (nI (y + 1)) (fil m 275 0 5 T') o) := by
  intro k
  induction k with
  | zero =>
    intro N q a T hq hN
    obtain ⟨N, rfl⟩ : ∃ N1, N = N1 + 1 := ⟨N - 1, by omega⟩
    refine ⟨T, fun o => ?_⟩
    show f_X12_cut_55b K K2 (f_X12_cut_55 K K2 N) 225 col what t.1 t.2.1 t.2.2 (nI x) (nI y) a (nI q) _ o = _
    obtain rfl : q = 4 := by omega
    unfold f_X12_cut_55b f_X12_cut_111
    rw [if_pos (by decide), nI_1]
    rfl
  | succ k ih =>
    intro N q a T hq hN
    obtain ⟨N, rfl⟩ : ∃ N1, N = N1 + 1 := ⟨N - 1, by omega⟩
    have s1 : Sh (fil m 275 0 5 T) := h
    obtain ⟨T', hT⟩ := ih N (q + 1) (a + if stF m0 w (nI x) (nI y) q = col then 1 else 0) (fun j => tlC m0 (nI x) (nI y) w (5 * q + j)) (by omega) (by omega)
    refine ⟨T', fun o => ?_⟩
    show f_X12_cut_55b K K2 (f_X12_cut_55 K K2 N) 225 col what t.1 t.2.1 t.2.2 (nI x) (nI y) a (nI q) _ o = _
    unfold f_X12_cut_55b
    rw [if_neg (show ¬ (4 : Int32) ≤ nI (q) from nI_ge (a := q) (b := 4) (by omega) (by omega))]
    simp (config := {decide := true}) only [f_X12_cut_73, f_X12_cut_82, bnd, shT_225 s1, e_seatOf2 h _ _ (show q < 4 by omega) hw h3 hC, nI_1, sm, ne_eq, not_false_eq_true, and_self, and_true, true_and, and_false, false_and, true_or, or_true, false_or, or_false, not_true_eq_false, if_false, if_true]
    rcases Classical.propComplete (stF m0 w (nI x) (nI y) q = col) with q1 | q1 <;> simp (config := {decide := true}) only [q1, ne_eq, not_false_eq_true, and_self, and_true, true_and, and_false, false_and, true_or, or_true, false_or, or_false, not_true_eq_false, if_false, if_true] at hT ⊢ <;> exact hT o
theorem l_cutM1 {m m0 : Mm} (h : Sh m) {w : Nat} (hw : w ≤ 16) (h3 : gI m 225 3 = nI w) (hC : ∀ e, e < w → okL (gI m0 (33 + 2 * e) 4) ∧ gI m 237 e = gI m0 (33 + 2 * e) 4 ∧ gI m 235 e = gI m0 (33 + 2 * e) 2 ∧ gI m 234 e / 10 = gI m0 (33 + 2 * e) 1 ∧ irm (gI m 234 e) 10 = gI m0 (33 + 2 * e) 0) (col what : Int32) (K : Nat → Int32 → Int32 → Int32 → Int32 → Int32 → Int32 → Mm → Prop → Int32 × Mm × Prop) (x : Nat) : ∀ (k N y : Nat) (t : Int32 × Int32 × Int32) (T : Nat → Int32), y + k = 10 → k < N → ∃ T', ∀ o, f_X12_cut_42 K N 225 col what t.1 t.2.1 t.2.2 (nI x) (nI y) (fil m 275 0 5 T) o = K 225 col what (ctI (seN m0 w col) x t y k).1 (ctI (seN m0 w col) x t y k).2.1 (ctI (seN m0 w col) x t y k).2.2 (nI (x + 1)) (fil m 275 0 5 T') o := by
  intro k
  induction k with
  | zero =>
    intro N y t T hy hN
    obtain ⟨N, rfl⟩ : ∃ N1, N = N1 + 1 := ⟨N - 1, by omega⟩
    refine ⟨T, fun o => ?_⟩
    show f_X12_cut_42b K (f_X12_cut_42 K N) 225 col what t.1 t.2.1 t.2.2 (nI x) (nI y) _ o = _
    obtain rfl : y = 10 := by omega
    unfold f_X12_cut_42b
    rw [if_pos (by decide), nI_1]
    rfl
  | succ k ih =>
    intro N y t T hy hN
    obtain ⟨N, rfl⟩ : ∃ N1, N = N1 + 1 := ⟨N - 1, by omega⟩
    obtain ⟨T1, h1⟩ := l_cutM0 h hw h3 hC col what K (f_X12_cut_42 K N) t x y 4 1000 0 0 T (by omega) (by omega)
    obtain ⟨T2, h2⟩ := ih N (y + 1) (if t.1 < seN m0 w col x y then (seN m0 w col x y, nI x, nI y) else t) T1 (by omega) (by omega)
    refine ⟨T2, fun o => ?_⟩
    rw [nI_0] at h1
    show f_X12_cut_42b K (f_X12_cut_42 K N) 225 col what t.1 t.2.1 t.2.2 (nI x) (nI y) _ o = _
    unfold f_X12_cut_42b
    rw [if_neg (show ¬ (10 : Int32) ≤ nI (y) from nI_ge (a := y) (b := 10) (by omega) (by omega)), h1, ctI]
    by_cases q : t.1 < seN m0 w col x y
    · rw [if_pos (show t.1 < sm _ 0 0 4 from q)]
      simp only [if_pos q] at h2 ⊢
      exact h2 o
    · rw [if_neg (show ¬ t.1 < sm _ 0 0 4 from q)]
      simp only [if_neg q] at h2 ⊢
      exact h2 o
theorem l_cutM2 {m m0 : Mm} (h : Sh m) {w : Nat} (hw : w ≤ 16) (h3 : gI m 225 3 = nI w) (hC : ∀ e, e < w → okL (gI m0 (33 + 2 * e) 4) ∧ gI m 237 e = gI m0 (33 + 2 * e) 4 ∧ gI m 235 e = gI m0 (33 + 2 * e) 2 ∧ gI m 234 e / 10 = gI m0 (33 + 2 * e) 1 ∧ irm (gI m 234 e) 10 = gI m0 (33 + 2 * e) 0) (col what : Int32) : ∀ (k N x : Nat) (t : Int32 × Int32 × Int32) (T : Nat → Int32), x + k = 10 → k < N → ∃ T', ∀ o, f_X12_cut_32 N 225 col what t.1 t.2.1 t.2.2 (nI x) (fil m 275 0 5 T) o = (ctA what (ctO (seN m0 w col) t x k), fil m 275 0 5 T', o) := by
  intro k
  induction k with
  | zero =>
    intro N x t T hx hN
    obtain ⟨N, rfl⟩ : ∃ N1, N = N1 + 1 := ⟨N - 1, by omega⟩
    refine ⟨T, fun o => ?_⟩
    show f_X12_cut_32b (f_X12_cut_32 N) 225 col what t.1 t.2.1 t.2.2 (nI x) _ o = _
    obtain rfl : x = 10 := by omega
    unfold f_X12_cut_32b f_X12_cut_143 ctA ctO
    rw [if_pos (by decide)]
    rcases Classical.propComplete (what = 0) with q1 | q1 <;> rcases Classical.propComplete (what = 1) with q2 | q2 <;> simp (config := {decide := true}) only [q1, q2, ne_eq, not_false_eq_true, and_self, and_true, true_and, and_false, false_and, true_or, or_true, false_or, or_false, not_true_eq_false, if_false, if_true]
  | succ k ih =>
    intro N x t T hx hN
    obtain ⟨N, rfl⟩ : ∃ N1, N = N1 + 1 := ⟨N - 1, by omega⟩
    obtain ⟨T1, h1⟩ := l_cutM1 h hw h3 hC col what (f_X12_cut_32 N) x 9 1000 1 t T (by omega) (by omega)
    obtain ⟨T2, h2⟩ := ih N (x + 1) (ctI (seN m0 w col) x t 1 9) T1 (by omega) (by omega)
    refine ⟨T2, fun o => ?_⟩
    show f_X12_cut_32b (f_X12_cut_32 N) 225 col what t.1 t.2.1 t.2.2 (nI x) _ o = _
    unfold f_X12_cut_32b
    rw [if_neg (show ¬ (10 : Int32) ≤ nI (x) from nI_ge (a := x) (b := 10) (by omega) (by omega))]
    show f_X12_cut_42 (f_X12_cut_32 N) 1000 225 col what t.1 t.2.1 t.2.2 (nI x) (nI 1) _ o = _
    rw [h1, h2]
    rfl
/-- a fill of what is there -/
theorem fil_self (m : Mm) (q lo k : Nat) : fil m q lo k (fun i => gI m q (lo + i)) = m := by
  unfold fil
  rw [← uI_self m, uI_uI]
  refine uI_ext (fun x i => ?_)
  by_cases h2 : x = q ∧ lo ≤ i ∧ i < lo + k
  · rw [if_pos h2]
    show gI m q (lo + (i - lo)) = gI m x i
    rw [h2.1, show lo + (i - lo) = i by omega]
  · rw [if_neg h2]; rfl
theorem p_cut : Pr_cut Rel := fun a b => PrI_ex (fun m hR => by
  have h := hR.1
  obtain ⟨n, w, ⟨⟨hn, hw⟩, -, ⟨h7, h3⟩, -⟩, hb⟩ := hR.2.2.1
  have h3 : gI m 225 3 = nI w := h3
  have hC := cows_of hb
  have hl := e_lies b 0 2
  rw [show Int32.toInt64 0 = 0 by decide, show Int32.toInt64 2 = 2 by decide] at hl
  by_cases qa : 0 ≤ a ∧ a ≤ 4
  · have ra : (0 ≤ a ∧ a ≤ 4) = True := eq_true qa
    by_cases qb : 0 ≤ b ∧ b ≤ 2
    · have rb : (0 ≤ b ∧ b ≤ 2) = True := eq_true qb
      obtain ⟨T1, h1⟩ := l_cut2 h hw h7 (fun e he => (hC e he).1) a b 9 1000 1 (-1, 0, 0) (fun i => gI m 202 (0 + i)) (by omega) (by omega)
      rw [fil_self, show nI 1 = 1 from rfl] at h1
      have g : ∀ z i, z ≠ 202 → gI (fil m 202 0 20 T1) z i = gI m z i := fun z i hz => by rw [gI_fil, if_neg (fun q => hz q.1)]
      obtain ⟨T2, h2⟩ := l_cutM2 (m := fil m 202 0 20 T1) (m0 := m) h hw (by rw [g 225 3 (by omega)]; exact h3) (fun e he => by rw [g 237 _ (by omega), g 235 _ (by omega), g 234 _ (by omega)]; exact hC e he) a b 9 1000 1 (-1, 0, 0) (fun i => gI (fil m 202 0 20 T1) 275 (0 + i)) (by omega) (by omega)
      rw [fil_self, show nI 1 = 1 from rfl] at h2
      refine ⟨ctA b (ctO (seN m w a) (-1, 0, 0) 1 9), fil m 202 0 20 T1, fil (fil m 202 0 20 T1) 275 0 5 T2, fun o => ?_, h, fun o => ?_, Rel_same hR h ⟨rfl, rfl⟩ (fun x i hx => ?_)⟩
      · simp (config := {decide := true}) only [f_X11_cut_16, f_X11_cut_88, f_X11_cut_69, f_X11_cut_61, f_X11_cut_118, f_X11_cut_13, f_X11_cut_4, f_X11_cut_0, F_X11_cut, bnd, e_isColour, e_isWithin, ra, rb, bI_0, ne_eq, not_false_eq_true, and_self, and_true, true_and, and_false, false_and, true_or, or_true, false_or, or_false, not_true_eq_false, if_false, if_true]
        exact h1 o
      · simp (config := {decide := true}) only [f_X12_cut_19, f_X12_cut_82, f_X12_cut_73, f_X12_cut_111, f_X12_cut_143, f_X12_cut_16, f_X12_cut_4, f_X12_cut_0, F_X12_cut, bnd, e_isColourM, hl, ra, rb, bI_0, ne_eq, not_false_eq_true, and_self, and_true, true_and, and_false, false_and, true_or, or_true, false_or, or_false, not_true_eq_false, if_false, if_true]
        exact h2 o
      · have : x ≠ 202 ∧ x ≠ 275 := by unfold inAny inNow inKept inTape inLaw at hx; omega
        rw [gI_fil, if_neg (fun z => this.2 z.1), gI_fil, if_neg (fun z => this.1 z.1)]
    · have rb : (0 ≤ b ∧ b ≤ 2) = False := eq_false qb
      refine ⟨-1, m, m, fun o => ?_, h, fun o => ?_, hR⟩
      · simp (config := {decide := true}) only [f_X11_cut_16, f_X11_cut_88, f_X11_cut_69, f_X11_cut_61, f_X11_cut_118, f_X11_cut_13, f_X11_cut_4, f_X11_cut_0, F_X11_cut, bnd, e_isColour, e_isWithin, ra, rb, bI_0, ne_eq, not_false_eq_true, and_self, and_true, true_and, and_false, false_and, true_or, or_true, false_or, or_false, not_true_eq_false, if_false, if_true]
      · simp (config := {decide := true}) only [f_X12_cut_19, f_X12_cut_82, f_X12_cut_73, f_X12_cut_111, f_X12_cut_143, f_X12_cut_16, f_X12_cut_4, f_X12_cut_0, F_X12_cut, bnd, e_isColourM, hl, ra, rb, bI_0, ne_eq, not_false_eq_true, and_self, and_true, true_and, and_false, false_and, true_or, or_true, false_or, or_false, not_true_eq_false, if_false, if_true]
  · have ra : (0 ≤ a ∧ a ≤ 4) = False := eq_false qa
    refine ⟨-1, m, m, fun o => ?_, h, fun o => ?_, hR⟩
    · simp (config := {decide := true}) only [f_X11_cut_16, f_X11_cut_88, f_X11_cut_69, f_X11_cut_61, f_X11_cut_118, f_X11_cut_13, f_X11_cut_4, f_X11_cut_0, F_X11_cut, bnd, e_isColour, ra, bI_0, ne_eq, not_false_eq_true, and_self, and_true, true_and, and_false, false_and, true_or, or_true, false_or, or_false, not_true_eq_false, if_false, if_true]
    · simp (config := {decide := true}) only [f_X12_cut_19, f_X12_cut_82, f_X12_cut_73, f_X12_cut_111, f_X12_cut_143, f_X12_cut_16, f_X12_cut_4, f_X12_cut_0, F_X12_cut, bnd, e_isColourM, ra, bI_0, ne_eq, not_false_eq_true, and_self, and_true, true_and, and_false, false_and, true_or, or_true, false_or, or_false, not_true_eq_false, if_false, if_true])
