/-! ===== seat ===== -/
theorem fil_set (m : Mm) (q lo k : Nat) (B : Nat → Int32) {j : Nat} (hj : j < k) (v : Int32) : sI (fil m q lo k B) q (lo + j) v = fil m q lo k (fun i => if i = j then v else B i) := by
  unfold fil
  rw [sI_uI]
  refine uI_ext (fun x i => ?_)
  by_cases h : x = q ∧ i = lo + j
  · rw [if_pos h, if_pos ⟨h.1, by omega, by omega⟩]
    show v = if i - lo = j then v else B (i - lo)
    rw [if_pos (by omega)]
  · rw [if_neg h]
    by_cases h2 : x = q ∧ lo ≤ i ∧ i < lo + k
    · rw [if_pos h2, if_pos h2]
      show _ = if i - lo = j then v else B (i - lo)
      rw [if_neg (by omega)]
    · rw [if_neg h2, if_neg h2]
theorem fil_congr (m : Mm) (q lo k : Nat) {B B' : Nat → Int32} (h : ∀ i, i < k → B i = B' i) : fil m q lo k B = fil m q lo k B' := by
  unfold fil
  refine uI_ext (fun x i => ?_)
  by_cases h2 : x = q ∧ lo ≤ i ∧ i < lo + k
  · rw [if_pos h2, if_pos h2, h _ (by omega)]
  · rw [if_neg h2, if_neg h2]
theorem fil_fil (m : Mm) (q lo k : Nat) (B B' : Nat → Int32) : fil (fil m q lo k B) q lo k B' = fil m q lo k B' := by
  unfold fil
  rw [uI_uI]
  refine uI_ext (fun x i => ?_)
  rw [gI_uI]
  by_cases h2 : x = q ∧ lo ≤ i ∧ i < lo + k
  · rw [if_pos h2, if_pos h2]
  · rw [if_neg h2, if_neg h2, if_neg h2]
/-- a common state that no place of the meadows, the tape, the laws has left -/
def inAny (q i : Nat) : Prop := inNow q i ∨ inKept q i ∨ inTape q i ∨ inLaw q i
theorem Rel_same {m m' : Mm} (hR : Rel m) (hS : Sh m') (hr : gR m' 1 9 = gR m 1 9 ∧ gR m' 1 10 = gR m 1 10) (hf : ∀ q i, inAny q i → gI m' q i = gI m q i) : Rel m' :=
  Rel_parts hR hS hr (Now_frame hR.2.2.1 (fun q i h => hf q i (.inl h))) (Kept_frame (Rel_kept hR) (fun q i h => hf q i (.inr (.inl h)))) (Tape_frame hR.2.2.2.2.2.1 (fun q i h => hf q i (.inr (.inr (.inl h))))) (Law_frame hR.2.1 hR.2.2.2.2.2.2 hr.1 (fun q i h => hf q i (.inr (.inr (.inr h)))))
/-- the votes by quarter and colour, of the first c cows -/
def tlF (Q : Nat → Nat) (L V : Nat → Int32) : Nat → Nat → Int32
  | 0, _ => 0
  | c + 1, i => if L c = -2 then tlF Q L V c i else if i = 5 * Q c + ix (L c) then tlF Q L V c i + V c else tlF Q L V c i
theorem tlF_congr {Q Q' : Nat → Nat} {L L' V V' : Nat → Int32} : ∀ (c : Nat), (∀ e, e < c → Q e = Q' e ∧ L e = L' e ∧ V e = V' e) → ∀ i, tlF Q L V c i = tlF Q' L' V' c i
  | 0, _, _ => rfl
  | c + 1, h, i => by
    obtain ⟨h1, h2, h3⟩ := h c (by omega)
    unfold tlF
    rw [tlF_congr c (fun e he => h e (by omega)), h1, h2, h3]
/-- in which quarter a cow is, by a cut -/
def qrt (x y : Int32) (f : Nat → Int32) : Nat := (if y ≤ f 1 then 2 else 0) + (if x ≤ f 0 then 1 else 0)
theorem qrt_4 (x y : Int32) (f : Nat → Int32) : qrt x y f ≤ 3 := by
  unfold qrt
  by_cases q1 : y ≤ f 1 <;> by_cases q2 : x ≤ f 0 <;> simp [q1, q2]
def tlC (m : Mm) (x y : Int32) (c i : Nat) : Int32 := tlF (fun e => qrt x y (gI m (33 + 2 * e))) (fun e => gI m (33 + 2 * e) 4) (fun e => gI m (33 + 2 * e) 2) c i
def okL (l : Int32) : Prop := l = -2 ∨ ∃ j, j ≤ 4 ∧ l = nI j
theorem l_tally {m : Mm} (h : Sh m) {w : Nat} (x y : Int32) (hw : w ≤ 16) (h7 : gI m 2 7 = nI w) (hL : ∀ e, e < w → okL (gI m (33 + 2 * e) 4)) : ∀ (k N c : Nat) (o : Prop), c + k = w → k < N → f_X2_tally_27 N 201 2 x y (nI c) (fil m 202 0 20 (tlC m x y c)) o = ((), fil m 202 0 20 (tlC m x y w), o) := by
  intro k
  induction k with
  | zero =>
    intro N c o hc hN
    obtain ⟨N, rfl⟩ : ∃ N1, N = N1 + 1 := ⟨N - 1, by omega⟩
    show f_X2_tally_27b (f_X2_tally_27 N) 201 2 x y (nI c) _ o = _
    have h' : Sh (fil m 202 0 20 (tlC m x y c)) := h
    have h7' : gI (fil m 202 0 20 (tlC m x y c)) 2 7 = nI w := by rw [gI_fil, if_neg (by omega)]; exact h7
    have hle : nI w ≤ nI c := nI_le (by omega) (by omega)
    obtain rfl : c = w := by omega
    simp (config := {decide := true}) only [f_X2_tally_27b, h7', shT_2 h', hle, ne_eq, not_false_eq_true, and_self, and_true, true_and, and_false, false_and, true_or, or_true, false_or, or_false, not_true_eq_false, if_false, if_true]
  | succ k ih =>
    intro N c o hc hN
    obtain ⟨N, rfl⟩ : ∃ N1, N = N1 + 1 := ⟨N - 1, by omega⟩
    have h' : Sh (fil m 202 0 20 (tlC m x y c)) := h
    have h7' : gI (fil m 202 0 20 (tlC m x y c)) 2 7 = nI w := by rw [gI_fil, if_neg (by omega)]; exact h7
    have hle : ¬ nI w ≤ nI c := nI_ge (by omega) (by omega)
    obtain ⟨r1, r2, -⟩ := md_cow h' (p := 2) (.inl rfl) (show c < 16 by omega)
    have r1 : gR (fil m 202 0 20 (tlC m x y c)) 4 c = 33 + 2 * c := r1
    have r2 : gT (fil m 202 0 20 (tlC m x y c)) (33 + 2 * c) = 2 := r2
    have n1 : ¬ 33 + 2 * c = 0 := by omega
    have hin : vp_in (nI c) 16 := vp_in_nI (by omega) (by omega)
    have hg : ∀ i, gI (fil m 202 0 20 (tlC m x y c)) (33 + 2 * c) i = gI m (33 + 2 * c) i := fun i => by rw [gI_fil, if_neg (by omega)]
    show f_X2_tally_27b (f_X2_tally_27 N) 201 2 x y (nI c) _ o = _
    have hq4 := qrt_4 x y (gI m (33 + 2 * c))
    have hqq : ∀ (K : Nat → Nat → Int32 → Int32 → Int32 → Mm → Prop → Unit × Mm × Prop) o, f_X2_tally_27b K 201 2 x y (nI c) (fil m 202 0 20 (tlC m x y c)) o = f_X2_tally_73 K 201 2 x y (nI c) (33 + 2 * c) 0 (nI (qrt x y (gI m (33 + 2 * c)))) (fil m 202 0 20 (tlC m x y c)) o := fun K o => by
      simp (config := {decide := true}) only [f_X2_tally_27b, f_X2_tally_59, f_X2_tally_73, h7', hle, hg, shT_2 h', shR_2_1 h', shT_4 h', shN_4 h', r1, r2, n1, hin, ix_nI (show c < 2 ^ 31 by omega), qrt, ne_eq, not_false_eq_true, and_self, and_true, true_and, and_false, false_and, true_or, or_true, false_or, or_false, not_true_eq_false, if_false, if_true]
      rcases Classical.propComplete (y ≤ gI m (33 + 2 * c) 1) with q1 | q1 <;> rcases Classical.propComplete (x ≤ gI m (33 + 2 * c) 0) with q2 | q2 <;> simp (config := {decide := true}) only [q1, q2, ne_eq, not_false_eq_true, and_self, and_true, true_and, and_false, false_and, true_or, or_true, false_or, or_false, not_true_eq_false, if_false, if_true] <;> rfl
    rw [hqq]
    unfold f_X2_tally_73 f_X2_tally_109
    rw [hg, hg, show nI (qrt x y (gI m (33 + 2 * c))) + 0 = nI (qrt x y (gI m (33 + 2 * c))) from Int32.add_zero _]
    rcases hL c (by omega) with e | ⟨j, hj, e⟩
    · have ec : fil m 202 0 20 (tlC m x y c) = fil m 202 0 20 (tlC m x y (c + 1)) := fil_congr _ _ _ _ (fun i _ => by
        show _ = (if gI m (33 + 2 * c) 4 = -2 then _ else _)
        rw [if_pos e]
        rfl)
      rw [if_pos e]
      simp (config := {decide := true}) only [r2, nI_1, ne_eq, not_false_eq_true, and_self, and_true, true_and, and_false, false_and, true_or, or_true, false_or, or_false, not_true_eq_false, if_false, if_true]
      rw [ec, ih N (c + 1) o (by omega) (by omega)]
    · have hne : ¬ gI m (33 + 2 * c) 4 = -2 := by
        rw [e]
        intro z
        exact absurd (z ▸ nI_pos' (n := j) (by omega)) (by decide)
      have e5 : nI (qrt x y (gI m (33 + 2 * c))) * 5 + nI j = nI (5 * qrt x y (gI m (33 + 2 * c)) + j) := by
        rw [show (5 : Int32) = nI 5 from rfl, pk_mul, nI_add, Nat.mul_comm]
      have hin2 : vp_in (nI (5 * qrt x y (gI m (33 + 2 * c)) + j)) 20 := vp_in_nI (by omega) (by omega)
      have hrd : gI (fil m 202 0 20 (tlC m x y c)) 202 (5 * qrt x y (gI m (33 + 2 * c)) + j) = tlC m x y c (5 * qrt x y (gI m (33 + 2 * c)) + j) := by
        rw [gI_fil, if_pos ⟨rfl, by omega, by omega⟩, Nat.sub_zero]
      have ec : sI (fil m 202 0 20 (tlC m x y c)) 202 (5 * qrt x y (gI m (33 + 2 * c)) + j) (tlC m x y c (5 * qrt x y (gI m (33 + 2 * c)) + j) + gI m (33 + 2 * c) 2) = fil m 202 0 20 (tlC m x y (c + 1)) := by
        have := fil_set m 202 0 20 (tlC m x y c) (j := 5 * qrt x y (gI m (33 + 2 * c)) + j) (by omega) (tlC m x y c (5 * qrt x y (gI m (33 + 2 * c)) + j) + gI m (33 + 2 * c) 2)
        rw [Nat.zero_add] at this
        rw [this]
        refine fil_congr _ _ _ _ (fun i _ => ?_)
        show _ = (if gI m (33 + 2 * c) 4 = -2 then _ else if i = 5 * qrt x y (gI m (33 + 2 * c)) + ix (gI m (33 + 2 * c) 4) then _ else _)
        rw [if_neg hne, e, ix_nI (by omega)]
        by_cases qi : i = 5 * qrt x y (gI m (33 + 2 * c)) + j
        · rw [if_pos qi, if_pos qi, qi]; rfl
        · rw [if_neg qi, if_neg qi]; rfl
      rw [if_neg hne, e]
      simp (config := {decide := true}) only [e5, hin2, r2, ix_nI (show 5 * qrt x y (gI m (33 + 2 * c)) + j < 2 ^ 31 by omega), shT_201 h', shR_201_0 h', shT_202 h', shN_202 h', hrd, ec, nI_1, ne_eq, not_false_eq_true, and_self, and_true, true_and, and_false, false_and, true_or, or_true, false_or, or_false, not_true_eq_false, if_false, if_true]
      rw [ih N (c + 1) o (by omega) (by omega)]
theorem l_tally0 {m : Mm} (h : Sh m) (x y : Int32) (r : Mm → Prop → Unit × Mm × Prop) (hr : ∀ m' o, f_X2_tally_27 1000 201 2 x y 0 m' o = r m' o) : ∀ (k N i : Nat) (o : Prop), i + k = 20 → k < N → f_X2_tally_3 N 201 2 x y (nI i) (fil m 202 0 i d0) o = r (fil m 202 0 20 d0) o := by
  intro k
  induction k with
  | zero =>
    intro N i o hi hN
    obtain ⟨N, rfl⟩ : ∃ N1, N = N1 + 1 := ⟨N - 1, by omega⟩
    show f_X2_tally_3b (f_X2_tally_3 N) 201 2 x y (nI i) _ o = _
    obtain rfl : i = 20 := by omega
    unfold f_X2_tally_3b
    rw [if_pos (by decide), hr]
  | succ k ih =>
    intro N i o hi hN
    obtain ⟨N, rfl⟩ : ∃ N1, N = N1 + 1 := ⟨N - 1, by omega⟩
    have h' : Sh (fil m 202 0 i d0) := h
    have hin : vp_in (nI i) 20 := vp_in_nI (by omega) (by omega)
    show f_X2_tally_3b (f_X2_tally_3 N) 201 2 x y (nI i) _ o = _
    unfold f_X2_tally_3b f_X2_tally_18
    rw [if_neg (show ¬ (20 : Int32) ≤ nI (i) from nI_ge (a := i) (b := 20) (by omega) (by omega))]
    have hs := fil_1 m 202 0 i d0
    rw [Nat.zero_add, show d0 i = 0 from rfl] at hs
    simp (config := {decide := true}) only [ix_nI (show i < 2 ^ 31 by omega), shT_201 h', shR_201_0 h', shT_202 h', shN_202 h', hin, ne_eq, not_false_eq_true, and_self, and_true, true_and, and_false, false_and, true_or, or_true, false_or, or_false, not_true_eq_false, if_false, if_true, hs, nI_1, ih N (i + 1) _ (show i + 1 + k = 20 by omega) (show k < N by omega)]
theorem e_tally {m : Mm} (h : Sh m) {w : Nat} (x y : Int32) (hw : w ≤ 16) (h7 : gI m 2 7 = nI w) (hL : ∀ e, e < w → okL (gI m (33 + 2 * e) 4)) (o : Prop) : F_X2_tally 201 2 x y m o = ((), fil m 202 0 20 (tlC m x y w), o) := by
  have h1 := l_tally0 h x y _ (fun _ _ => rfl) 20 1000 0 o (by omega) (by omega)
  have h2 := l_tally h x y hw h7 hL w 1000 0 o (by omega) (by omega)
  have e0 : fil m 202 0 20 (tlC m x y 0) = fil m 202 0 20 d0 := fil_congr _ _ _ _ (fun i _ => rfl)
  rw [e0, nI_0] at h2
  rw [fil_0, nI_0, h2] at h1
  exact h1
/-- who has most of f, from i on, of k -/
def hdF (f : Nat → Int32) : Int32 → Int32 → Nat → Nat → Int32
  | b, _, _, 0 => b
  | b, t, i, k + 1 => if t < f i then hdF f (nI i) (f i) (i + 1) k else hdF f b t (i + 1) k
theorem hdF_congr {f g : Nat → Int32} : ∀ (k i : Nat) (b t : Int32), (∀ e, i ≤ e → e < i + k → f e = g e) → hdF f b t i k = hdF g b t i k
  | 0, _, _, _, _ => rfl
  | k + 1, i, b, t, h => by
    unfold hdF
    rw [h i (by omega) (by omega), hdF_congr k (i + 1) _ _ (fun e h1 h2 => h e (by omega) (by omega)), hdF_congr k (i + 1) _ _ (fun e h1 h2 => h e (by omega) (by omega))]
theorem l_holder {m : Mm} (h : Sh m) {q : Nat} (hq : q < 4) : ∀ (k N i : Nat) (b t : Int32) (o : Prop), i + k = 5 → k < N → f_X2_holder_8 N 201 (nI q) b t (nI i) m o = (hdF (fun k => gI m 202 (5 * q + k)) b t i k, m, o) := by
  intro k
  induction k with
  | zero =>
    intro N i b t o hi hN
    obtain ⟨N, rfl⟩ : ∃ N1, N = N1 + 1 := ⟨N - 1, by omega⟩
    show f_X2_holder_8b (f_X2_holder_8 N) 201 (nI q) b t (nI i) m o = _
    obtain rfl : i = 5 := by omega
    unfold f_X2_holder_8b
    rw [if_pos (by decide)]
    rfl
  | succ k ih =>
    intro N i b t o hi hN
    obtain ⟨N, rfl⟩ : ∃ N1, N = N1 + 1 := ⟨N - 1, by omega⟩
    have e5 : nI q * 5 + nI i = nI (5 * q + i) := by rw [show (5 : Int32) = nI 5 from rfl, pk_mul, nI_add, Nat.mul_comm]
    have hin : vp_in (nI (5 * q + i)) 20 := vp_in_nI (by omega) (by omega)
    have hlt : ∀ x y : Int32, (x ≤ y) = ¬ (y < x) := fun x y => propext (i32_nlt y x).symm
    show f_X2_holder_8b (f_X2_holder_8 N) 201 (nI q) b t (nI i) m o = _
    unfold f_X2_holder_8b f_X2_holder_44
    rw [if_neg (show ¬ (5 : Int32) ≤ nI (i) from nI_ge (a := i) (b := 5) (by omega) (by omega))]
    simp (config := {decide := true}) only [e5, hlt, hin, ix_nI (show 5 * q + i < 2 ^ 31 by omega), shT_201 h, shR_201_0 h, shT_202 h, shN_202 h, nI_1, ih N (i + 1) _ _ _ (show i + 1 + k = 5 by omega) (show k < N by omega), hdF, ne_eq, not_false_eq_true, and_self, and_true, true_and, and_false, false_and, true_or, or_true, false_or, or_false, not_true_eq_false, if_false, if_true]
    rcases Classical.propComplete (t < gI m 202 (5 * q + i)) with q1 | q1 <;> simp (config := {decide := true}) only [q1, ne_eq, not_false_eq_true, and_self, and_true, true_and, and_false, false_and, true_or, or_true, false_or, or_false, not_true_eq_false, if_false, if_true]
theorem e_holder {m : Mm} (h : Sh m) {q : Nat} (hq : q < 4) (o : Prop) : F_X2_holder 201 (nI q) m o = (hdF (fun k => gI m 202 (5 * q + k)) (-2) 0 0 5, m, o) := l_holder h hq 5 1000 0 (-2) 0 o (by omega) (by omega)
/-- who has the seat -/
def stF (m : Mm) (w : Nat) (x y : Int32) (q : Nat) : Int32 := hdF (fun k => tlC m x y w (5 * q + k)) (-2) 0 0 5
theorem e_holder2 {m : Mm} (h : Sh m) {q : Nat} (hq : q < 4) (w : Nat) (x y : Int32) (o : Prop) : F_X2_holder 201 (nI q) (fil m 202 0 20 (tlC m x y w)) o = (stF m w x y q, fil m 202 0 20 (tlC m x y w), o) := by
  have h' : Sh (fil m 202 0 20 (tlC m x y w)) := h
  rw [e_holder h' hq]
  congr 1
  refine hdF_congr 5 0 _ _ (fun k _ hk => ?_)
  rw [gI_fil, if_pos ⟨rfl, by omega, by omega⟩, Nat.sub_zero]
/-! the other side -/
theorem l_seatM3 {m : Mm} (h : Sh m) : ∀ (k N i : Nat) (b t : Int32) (o : Prop), i + k = 5 → k < N → f_X12_seatOf_130 N 225 b t (nI i) m o = (hdF (fun k => gI m 275 k) b t i k, m, o) := by
  intro k
  induction k with
  | zero =>
    intro N i b t o hi hN
    obtain ⟨N, rfl⟩ : ∃ N1, N = N1 + 1 := ⟨N - 1, by omega⟩
    show f_X12_seatOf_130b (f_X12_seatOf_130 N) 225 b t (nI i) m o = _
    obtain rfl : i = 5 := by omega
    unfold f_X12_seatOf_130b
    rw [if_pos (by decide)]
    rfl
  | succ k ih =>
    intro N i b t o hi hN
    obtain ⟨N, rfl⟩ : ∃ N1, N = N1 + 1 := ⟨N - 1, by omega⟩
    have hin : vp_in (nI i) 5 := vp_in_nI (by omega) (by omega)
    show f_X12_seatOf_130b (f_X12_seatOf_130 N) 225 b t (nI i) m o = _
    unfold f_X12_seatOf_130b f_X12_seatOf_164
    rw [if_neg (show ¬ (5 : Int32) ≤ nI (i) from nI_ge (a := i) (b := 5) (by omega) (by omega))]
    simp (config := {decide := true}) only [hin, ix_nI (show i < 2 ^ 31 by omega), shT_225 h, shR_225_71 h, shT_275 h, shN_275 h, nI_1, ih N (i + 1) _ _ _ (show i + 1 + k = 5 by omega) (show k < N by omega), hdF, ite3, ne_eq, not_false_eq_true, and_self, and_true, true_and, and_false, false_and, true_or, or_true, false_or, or_false, not_true_eq_false, if_false, if_true]
theorem l_seatM1 {m : Mm} (h : Sh m) (q x y : Int32) (r : Mm → Prop → Int32 × Mm × Prop) (hr : ∀ m' o, f_X12_seatOf_26 1000 225 q x y 0 m' o = r m' o) : ∀ (k N i : Nat) (o : Prop), i + k = 5 → k < N → f_X12_seatOf_3 N 225 q x y (nI i) (fil m 275 0 i d0) o = r (fil m 275 0 5 d0) o := by
  intro k
  induction k with
  | zero =>
    intro N i o hi hN
    obtain ⟨N, rfl⟩ : ∃ N1, N = N1 + 1 := ⟨N - 1, by omega⟩
    show f_X12_seatOf_3b (f_X12_seatOf_3 N) 225 q x y (nI i) _ o = _
    obtain rfl : i = 5 := by omega
    unfold f_X12_seatOf_3b
    rw [if_pos (by decide), hr]
  | succ k ih =>
    intro N i o hi hN
    obtain ⟨N, rfl⟩ : ∃ N1, N = N1 + 1 := ⟨N - 1, by omega⟩
    have h' : Sh (fil m 275 0 i d0) := h
    have hin : vp_in (nI i) 5 := vp_in_nI (by omega) (by omega)
    show f_X12_seatOf_3b (f_X12_seatOf_3 N) 225 q x y (nI i) _ o = _
    unfold f_X12_seatOf_3b f_X12_seatOf_17
    rw [if_neg (show ¬ (5 : Int32) ≤ nI (i) from nI_ge (a := i) (b := 5) (by omega) (by omega))]
    have hs := fil_1 m 275 0 i d0
    rw [Nat.zero_add, show d0 i = 0 from rfl] at hs
    simp (config := {decide := true}) only [ix_nI (show i < 2 ^ 31 by omega), shT_225 h', shR_225_71 h', shT_275 h', shN_275 h', hin, ne_eq, not_false_eq_true, and_self, and_true, true_and, and_false, false_and, true_or, or_true, false_or, or_false, not_true_eq_false, if_false, if_true, hs, nI_1, ih N (i + 1) _ (show i + 1 + k = 5 by omega) (show k < N by omega)]
/-- a square's two numbers -/
theorem sq_div {x y : Nat} (hx : x ≤ 9) (hy : y ≤ 9) : (10 * nI y + nI x) / 10 = nI y := by
  rw [(show (10 : Int32) * nI (y) = nI (10 * y) by rw [show (10 : Int32) = nI 10 from rfl, pk_mul]), nI_add, show (10 : Int32) = nI 10 from rfl, pk_div (by omega) (by omega) (by omega)]
  congr 1
  omega
theorem sq_rem {x y : Nat} (hx : x ≤ 9) (hy : y ≤ 9) : irm (10 * nI y + nI x) 10 = nI x := by
  show (10 * nI y + nI x) - (10 * nI y + nI x) / 10 * 10 = nI x
  rw [(show (10 : Int32) * nI (y) = nI (10 * y) by rw [show (10 : Int32) = nI 10 from rfl, pk_mul]), nI_add, show (10 : Int32) = nI 10 from rfl, pk_rem (by omega) (by omega) (by omega)]
  congr 1
  omega
theorem l_seatM2 {m m0 : Mm} (h : Sh m) {w q : Nat} (x y : Int32) (hq : q < 4) (hw : w ≤ 16) (h3 : gI m 225 3 = nI w) (hC : ∀ e, e < w → okL (gI m0 (33 + 2 * e) 4) ∧ gI m 237 e = gI m0 (33 + 2 * e) 4 ∧ gI m 235 e = gI m0 (33 + 2 * e) 2 ∧ gI m 234 e / 10 = gI m0 (33 + 2 * e) 1 ∧ irm (gI m 234 e) 10 = gI m0 (33 + 2 * e) 0) : ∀ (k N c : Nat) (o : Prop), c + k = w → k < N → f_X12_seatOf_26 N 225 (nI q) x y (nI c) (fil m 275 0 5 (fun j => tlC m0 x y c (5 * q + j))) o = (stF m0 w x y q, fil m 275 0 5 (fun j => tlC m0 x y w (5 * q + j)), o) := by
  intro k
  induction k with
  | zero =>
    intro N c o hc hN
    obtain ⟨N, rfl⟩ : ∃ N1, N = N1 + 1 := ⟨N - 1, by omega⟩
    show f_X12_seatOf_26b (f_X12_seatOf_26 N) 225 (nI q) x y (nI c) _ o = _
    obtain rfl : c = w := by omega
    have h' : Sh (fil m 275 0 5 (fun j => tlC m0 x y c (5 * q + j))) := h
    have h3' : gI (fil m 275 0 5 (fun j => tlC m0 x y c (5 * q + j))) 225 3 = nI c := by rw [gI_fil, if_neg (by omega)]; exact h3
    have hle : nI c ≤ nI c := nI_le (by omega) (by omega)
    have hl := l_seatM3 h' 5 1000 0 (-2) 0 o (by omega) (by omega)
    rw [nI_0] at hl
    simp (config := {decide := true}) only [f_X12_seatOf_26b, h3', shT_225 h', hle, hl, ne_eq, not_false_eq_true, and_self, and_true, true_and, and_false, false_and, true_or, or_true, false_or, or_false, not_true_eq_false, if_false, if_true]
    congr 1
  | succ k ih =>
    intro N c o hc hN
    obtain ⟨N, rfl⟩ : ∃ N1, N = N1 + 1 := ⟨N - 1, by omega⟩
    have h' : Sh (fil m 275 0 5 (fun j => tlC m0 x y c (5 * q + j))) := h
    have h3' : gI (fil m 275 0 5 (fun j => tlC m0 x y c (5 * q + j))) 225 3 = nI w := by rw [gI_fil, if_neg (by omega)]; exact h3
    have hle : ¬ nI w ≤ nI c := nI_ge (by omega) (by omega)
    have hin : vp_in (nI c) 16 := vp_in_nI (by omega) (by omega)
    have hg : ∀ z i, z < 275 → gI (fil m 275 0 5 (fun j => tlC m0 x y c (5 * q + j))) z i = gI m z i := fun z i hz => by rw [gI_fil, if_neg (by omega)]
    obtain ⟨c1, c2, c3, c4, c5⟩ := hC c (by omega)
    have hq4 := qrt_4 x y (gI m0 (33 + 2 * c))
    show f_X12_seatOf_26b (f_X12_seatOf_26 N) 225 (nI q) x y (nI c) _ o = _
    have c5' : (gI m 234 c) - (gI m 234 c) / 10 * 10 = gI m0 (33 + 2 * c) 0 := c5
    rw [c4] at c5'
    have d10 : ((10 : Int32) = 0) = False := by decide
    have hqq : ∀ (K : Nat → Int32 → Int32 → Int32 → Int32 → Mm → Prop → Int32 × Mm × Prop) o, f_X12_seatOf_26b K 225 (nI q) x y (nI c) (fil m 275 0 5 (fun j => tlC m0 x y c (5 * q + j))) o = f_X12_seatOf_73 K 225 (nI q) x y (nI c) 0 (nI (qrt x y (gI m0 (33 + 2 * c)))) (fil m 275 0 5 (fun j => tlC m0 x y c (5 * q + j))) o := fun K o => by
      simp (config := {decide := true}) only [f_X12_seatOf_26b, f_X12_seatOf_54, h3', hle, hg 234 _ (by omega), irm, c4, c5', d10, shT_225 h', shR_225_15 h', shT_234 h', shN_234 h', hin, ix_nI (show c < 2 ^ 31 by omega), qrt, ne_eq, not_false_eq_true, and_self, and_true, true_and, and_false, false_and, true_or, or_true, false_or, or_false, not_true_eq_false, if_false, if_true]
      rcases Classical.propComplete (y ≤ gI m0 (33 + 2 * c) 1) with q1 | q1 <;> rcases Classical.propComplete (x ≤ gI m0 (33 + 2 * c) 0) with q2 | q2 <;> simp (config := {decide := true}) only [q1, q2, f_X12_seatOf_73, ne_eq, not_false_eq_true, and_self, and_true, true_and, and_false, false_and, true_or, or_true, false_or, or_false, not_true_eq_false, if_false, if_true] <;> rfl
    rw [hqq]
    unfold f_X12_seatOf_73 f_X12_seatOf_114
    rw [show nI (qrt x y (gI m0 (33 + 2 * c))) + 0 = nI (qrt x y (gI m0 (33 + 2 * c))) from Int32.add_zero _]
    have same : (¬ qrt x y (gI m0 (33 + 2 * c)) = q ∨ gI m0 (33 + 2 * c) 4 = -2) → fil m 275 0 5 (fun j => tlC m0 x y c (5 * q + j)) = fil m 275 0 5 (fun j => tlC m0 x y (c + 1) (5 * q + j)) := fun hh => fil_congr _ _ _ _ (fun i hi => by
      show _ = (if gI m0 (33 + 2 * c) 4 = -2 then _ else if 5 * q + i = 5 * qrt x y (gI m0 (33 + 2 * c)) + ix (gI m0 (33 + 2 * c) 4) then _ else _)
      by_cases z : gI m0 (33 + 2 * c) 4 = -2
      · rw [if_pos z]; rfl
      · rw [if_neg z]
        rcases c1 with z' | ⟨j, hj, e⟩
        · exact absurd z' z
        · have hh := hh.resolve_right z
          rw [e, ix_nI (by omega), if_neg (by omega)]
          rfl)
    by_cases qq : qrt x y (gI m0 (33 + 2 * c)) = q
    · rw [if_pos (by rw [qq])]
      rcases c1 with e | ⟨j, hj, e⟩
      · have hneg : gI (fil m 275 0 5 (fun j => tlC m0 x y c (5 * q + j))) (gR (fil m 275 0 5 (fun j => tlC m0 x y c (5 * q + j))) 225 18) (ix (nI c)) < 0 := by
          rw [shR_225_18 h', hg 237 _ (by omega), ix_nI (by omega), c2, e]
          decide
        rw [if_pos hneg]
        simp (config := {decide := true}) only [shT_225 h', shR_225_18 h', shT_237 h', shN_237 h', hin, nI_1, ne_eq, not_false_eq_true, and_self, and_true, true_and, and_false, false_and, true_or, or_true, false_or, or_false, not_true_eq_false, if_false, if_true]
        rw [same (.inr e), ih N (c + 1) o (by omega) (by omega)]
      · have hneg : ¬ gI (fil m 275 0 5 (fun j => tlC m0 x y c (5 * q + j))) (gR (fil m 275 0 5 (fun j => tlC m0 x y c (5 * q + j))) 225 18) (ix (nI c)) < 0 := by
          rw [shR_225_18 h', hg 237 _ (by omega), ix_nI (by omega), c2, e]
          exact nI_pos (by omega)
        have hne : ¬ gI m0 (33 + 2 * c) 4 = -2 := by
          rw [e]
          intro z
          exact absurd (z ▸ nI_pos' (n := j) (by omega)) (by decide)
        have hin2 : vp_in (nI j) 5 := vp_in_nI (by omega) (by omega)
        have hrd : gI (fil m 275 0 5 (fun j => tlC m0 x y c (5 * q + j))) 275 j = tlC m0 x y c (5 * q + j) := by
          rw [gI_fil, if_pos ⟨rfl, by omega, by omega⟩, Nat.sub_zero]
        have ec : sI (fil m 275 0 5 (fun j => tlC m0 x y c (5 * q + j))) 275 j (tlC m0 x y c (5 * q + j) + gI m0 (33 + 2 * c) 2) = fil m 275 0 5 (fun j => tlC m0 x y (c + 1) (5 * q + j)) := by
          have := fil_set m 275 0 5 (fun j => tlC m0 x y c (5 * q + j)) (j := j) (by omega) (tlC m0 x y c (5 * q + j) + gI m0 (33 + 2 * c) 2)
          rw [Nat.zero_add] at this
          rw [this]
          refine fil_congr _ _ _ _ (fun i _ => ?_)
          show _ = (if gI m0 (33 + 2 * c) 4 = -2 then _ else if 5 * q + i = 5 * qrt x y (gI m0 (33 + 2 * c)) + ix (gI m0 (33 + 2 * c) 4) then _ else _)
          rw [if_neg hne, e, ix_nI (by omega)]
          by_cases qi : i = j
          · rw [if_pos qi, if_pos (by omega), qi]; rfl
          · rw [if_neg qi, if_neg (by omega)]; rfl
        rw [if_neg hneg]
        simp (config := {decide := true}) only [shT_225 h', shR_225_16 h', shR_225_18 h', shR_225_71 h', shT_235 h', shN_235 h', shT_237 h', shN_237 h', shT_275 h', shN_275 h', hg 237 _ (show 237 < 275 by omega), hg 235 _ (show 235 < 275 by omega), ix_nI (show c < 2 ^ 31 by omega), c2, c3, e, hin, hin2, ix_nI (show j < 2 ^ 31 by omega), hrd, ec, nI_1, ne_eq, not_false_eq_true, and_self, and_true, true_and, and_false, false_and, true_or, or_true, false_or, or_false, not_true_eq_false, if_false, if_true]
        rw [ih N (c + 1) o (by omega) (by omega)]
    · rw [if_neg (fun z => qq ((nI_eq (by omega) (by omega)).mp z)), nI_1, same (.inl qq), ih N (c + 1) o (by omega) (by omega)]
theorem e_seatOf {m m0 : Mm} (h : Sh m) {w q : Nat} (x y : Int32) (hq : q < 4) (hw : w ≤ 16) (h3 : gI m 225 3 = nI w) (hC : ∀ e, e < w → okL (gI m0 (33 + 2 * e) 4) ∧ gI m 237 e = gI m0 (33 + 2 * e) 4 ∧ gI m 235 e = gI m0 (33 + 2 * e) 2 ∧ gI m 234 e / 10 = gI m0 (33 + 2 * e) 1 ∧ irm (gI m 234 e) 10 = gI m0 (33 + 2 * e) 0) (o : Prop) : F_X12_seatOf 225 (nI q) x y m o = (stF m0 w x y q, fil m 275 0 5 (fun j => tlC m0 x y w (5 * q + j)), o) := by
  have h1 := l_seatM1 h (nI q) x y _ (fun _ _ => rfl) 5 1000 0 o (by omega) (by omega)
  have h2 := l_seatM2 h x y hq hw h3 hC w 1000 0 o (by omega) (by omega)
  have e0 : fil m 275 0 5 (fun j => tlC m0 x y 0 (5 * q + j)) = fil m 275 0 5 d0 := fil_congr _ _ _ _ (fun i _ => rfl)
  rw [e0, nI_0] at h2
  rw [fil_0, nI_0, h2] at h1
  exact h1
/-- what both sides say of the cows -/
theorem cows_of {m : Mm} {n w : Nat} (hb : RMb m 2 227 0 n w) : ∀ e, e < w → okL (gI m (33 + 2 * e) 4) ∧ gI m 237 e = gI m (33 + 2 * e) 4 ∧ gI m 235 e = gI m (33 + 2 * e) 2 ∧ gI m 234 e / 10 = gI m (33 + 2 * e) 1 ∧ irm (gI m 234 e) 10 = gI m (33 + 2 * e) 0 := fun e he => by
  obtain ⟨⟨⟨x, hx, a1⟩, ⟨y, hy, a2⟩, -, -, a5, -⟩, b1, b2, -, b4, -⟩ := hb.2.2.1 e he
  rw [Nat.mul_zero, Nat.zero_add] at b1 b2 b4
  have i1 : 2 + 31 + 2 * e = 33 + 2 * e := by omega
  rw [i1] at a1 a2 a5 b1 b2 b4
  have b1 : gI m 234 e = 10 * gI m (33 + 2 * e) 1 + gI m (33 + 2 * e) 0 := b1
  exact ⟨a5, b4, b2, by rw [b1, a1, a2]; exact sq_div hx hy, by rw [b1, a1, a2]; exact sq_rem hx hy⟩
theorem p_seat : Pr_seat Rel := fun a => PrI_ex (fun m hR => by
  have h := hR.1
  obtain ⟨n, w, ⟨⟨hn, hw⟩, -, ⟨h7, h3⟩, -⟩, hb⟩ := hR.2.2.1
  have h3 : gI m 225 3 = nI w := h3
  have hC := cows_of hb
  have hl := e_lies a 0 3
  rw [show Int32.toInt64 0 = 0 by decide, show Int32.toInt64 3 = 3 by decide] at hl
  by_cases qa : 0 ≤ a ∧ a ≤ 3
  · have ra : (0 ≤ a ∧ a ≤ 3) = True := eq_true qa
    obtain ⟨q, hq, rfl⟩ := rng_in (N := 3) (by decide) qa
    refine ⟨stF m w 5 5 q, fil m 202 0 20 (tlC m 5 5 w), fil (fil m 202 0 20 (tlC m 5 5 w)) 275 0 5 (fun j => tlC m 5 5 w (5 * q + j)), fun o => ?_, h, fun o => ?_, Rel_same hR h ⟨rfl, rfl⟩ (fun x i hx => ?_)⟩
    · have s2 : Sh (fil m 202 0 20 (tlC m 5 5 w)) := h
      simp (config := {decide := true}) only [f_X11_seat_32, f_X11_seat_24, f_X11_seat_6, f_X11_seat_0, F_X11_seat, bnd, e_isWithin, ra, bI_0, shT_1 h, shR_1_0 h, shR_1_7 h, shT_2 h, shT_201 h, shT_1 s2, shR_1_0 s2, shR_1_7 s2, shT_2 s2, shT_201 s2, e_tally h 5 5 hw h7 (fun e he => (hC e he).1), e_holder2 h (show q < 4 by omega), ne_eq, not_false_eq_true, and_self, and_true, true_and, and_false, false_and, true_or, or_true, false_or, or_false, not_true_eq_false, if_false, if_true]
    · have hC' : ∀ e, e < w → okL (gI m (33 + 2 * e) 4) ∧ gI (fil m 202 0 20 (tlC m 5 5 w)) 237 e = gI m (33 + 2 * e) 4 ∧ gI (fil m 202 0 20 (tlC m 5 5 w)) 235 e = gI m (33 + 2 * e) 2 ∧ gI (fil m 202 0 20 (tlC m 5 5 w)) 234 e / 10 = gI m (33 + 2 * e) 1 ∧ irm (gI (fil m 202 0 20 (tlC m 5 5 w)) 234 e) 10 = gI m (33 + 2 * e) 0 := fun e he => by
        have g : ∀ z, 225 ≤ z → gI (fil m 202 0 20 (tlC m 5 5 w)) z e = gI m z e := fun z hz => by rw [gI_fil, if_neg (by omega)]
        rw [g 237 (by omega), g 235 (by omega), g 234 (by omega)]
        exact hC e he
      have s2 : Sh (fil m 202 0 20 (tlC m 5 5 w)) := h
      simp (config := {decide := true}) only [f_X12_seat_23, f_X12_seat_19, f_X12_seat_9, f_X12_seat_0, F_X12_seat, bnd, hl, ra, bI_0, shT_225 s2, e_seatOf s2 5 5 (show q < 4 by omega) hw (by rw [gI_fil, if_neg (by omega)]; exact h3) hC', ne_eq, not_false_eq_true, and_self, and_true, true_and, and_false, false_and, true_or, or_true, false_or, or_false, not_true_eq_false, if_false, if_true]
    · have : x ≠ 202 ∧ x ≠ 275 := by unfold inAny inNow inKept inTape inLaw at hx; omega
      rw [gI_fil, if_neg (fun z => this.2 z.1), gI_fil, if_neg (fun z => this.1 z.1)]
  · have ra : (0 ≤ a ∧ a ≤ 3) = False := eq_false qa
    refine ⟨-1, m, m, fun o => ?_, h, fun o => ?_, hR⟩
    · simp (config := {decide := true}) only [f_X11_seat_32, f_X11_seat_24, f_X11_seat_6, f_X11_seat_0, F_X11_seat, bnd, e_isWithin, ra, bI_0, ne_eq, not_false_eq_true, and_self, and_true, true_and, and_false, false_and, true_or, or_true, false_or, or_false, not_true_eq_false, if_false, if_true]
    · simp (config := {decide := true}) only [f_X12_seat_23, f_X12_seat_19, f_X12_seat_9, f_X12_seat_0, F_X12_seat, bnd, hl, ra, bI_0, ne_eq, not_false_eq_true, and_self, and_true, true_and, and_false, false_and, true_or, or_true, false_or, or_false, not_true_eq_false, if_false, if_true])
