/-! ===== clover spread on stacks ===== -/
def clG (a : Nat → Nat → Int32) (s : Nat) (v : Int32) : Nat → Nat → Int32 := up a (7 + 2 * s) 4 (mn99 (a (7 + 2 * s) 4 + v))
theorem mn99_nI {x : Nat} (h : x < 2 ^ 31) : mn99 (nI x) = nI (if x < 99 then x else 99) := by
  unfold mn99
  have : (nI x < (99 : Int32)) = (x < 99) := propext (nI_ltI (a := x) (b := 99) h (by omega))
  simp only [this]
  by_cases q : x < 99
  · rw [if_pos q, if_pos q]
  · rw [if_neg q, if_neg q]; rfl
theorem WfA_cl {a : Nat → Nat → Int32} {n c s v : Nat} (hW : WfA a n c) (hs : s < n) (hv : v ≤ 3) : WfA (clG a s (nI v)) n c := by
  have hn := hW.1.1.1
  obtain ⟨w0, w7, w8, w9, w10⟩ := hW
  have u : ∀ x y, ¬ (x = 7 + 2 * s ∧ y = 4) → clG a s (nI v) x y = a x y := fun x y h => up_ne _ _ h
  have u' : ∀ x, x ≠ 7 + 2 * s → clG a s (nI v) x = a x := fun x h => funext (fun y => u x y (fun z => h z.1))
  refine ⟨by rw [u' 0 (by omega)]; exact w0, fun t ht => ?_, ?_, fun i hi => ?_, fun t ht i h1 h2 => by rw [u' _ (by omega)]; exact w10 t ht i h1 h2⟩
  · by_cases q : t = s
    · subst q
      obtain ⟨b0, b1, b2, b3, ⟨x, hx, b4⟩, b5, b6, b7⟩ := w7 t ht
      unfold wS
      rw [u _ 0 (by omega), u _ 1 (by omega), u _ 2 (by omega), u _ 3 (by omega), u _ 5 (by omega), u _ 6 (by omega), u _ 7 (by omega)]
      refine ⟨b0, b1, b2, b3, ⟨if x + v < 99 then x + v else 99, ?_, ?_⟩, b5, b6, b7⟩
      · by_cases q : x + v < 99
        · rw [if_pos q]; omega
        · rw [if_neg q]; omega
      · show up a (7 + 2 * t) 4 _ (7 + 2 * t) 4 = _
        rw [up_same, b4, nI_add, mn99_nI (by omega)]
    · rw [u' _ (by omega)]; exact w7 t ht
  · rw [hsum_congr (g := fun s => a (7 + 2 * s) 3) (fun t ht => u _ _ (by omega))]
    exact w8
  · rw [u' _ (by omega), u' _ (by omega)]; exact w9 i hi
theorem sta_cl (a : Nat → Nat → Int32) (n c s : Nat) (hs : s < 12) (v : Int32) : sta a (clG a s v) n c := by
  have u : ∀ x y, ¬ (x = 7 + 2 * s ∧ y = 4) → clG a s v x y = a x y := fun x y h => up_ne _ _ h
  exact ⟨fun t ht => ⟨u _ _ (by omega), u _ _ (by omega), u _ _ (by omega), u _ _ (by omega)⟩, fun e he => ⟨fun f hf => u _ _ (by omega), fun j hj => u _ _ (by omega)⟩⟩
theorem ag_cl {a b : Nat → Nat → Int32} {n c s : Nat} (hn : n ≤ 12) (h : ag a b n c) (hs : s < n) (v : Int32) : ag (clG a s v) (clG b s v) n c := by
  have u : ∀ (a : Nat → Nat → Int32) x y, ¬ (x = 7 + 2 * s ∧ y = 4) → clG a s v x y = a x y := fun a x y h => up_ne _ _ h
  obtain ⟨h1, h2, h3, h4⟩ := h
  refine ⟨fun i z1 z2 => by rw [u b _ _ (by omega), u a _ _ (by omega)]; exact h1 i z1 z2, fun t ht => ⟨fun f hf => ?_, fun i hi => by rw [u b _ _ (by omega), u a _ _ (by omega)]; exact (h2 t ht).2 i hi⟩, fun e he => ⟨fun f hf => by rw [u b _ _ (by omega), u a _ _ (by omega)]; exact (h3 e he).1 f hf, fun i hi => by rw [u b _ _ (by omega), u a _ _ (by omega)]; exact (h3 e he).2 i hi⟩, fun k hk => by rw [u b _ _ (by omega), u a _ _ (by omega)]; exact h4 k hk⟩
  by_cases q : t = s ∧ f = 4
  · obtain ⟨rfl, rfl⟩ := q
    unfold clG
    rw [up_same, up_same, (h2 t ht).1 4 (by omega)]
  · rw [u b _ _ (by omega), u a _ _ (by omega)]; exact (h2 t ht).1 f hf
theorem MM_cl {m : Mm} {a : Nat → Nat → Int32} {n c : Nat} {d : Nat → Int32} (hE : MM m a n c d) (hn : n ≤ 12) {s : Nat} (hs : s < n) (v : Int32) : MM (sI m 230 s (mn99 (a (7 + 2 * s) 4 + v))) (clG a s v) n c d := by
  obtain ⟨⟨e1, e2, e3, e4⟩, e5⟩ := hE
  have u : ∀ x y, ¬ (x = 7 + 2 * s ∧ y = 4) → clG a s v x y = a x y := fun x y h => up_ne _ _ h
  have u' : ∀ x, x ≠ 7 + 2 * s → clG a s v x = a x := fun x h => funext (fun y => u x y (fun z => h z.1))
  have g : ∀ q i, ¬ (q = 230 ∧ i = s) → gI (sI m 230 s (mn99 (a (7 + 2 * s) 4 + v))) q i = gI m q i := fun q i h => by rw [gI_sI, if_neg h]
  refine ⟨⟨fun t ht => ?_, fun i hi => ?_, fun j hj => ?_, fun t ht i hi => ?_⟩, ?_⟩
  · obtain ⟨b0, b1, b2, b3, b4, b5, b6⟩ := e1 t ht
    rw [Nat.mul_zero, Nat.zero_add] at b0 b1 b2 b3 b4 b5 b6 ⊢
    refine ⟨?_, ?_, ?_, ?_, ?_, ?_, ?_⟩
    · rw [u _ _ (by omega), u _ _ (by omega)]; exact (g 227 t (by omega)).trans b0
    · rw [u _ _ (by omega)]; exact (g 228 t (by omega)).trans b1
    · rw [u _ _ (by omega)]; exact (g 229 t (by omega)).trans b2
    · by_cases q : t = s
      · subst q
        show gI (sI m 230 t _) 230 t = up a (7 + 2 * t) 4 _ (7 + 2 * t) 4
        rw [up_same, gI_sI, if_pos ⟨rfl, rfl⟩]
      · rw [u _ _ (by omega)]; exact (g 230 t (by omega)).trans b3
    · rw [u _ _ (by omega)]; exact (g 231 t (by omega)).trans b4
    · rw [u _ _ (by omega)]; exact (g 232 t (by omega)).trans b5
    · rw [u _ _ (by omega)]; exact (g 233 t (by omega)).trans b6
  · obtain ⟨b0, b1, b2, b3, b4⟩ := e2 i hi
    rw [u' _ (by omega), u' _ (by omega)]
    exact ⟨(g 234 _ (by omega)).trans b0, (g 235 _ (by omega)).trans b1, (g 236 _ (by omega)).trans b2, (g 237 _ (by omega)).trans b3, fun j hj => (g 238 _ (by omega)).trans (b4 j hj)⟩
  · rw [u _ _ (by omega)]; exact (g 239 _ (by omega)).trans (e3 j hj)
  · rw [u _ _ (by omega)]; exact (g 240 _ (by omega)).trans (e4 t ht i hi)
  · rw [u' 0 (by omega)]
    exact eN_cp (fun j hj => g 225 _ (by omega)) e5
/-- clover on p stacks, one after another -/
def spG (pl : Nat → Nat) (dg : Nat → Int32) : Nat → Nat → (Nat → Nat → Int32) → Nat → Nat → Int32
  | 0, _, a => a
  | k + 1, i, a => spG pl dg k (i + 1) (clG a (pl i) (dg i))
theorem WfA_sp {pl : Nat → Nat} {dg : Nat → Int32} {n c p : Nat} (hn : n ≤ 12) (hp : ∀ j, j < p → pl j < n) (hd : ∀ j, j < p → ∃ v, v ≤ 3 ∧ dg j = nI v) : ∀ (k i : Nat) (a : Nat → Nat → Int32), i + k = p → WfA a n c → WfA (spG pl dg k i a) n c ∧ sta a (spG pl dg k i a) n c
  | 0, _, a, _, hW => ⟨hW, sta_refl _ _ _⟩
  | k + 1, i, a, hi, hW => by
    obtain ⟨v, hv, e⟩ := hd i (by omega)
    have h1 := WfA_cl hW (hp i (by omega)) hv
    have h2 := WfA_sp hn hp hd k (i + 1) _ (by omega) h1
    unfold spG
    rw [e]
    have := hp i (by omega)
    exact ⟨h2.1, sta_trans (sta_cl a n c (pl i) (by omega) _) h2.2⟩
theorem ag_sp {pl : Nat → Nat} {dg : Nat → Int32} {n c p : Nat} (hn : n ≤ 12) (hp : ∀ j, j < p → pl j < n) : ∀ (k i : Nat) (a b : Nat → Nat → Int32), i + k = p → ag a b n c → ag (spG pl dg k i a) (spG pl dg k i b) n c
  | 0, _, _, _, _, h => h
  | k + 1, i, a, b, hi, h => ag_sp hn hp k (i + 1) _ _ (by omega) (ag_cl hn h (hp i (by omega)) _)
theorem l_spread {P : Nat} (hP : P = 2 ∨ P = 128) {pl : Nat → Nat} {dg : Nat → Int32} {n c p : Nat} (hn : n ≤ 12) (hp4 : p ≤ 4) (hpl : ∀ j, j < p → pl j < n) (hd : ∀ j, j < p → ∃ v, v ≤ 3 ∧ dg j = nI v) : ∀ (k N i : Nat) (a : Nat → Nat → Int32) (m : Mm), Sh m → Md m P a → WfA a n c → gI m 194 3 = nI p → (∀ j, j < p → gI m 195 j = nI (pl j) ∧ gI m 196 j = dg j) → i + k = p → k < N → ∃ m', (∀ o, f_X0_spreadOn_2 N 194 P (nI i) m o = ((), m', o)) ∧ Md m' P (spG pl dg k i a) ∧ Fr (fun q _ => inM P q) m m' := by
  have hmd : isMd P := by rcases hP with z | z; exact .inl z; exact .inr (.inr z)
  intro k
  induction k with
  | zero =>
    intro N i a m h hM hW h3 hx hi hN
    obtain ⟨N, rfl⟩ : ∃ N1, N = N1 + 1 := ⟨N - 1, by omega⟩
    obtain rfl : i = p := by omega
    refine ⟨m, fun o => ?_, hM, Fr_refl _ m⟩
    show f_X0_spreadOn_2b (f_X0_spreadOn_2 N) 194 P (nI i) m o = _
    unfold f_X0_spreadOn_2b
    simp (config := {decide := true}) only [shT_194 h, h3, Int32.le_refl, ne_eq, not_false_eq_true, and_self, and_true, true_and, and_false, false_and, true_or, or_true, false_or, or_false, not_true_eq_false, if_false, if_true]
  | succ k ih =>
    intro N i a m h hM hW h3 hx hi hN
    obtain ⟨N, rfl⟩ : ∃ N1, N = N1 + 1 := ⟨N - 1, by omega⟩
    have hs := hpl i (by omega)
    obtain ⟨v, hv, ev⟩ := hd i (by omega)
    obtain ⟨x1, x2⟩ := hx i (by omega)
    have hle : ¬ nI p ≤ nI i := nI_ge (by omega) (by omega)
    obtain ⟨u1, u2, -⟩ := md_stk h hmd (show pl i < 12 by omega)
    have hin : vp_in (nI i) 4 := vp_in_nI (by omega) (by omega)
    have hin2 : vp_in (nI (pl i)) 12 := vp_in_nI (by omega) (by omega)
    have n2 : ¬ P + 7 + 2 * pl i = 0 := by omega
    have g4 : gI m (P + 7 + 2 * pl i) 4 = a (7 + 2 * pl i) 4 := Md_at hM (by omega) (by omega) (by omega)
    have F1 : Fr (fun q _ => inM P q) m (sI m (P + 7 + 2 * pl i) 4 (mn99 (a (7 + 2 * pl i) 4 + dg i))) := Fr_sI (Fr_refl _ m) (by unfold inM; omega) _
    have M1 : Md (sI m (P + 7 + 2 * pl i) 4 (mn99 (a (7 + 2 * pl i) 4 + dg i))) P (clG a (pl i) (dg i)) := Md_up' hM 4 _ (by omega)
    have W1 : WfA (clG a (pl i) (dg i)) n c := by rw [ev]; exact WfA_cl hW hs hv
    obtain ⟨m2, b1, b2, b3⟩ := ih N (i + 1) _ _ (Fr_Sh F1 h) M1 W1 ((Fr_at F1 (by unfold inM; rcases hP with z | z <;> omega)).trans h3) (fun j hj => ⟨(Fr_at F1 (by unfold inM; rcases hP with z | z <;> omega)).trans (hx j hj).1, (Fr_at F1 (by unfold inM; rcases hP with z | z <;> omega)).trans (hx j hj).2⟩) (by omega) (by omega)
    refine ⟨m2, fun o => ?_, b2, Fr_trans F1 b3⟩
    show f_X0_spreadOn_2b (f_X0_spreadOn_2 N) 194 P (nI i) m o = _
    obtain ⟨t1, t2, t3, t4, -⟩ := md_top h hmd
    have nP : ¬ P = 0 := by rcases hP with z | z <;> omega
    have nP1 : ¬ P + 1 = 0 := by omega
    have ec : ∀ o, F_X7_addClover (P + 7 + 2 * pl i) (dg i) m o = ((), sI m (P + 7 + 2 * pl i) 4 (mn99 (a (7 + 2 * pl i) 4 + dg i)), o) := fun o => by
      simp (config := {decide := true}) only [f_X7_addClover_15, f_X7_addClover_0, F_X7_addClover, u2, g4, mn99, ne_eq, not_false_eq_true, and_self, and_true, true_and, and_false, false_and, true_or, or_true, false_or, or_false, not_true_eq_false, if_false, if_true]
    unfold f_X0_spreadOn_2b
    simp (config := {decide := true}) only [f_X0_spreadOn_30, bnd, shT_194 h, shR_194_0 h, shR_194_1 h, shT_195 h, shN_195 h, shT_196 h, shN_196 h, h3, hle, hin, hin2, ix_nI (show i < 2 ^ 31 by omega), ix_nI (show pl i < 2 ^ 31 by omega), x1, x2, t1, t2, t3, t4, u1, u2, n2, nP, nP1, ec, nI_1, ne_eq, not_false_eq_true, and_self, and_true, true_and, and_false, false_and, true_or, or_true, false_or, or_false, not_true_eq_false, if_false, if_true]
    exact b1 o
theorem mn99_le (x : Int32) : (if x ≤ 99 then x else 99) = mn99 x := by
  unfold mn99
  by_cases q : x < 99
  · rw [if_pos (fa_of_lt q).1, if_pos q]
  · rw [if_neg q]
    by_cases z : x ≤ 99
    · rw [if_pos z]
      rcases fa_three x 99 with y | y | y
      · exact absurd y q
      · exact y
      · exact absurd z (fa_of_lt y).2.1
    · rw [if_neg z]
def dgI (r : Int32) (p j : Nat) : Int32 := (r >>> (((2 : Int32) * ((nI p - 1) - nI j)) &&& 31)) &&& 3
theorem l_spreadM {pl : Nat → Nat} {r : Int32} {n c p : Nat} {d : Nat → Int32} (hn : n ≤ 12) (hp4 : p ≤ 4) (hpl : ∀ j, j < p → pl j < n) : ∀ (k N i : Nat) (a : Nat → Nat → Int32) (m : Mm), Sh m → MM m a n c d → gI m 225 69 = nI p → (∀ j, j < p → gI m 273 j = nI (pl j)) → i + k = p → k < N → ∃ m', (∀ o, f_X12_spreads_2 N 225 r (nI i) m o = ((), m', o)) ∧ MM m' (spG pl (dgI r p) k i a) n c d ∧ Fr (fun q _ => q = 230) m m' := by
  intro k
  induction k with
  | zero =>
    intro N i a m h hE h3 hx hi hN
    obtain ⟨N, rfl⟩ : ∃ N1, N = N1 + 1 := ⟨N - 1, by omega⟩
    obtain rfl : i = p := by omega
    refine ⟨m, fun o => ?_, hE, Fr_refl _ m⟩
    show f_X12_spreads_2b (f_X12_spreads_2 N) 225 r (nI i) m o = _
    unfold f_X12_spreads_2b
    simp (config := {decide := true}) only [shT_225 h, h3, Int32.le_refl, ne_eq, not_false_eq_true, and_self, and_true, true_and, and_false, false_and, true_or, or_true, false_or, or_false, not_true_eq_false, if_false, if_true]
  | succ k ih =>
    intro N i a m h hE h3 hx hi hN
    obtain ⟨N, rfl⟩ : ∃ N1, N = N1 + 1 := ⟨N - 1, by omega⟩
    have hs := hpl i (by omega)
    have x1 := hx i (by omega)
    have hle : ¬ nI p ≤ nI i := nI_ge (by omega) (by omega)
    have hin : vp_in (nI i) 4 := vp_in_nI (by omega) (by omega)
    have hin2 : vp_in (nI (pl i)) 12 := vp_in_nI (by omega) (by omega)
    have g4 : gI m 230 (pl i) = a (7 + 2 * pl i) 4 := (MM_at hE hs).2.2.2.1
    have F1 : Fr (fun q _ => q = 230) m (sI m 230 (pl i) (mn99 (a (7 + 2 * pl i) 4 + dgI r p i))) := Fr_sI (Fr_refl _ m) (by rfl) _
    have E1 := MM_cl hE hn hs (dgI r p i)
    obtain ⟨m2, b1, b2, b3⟩ := ih N (i + 1) _ _ (Fr_Sh F1 h) E1 ((Fr_at F1 (by omega)).trans h3) (fun j hj => (Fr_at F1 (by omega)).trans (hx j hj)) (by omega) (by omega)
    refine ⟨m2, fun o => ?_, b2, Fr_trans F1 b3⟩
    show f_X12_spreads_2b (f_X12_spreads_2 N) 225 r (nI i) m o = _
    have ed : ∀ m o, F_X12_digit r (nI p) (nI i) m o = (dgI r p i, m, o) := fun m o => rfl
    have s30 : ∀ (K : Nat → Int32 → Int32 → Mm → Prop → Unit × Mm × Prop) o, f_X12_spreads_30 K 225 r (nI i) (dgI r p i) (a (7 + 2 * pl i) 4) m o = K 225 r (nI (i + 1)) (sI m 230 (pl i) (mn99 (a (7 + 2 * pl i) 4 + dgI r p i))) o := fun K o => by
      rw [← mn99_le]
      unfold f_X12_spreads_30 f_X12_spreads_54 f_X12_spreads_55
      by_cases q : a (7 + 2 * pl i) 4 + dgI r p i ≤ 99
      · rw [if_pos q, if_pos q]
        simp (config := {decide := true}) only [shT_225 h, shR_225_11 h, shR_225_68 h, shT_230 h, shN_230 h, shT_273 h, shN_273 h, hin, hin2, ix_nI (show i < 2 ^ 31 by omega), ix_nI (show pl i < 2 ^ 31 by omega), x1, nI_1, ne_eq, not_false_eq_true, and_self, and_true, true_and, and_false, false_and, true_or, or_true, false_or, or_false, not_true_eq_false, if_false, if_true]
      · rw [if_neg q, if_neg q]
        simp (config := {decide := true}) only [shT_225 h, shR_225_11 h, shR_225_68 h, shT_230 h, shN_230 h, shT_273 h, shN_273 h, hin, hin2, ix_nI (show i < 2 ^ 31 by omega), ix_nI (show pl i < 2 ^ 31 by omega), x1, nI_1, ne_eq, not_false_eq_true, and_self, and_true, true_and, and_false, false_and, true_or, or_true, false_or, or_false, not_true_eq_false, if_false, if_true]
    unfold f_X12_spreads_2b
    simp (config := {decide := true}) only [bnd, shT_225 h, shR_225_11 h, shR_225_68 h, shT_230 h, shN_230 h, shT_273 h, shN_273 h, h3, hle, hin, hin2, ix_nI (show i < 2 ^ 31 by omega), ix_nI (show pl i < 2 ^ 31 by omega), x1, g4, ed, s30, ne_eq, not_false_eq_true, and_self, and_true, true_and, and_false, false_and, true_or, or_true, false_or, or_false, not_true_eq_false, if_false, if_true]
    exact b1 o
