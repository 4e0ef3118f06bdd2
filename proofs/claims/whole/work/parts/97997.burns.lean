/-! ===== burns, the other side's loops; the pair ===== -/
theorem l_b102 (K : Nat → Int32 → Int32 → Int32 → Int64 → Int32 → Mm → Prop → Int64 × Mm × Prop) (l2 l3 l4 : Int32) (l5 : Int64) (l7 : Int32) : ∀ (c N v : Nat) (m : Mm), Sh m → v + c = 501 → c < N → (∀ t, t < v → gL m 277 t = 0) → ∃ m', (∀ o, f_X12_burns_102 K N 225 l2 l3 l4 l5 l7 (nI v) m o = f_X12_burns_127 K 1000 225 l2 l3 l4 l5 l7 0 m' o) ∧ FrL (fun q _ => q = 277) m m' ∧ ∀ t, t ≤ 500 → gL m' 277 t = 0 := by
  intro c
  induction c with
  | zero =>
    intro N v m h hv hN hz
    obtain ⟨N, rfl⟩ : ∃ N1, N = N1 + 1 := ⟨N - 1, by omega⟩
    refine ⟨m, fun o => ?_, FrL_refl _ _, fun t ht => hz t (by omega)⟩
    show f_X12_burns_102b K (f_X12_burns_102 K N) 225 l2 l3 l4 l5 l7 (nI v) m o = _
    unfold f_X12_burns_102b
    rw [if_pos (show (500 : Int32) < nI v from nI_lt (a := 500) (by omega) (by omega))]
  | succ c ih =>
    intro N v m h hv hN hz
    obtain ⟨N, rfl⟩ : ∃ N1, N = N1 + 1 := ⟨N - 1, by omega⟩
    have i1 : vp_in (nI v) 501 := vp_in_nI (by omega) (by omega)
    obtain ⟨m', b1, b2, b3⟩ := ih N (v + 1) (sL m 277 v 0) (Sh_sL h _ _ _) (by omega) (by omega) (fun t ht => by
      rw [gL_sL]
      by_cases q : t = v
      · rw [if_pos ⟨rfl, q⟩]
      · rw [if_neg (fun z => q z.2)]
        exact hz t (by omega))
    refine ⟨m', fun o => ?_, FrL_trans (FrL_sL (P := fun q _ => q = 277) (by rfl) _) b2, b3⟩
    show f_X12_burns_102b K (f_X12_burns_102 K N) 225 l2 l3 l4 l5 l7 (nI v) m o = _
    unfold f_X12_burns_102b f_X12_burns_118
    rw [if_neg (show ¬ (500 : Int32) < nI v from fun z => absurd ((nI_ltI (a := 500) (by omega) (by omega)).mp z) (by omega))]
    simp (config := {decide := true}) only [shT_225 h, shR_225_73 h, shT_277 h, shN_277 h, i1, ix_nI (show v < 2 ^ 31 by omega), nI_1, b1, ne_eq, not_false_eq_true, and_self, and_true, true_and, and_false, false_and, true_or, or_true, false_or, or_false, not_true_eq_false, if_false, if_true]
theorem l_b138 (K : Nat → Int32 → Int32 → Int32 → Int64 → Int32 → Mm → Prop → Int64 × Mm × Prop) (K2 : Nat → Int32 → Int32 → Int32 → Int64 → Int32 → Int32 → Mm → Prop → Int64 × Mm × Prop) (l2 l4 : Int32) (l5 : Int64) (l7 : Int32) {k v : Nat} (hk : k ≤ 30) (hv : v ≤ 500) (a b : Nat → Nat) : ∀ (c N p : Nat) (m : Mm), Sh m → p + c = k + 1 → c < N → gL m 276 v = lN (a v) → (∀ u, u ≤ 500 → gL m 277 u = lN (b u + sN (fun p => if cl v p = u then a v else 0) p)) → ∃ m', (∀ o, f_X12_burns_138 K K2 N 225 l2 (nI k) l4 l5 l7 (nI v) (nI p) m o = K2 225 l2 (nI k) l4 l5 l7 (nI (v + 1)) m' o) ∧ FrL (fun q _ => q = 277) m m' ∧ ∀ u, u ≤ 500 → gL m' 277 u = lN (b u + sN (fun p => if cl v p = u then a v else 0) (k + 1)) := by
  intro c
  induction c with
  | zero =>
    intro N p m h hp hN ha hb
    obtain ⟨N, rfl⟩ : ∃ N1, N = N1 + 1 := ⟨N - 1, by omega⟩
    obtain rfl : p = k + 1 := by omega
    refine ⟨m, fun o => ?_, FrL_refl _ _, hb⟩
    show f_X12_burns_138b K K2 (f_X12_burns_138 K K2 N) 225 l2 (nI k) l4 l5 l7 (nI v) (nI (k + 1)) m o = _
    unfold f_X12_burns_138b
    rw [if_pos (nI_lt (by omega) (by omega)), nI_1]
  | succ c ih =>
    intro N p m h hp hN ha hb
    obtain ⟨N, rfl⟩ : ∃ N1, N = N1 + 1 := ⟨N - 1, by omega⟩
    have hcl : cl v p ≤ 500 := by unfold cl; split <;> omega
    have i1 : vp_in (nI v) 501 := vp_in_nI (by omega) (by omega)
    have i2 : vp_in (nI (cl v p)) 501 := vp_in_nI (by omega) (by omega)
    obtain ⟨m', b1, b2, b3⟩ := ih N (p + 1) (sL m 277 (cl v p) (gL m 277 (cl v p) + lN (a v))) (Sh_sL h _ _ _) (by omega) (by omega) (by rw [gL_sL, if_neg (by omega)]; exact ha) (fun u hu => by
      rw [gL_sL]
      show _ = lN (b u + (sN (fun p => if cl v p = u then a v else 0) p + if cl v p = u then a v else 0))
      by_cases q : u = cl v p
      · rw [if_pos ⟨rfl, q⟩, if_pos q.symm, ← q, hb u hu, lN_add, Nat.add_assoc]
      · rw [if_neg (fun z => q z.2), if_neg (fun z => q z.symm), Nat.add_zero]
        exact hb u hu)
    refine ⟨m', fun o => ?_, FrL_trans (FrL_sL (P := fun q _ => q = 277) (by rfl) _) b2, b3⟩
    show f_X12_burns_138b K K2 (f_X12_burns_138 K K2 N) 225 l2 (nI k) l4 l5 l7 (nI v) (nI p) m o = _
    unfold f_X12_burns_138b f_X12_burns_170 f_X12_burns_181
    rw [if_neg (fun z => absurd ((nI_ltI (by omega) (by omega)).mp z) (by omega)), nI_add]
    by_cases q : v + p ≤ 500
    · have e : cl v p = v + p := if_pos q
      rw [e] at i2 b1
      rw [if_pos (show nI (v + p) ≤ (500 : Int32) from nI_le (b := 500) q (by omega))]
      simp (config := {decide := true}) only [shT_225 h, shR_225_72 h, shR_225_73 h, shT_276 h, shN_276 h, shT_277 h, shN_277 h, i1, i2, ix_nI (show v < 2 ^ 31 by omega), ix_nI (show v + p < 2 ^ 31 by omega), ha, nI_1, b1, ne_eq, not_false_eq_true, and_self, and_true, true_and, and_false, false_and, true_or, or_true, false_or, or_false, not_true_eq_false, if_false, if_true]
    · have e : cl v p = 500 := if_neg q
      rw [e] at i2 b1
      have i2 : vp_in (500 : Int32) 501 := i2
      have x5 : ix (500 : Int32) = 500 := ix_nI (i := 500) (by omega)
      rw [if_neg (show ¬ nI (v + p) ≤ (500 : Int32) from nI_ge (b := v + p) (a := 500) (by omega) (by omega))]
      simp (config := {decide := true}) only [shT_225 h, shR_225_72 h, shR_225_73 h, shT_276 h, shN_276 h, shT_277 h, shN_277 h, i1, i2, ix_nI (show v < 2 ^ 31 by omega), x5, ha, nI_1, b1, ne_eq, not_false_eq_true, and_self, and_true, true_and, and_false, false_and, true_or, or_true, false_or, or_false, not_true_eq_false, if_false, if_true]
theorem l_b127 (K : Nat → Int32 → Int32 → Int32 → Int64 → Int32 → Mm → Prop → Int64 × Mm × Prop) (l2 l4 : Int32) (l5 : Int64) (l7 : Int32) {k : Nat} (hk : k ≤ 30) (a : Nat → Nat) : ∀ (c N v : Nat) (m : Mm), Sh m → v + c = 501 → c < N → (∀ t, t ≤ 500 → gL m 276 t = lN (a t)) → (∀ u, u ≤ 500 → gL m 277 u = lN (psh a k v u)) → ∃ m', (∀ o, f_X12_burns_127 K N 225 l2 (nI k) l4 l5 l7 (nI v) m o = f_X12_burns_196 K 1000 225 l2 (nI k) l4 l5 l7 0 m' o) ∧ FrL (fun q _ => q = 277) m m' ∧ ∀ u, u ≤ 500 → gL m' 277 u = lN (psh a k 501 u) := by
  intro c
  induction c with
  | zero =>
    intro N v m h hv hN ha hb
    obtain ⟨N, rfl⟩ : ∃ N1, N = N1 + 1 := ⟨N - 1, by omega⟩
    obtain rfl : v = 501 := by omega
    refine ⟨m, fun o => ?_, FrL_refl _ _, hb⟩
    show f_X12_burns_127b K (f_X12_burns_127 K N) 225 l2 (nI k) l4 l5 l7 (nI 501) m o = _
    unfold f_X12_burns_127b
    rw [if_pos (show (500 : Int32) < nI 501 from nI_lt (a := 500) (by omega) (by omega))]
  | succ c ih =>
    intro N v m h hv hN ha hb
    obtain ⟨N, rfl⟩ : ∃ N1, N = N1 + 1 := ⟨N - 1, by omega⟩
    obtain ⟨m1, a1, a2, a3⟩ := l_b138 K (f_X12_burns_127 K N) l2 l4 l5 l7 hk (show v ≤ 500 by omega) a (psh a k v) (k + 1) 1000 0 m h (by omega) (by omega) (ha v (by omega)) (fun u hu => by
      rw [hb u hu]
      rfl)
    obtain ⟨m', b1, b2, b3⟩ := ih N (v + 1) m1 (FrL_Sh a2 h) (by omega) (by omega) (fun t ht => by rw [a2.2.2 276 t (by omega)]; exact ha t ht) (fun u hu => by
      rw [a3 u hu]
      rfl)
    refine ⟨m', fun o => ?_, FrL_trans a2 b2, b3⟩
    rw [nI_0] at a1
    show f_X12_burns_127b K (f_X12_burns_127 K N) 225 l2 (nI k) l4 l5 l7 (nI v) m o = _
    unfold f_X12_burns_127b
    rw [if_neg (show ¬ (500 : Int32) < nI v from fun z => absurd ((nI_ltI (a := 500) (by omega) (by omega)).mp z) (by omega)), a1, b1]
theorem l_b196 (K : Nat → Int32 → Int32 → Int32 → Int64 → Int32 → Mm → Prop → Int64 × Mm × Prop) (l2 l3 l4 : Int32) (l5 : Int64) (l7 : Int32) (g : Nat → Nat) : ∀ (c N v : Nat) (m : Mm), Sh m → v + c = 501 → c < N → (∀ t, t < v → gL m 276 t = lN (g t)) → (∀ t, t ≤ 500 → gL m 277 t = lN (g t)) → ∃ m', (∀ o, f_X12_burns_196 K N 225 l2 l3 l4 l5 l7 (nI v) m o = K 225 l2 l3 l4 (l5 * (Int32.toInt64 (l3 + (1 : Int32)))) (l7 + 1) m' o) ∧ FrL (fun q _ => q = 276) m m' ∧ ∀ t, t ≤ 500 → gL m' 276 t = lN (g t) := by
  intro c
  induction c with
  | zero =>
    intro N v m h hv hN ha hb
    obtain ⟨N, rfl⟩ : ∃ N1, N = N1 + 1 := ⟨N - 1, by omega⟩
    refine ⟨m, fun o => ?_, FrL_refl _ _, fun t ht => ha t (by omega)⟩
    show f_X12_burns_196b K (f_X12_burns_196 K N) 225 l2 l3 l4 l5 l7 (nI v) m o = _
    unfold f_X12_burns_196b
    rw [if_pos (show (500 : Int32) < nI v from nI_lt (a := 500) (by omega) (by omega))]
  | succ c ih =>
    intro N v m h hv hN ha hb
    obtain ⟨N, rfl⟩ : ∃ N1, N = N1 + 1 := ⟨N - 1, by omega⟩
    have i1 : vp_in (nI v) 501 := vp_in_nI (by omega) (by omega)
    obtain ⟨m', b1, b2, b3⟩ := ih N (v + 1) (sL m 276 v (lN (g v))) (Sh_sL h _ _ _) (by omega) (by omega) (fun t ht => by
      rw [gL_sL]
      by_cases q : t = v
      · rw [if_pos ⟨rfl, q⟩, q]
      · rw [if_neg (fun z => q z.2)]
        exact ha t (by omega)) (fun t ht => by rw [gL_sL, if_neg (by omega)]; exact hb t ht)
    refine ⟨m', fun o => ?_, FrL_trans (FrL_sL (P := fun q _ => q = 276) (by rfl) _) b2, b3⟩
    show f_X12_burns_196b K (f_X12_burns_196 K N) 225 l2 l3 l4 l5 l7 (nI v) m o = _
    unfold f_X12_burns_196b f_X12_burns_218
    rw [if_neg (show ¬ (500 : Int32) < nI v from fun z => absurd ((nI_ltI (a := 500) (by omega) (by omega)).mp z) (by omega))]
    simp (config := {decide := true}) only [shT_225 h, shR_225_72 h, shR_225_73 h, shT_276 h, shN_276 h, shT_277 h, shN_277 h, i1, ix_nI (show v < 2 ^ 31 by omega), hb v (show v ≤ 500 by omega), nI_1, b1, ne_eq, not_false_eq_true, and_self, and_true, true_and, and_false, false_and, true_or, or_true, false_or, or_false, not_true_eq_false, if_false, if_true]
/-- above or below the line, in lowest terms -/
def lowT (up all : Nat) (what : Int32) : Int64 := if what = 0 then lN (up / Nat.gcd up all) else lN (all / Nat.gcd up all)
theorem pow_lt {k n : Nat} (hk : k ≤ 30) (hn : n ≤ 12) : (k + 1) ^ n < 2 ^ 63 := by
  have h1 : (k + 1) ^ n ≤ 31 ^ n := Nat.pow_le_pow_left (by omega) n
  have h2 : 31 ^ n ≤ 31 ^ 12 := Nat.pow_le_pow_right (by omega) hn
  omega
theorem l_b93 {k n h0 : Nat} (hk : k ≤ 30) (hn : n ≤ 12) (hh : h0 ≤ 500) (what : Int32) : ∀ (c N d : Nat) (m : Mm), Sh m → d + c = n → c < N → (∀ t, t ≤ 500 → gL m 276 t = lN (ps k h0 d t)) → ∃ m', (∀ o, f_X12_burns_93 N 225 (nI n) (nI k) what (lN ((k + 1) ^ d)) (nI d) m o = (lowT (ps k h0 n 500) ((k + 1) ^ n) what, m', o)) ∧ FrL (fun q _ => q = 276 ∨ q = 277) m m' := by
  intro c
  induction c with
  | zero =>
    intro N d m h hd hN ha
    obtain ⟨N, rfl⟩ : ∃ N1, N = N1 + 1 := ⟨N - 1, by omega⟩
    obtain rfl : d = n := by omega
    refine ⟨m, fun o => ?_, FrL_refl _ _⟩
    have hp := pow_lt hk hn
    have hu := ps_le (k := k) hh d (Nat.le_refl 500)
    have ha5 := ha 500 (Nat.le_refl _)
    have hp0 : 0 < (k + 1) ^ d := Nat.pow_pos (by omega)
    generalize ps k h0 d 500 = up at hu ha5 ⊢
    generalize (k + 1) ^ d = all at hu hp hp0 ⊢
    have g0 : 0 < Nat.gcd up all := Nat.gcd_pos_of_pos_right _ hp0
    have g1 : Nat.gcd up all ≤ all := Nat.gcd_le_right _ hp0
    have n0 : ¬ lN (Nat.gcd up all) = 0 := fun z => absurd ((pk_lEQ (b := 0) (by omega) (by omega)).mp z) (by omega)
    have i5 : vp_in (500 : Int32) 501 := vp_in_nI (n := 500) (by omega) (by omega)
    have x5 : ix (500 : Int32) = 500 := ix_nI (i := 500) (by omega)
    show f_X12_burns_93b (f_X12_burns_93 N) 225 (nI d) (nI k) what _ (nI d) m o = _
    unfold f_X12_burns_93b
    rw [if_pos (nI_le (Nat.le_refl _) (by omega))]
    simp (config := {decide := true}) only [shT_225 h, shR_225_72 h, shT_276 h, shN_276 h, i5, x5, ha5, e_divisor m (show up < 2 ^ 63 by omega) hp, bnd, f_X12_burns_252, f_X12_burns_278, pk_lDiv (show up < 2 ^ 63 by omega) g0 (show Nat.gcd up all < 2 ^ 63 by omega), pk_lDiv hp g0 (show Nat.gcd up all < 2 ^ 63 by omega), n0, ne_eq, not_false_eq_true, and_self, and_true, true_and, and_false, false_and, true_or, or_true, false_or, or_false, not_true_eq_false, if_false, if_true]
    unfold lowT
    by_cases q : what = 0
    · rw [if_pos q, if_pos q]
    · rw [if_neg q, if_neg q]
  | succ c ih =>
    intro N d m h hd hN ha
    obtain ⟨N, rfl⟩ : ∃ N1, N = N1 + 1 := ⟨N - 1, by omega⟩
    have z0 : ∀ v, lN (psh (ps k h0 d) k 0 v) = 0 := fun v => rfl
    obtain ⟨m1, a1, a2, a3⟩ := l_b102 (f_X12_burns_93 N) (nI n) (nI k) what (lN ((k + 1) ^ d)) (nI d) 501 1000 0 m h (by omega) (by omega) (fun t ht => by omega)
    have s1 := FrL_Sh a2 h
    have f1 : ∀ t, t ≤ 500 → gL m1 276 t = lN (ps k h0 d t) := fun t ht => by rw [a2.2.2 276 t (by omega)]; exact ha t ht
    obtain ⟨m2, b1, b2, b3⟩ := l_b127 (f_X12_burns_93 N) (nI n) what (lN ((k + 1) ^ d)) (nI d) hk (ps k h0 d) 501 1000 0 m1 s1 (by omega) (by omega) f1 (fun u hu => by rw [a3 u hu, z0])
    have s2 := FrL_Sh b2 s1
    obtain ⟨m3, c1, c2, c3⟩ := l_b196 (f_X12_burns_93 N) (nI n) (nI k) what (lN ((k + 1) ^ d)) (nI d) (ps k h0 (d + 1)) 501 1000 0 m2 s2 (by omega) (by omega) (fun t ht => by omega) (fun t ht => b3 t ht)
    obtain ⟨m', d1, d2⟩ := ih N (d + 1) m3 (FrL_Sh c2 s2) (by omega) (by omega) c3
    refine ⟨m', fun o => ?_, FrL_trans (FrL_mono a2 (fun q i z => .inr z)) (FrL_trans (FrL_mono b2 (fun q i z => .inr z)) (FrL_trans (FrL_mono c2 (fun q i z => .inl z)) d2))⟩
    have e1 : lN ((k + 1) ^ d) * Int32.toInt64 (nI k + 1) = lN ((k + 1) ^ (d + 1)) := by
      rw [nI_1, nI_l (by omega), lN_mul, Nat.pow_succ]
    rw [nI_0] at a1 b1 c1
    show f_X12_burns_93b (f_X12_burns_93 N) 225 (nI n) (nI k) what _ (nI d) m o = _
    unfold f_X12_burns_93b
    rw [if_neg (nI_ge (by omega) (by omega)), a1, b1, c1, e1, nI_1, d1]
theorem l_b50 {s h0 : Nat} (hs : s < 12) (hh : h0 ≤ 500) (l2 : Int32) (k : Nat) (what : Int32) : ∀ (c N v : Nat) (m : Mm), Sh m → gI m 232 s = nI h0 → v + c = 501 → c < N → (∀ t, t < v → gL m 276 t = lN (ps k h0 0 t)) → ∃ m', (∀ o, f_X12_burns_50 N 225 (nI s) l2 (nI k) what (nI v) m o = f_X12_burns_93 1000 225 l2 (nI k) what 1 0 m' o) ∧ FrL (fun q _ => q = 276) m m' ∧ ∀ t, t ≤ 500 → gL m' 276 t = lN (ps k h0 0 t) := by
  intro c
  induction c with
  | zero =>
    intro N v m h h6 hv hN ha
    obtain ⟨N, rfl⟩ : ∃ N1, N = N1 + 1 := ⟨N - 1, by omega⟩
    refine ⟨m, fun o => ?_, FrL_refl _ _, fun t ht => ha t (by omega)⟩
    show f_X12_burns_50b (f_X12_burns_50 N) 225 (nI s) l2 (nI k) what (nI v) m o = _
    unfold f_X12_burns_50b
    rw [if_pos (show (500 : Int32) < nI v from nI_lt (a := 500) (by omega) (by omega))]
  | succ c ih =>
    intro N v m h h6 hv hN ha
    obtain ⟨N, rfl⟩ : ∃ N1, N = N1 + 1 := ⟨N - 1, by omega⟩
    have i1 : vp_in (nI v) 501 := vp_in_nI (by omega) (by omega)
    have i2 : vp_in (nI s) 12 := vp_in_nI (by omega) (by omega)
    obtain ⟨m', b1, b2, b3⟩ := ih N (v + 1) (sL m 276 v (lN (ps k h0 0 v))) (Sh_sL h _ _ _) h6 (by omega) (by omega) (fun t ht => by
      rw [gL_sL]
      by_cases q : t = v
      · rw [if_pos ⟨rfl, q⟩, q]
      · rw [if_neg (fun z => q z.2)]
        exact ha t (by omega))
    refine ⟨m', fun o => ?_, FrL_trans (FrL_sL (P := fun q _ => q = 276) (by rfl) _) b2, b3⟩
    have c1 : (nI v = nI h0) = (v = h0) := propext (nI_eq (by omega) (by omega))
    show f_X12_burns_50b (f_X12_burns_50 N) 225 (nI s) l2 (nI k) what (nI v) m o = _
    unfold f_X12_burns_50b f_X12_burns_80 f_X12_burns_81
    rw [if_neg (show ¬ (500 : Int32) < nI v from fun z => absurd ((nI_ltI (a := 500) (by omega) (by omega)).mp z) (by omega))]
    simp (config := {decide := true}) only [shT_225 h, shR_225_13 h, shR_225_72 h, shT_232 h, shN_232 h, shT_276 h, shN_276 h, i1, i2, ix_nI (show v < 2 ^ 31 by omega), ix_nI (show s < 2 ^ 31 by omega), h6, c1, nI_1, ne_eq, not_false_eq_true, and_self, and_true, true_and, and_false, false_and, true_or, or_true, false_or, or_false, not_true_eq_false, if_false, if_true]
    by_cases q : v = h0
    · have e : lN (ps k h0 0 v) = 1 := by
        show lN (if v = h0 then 1 else 0) = 1
        rw [if_pos q]
        rfl
      rw [e] at b1
      rw [if_pos q, b1]
    · have e : lN (ps k h0 0 v) = 0 := by
        show lN (if v = h0 then 1 else 0) = 0
        rw [if_neg q]
        rfl
      rw [e] at b1
      rw [if_neg q, b1]
theorem p_burns : Pr_burns Rel := fun a n k what => PrJ_ex (fun m hR => by
  have h := hR.1
  obtain ⟨ns, w, ⟨⟨hns, -⟩, ⟨h6, h2⟩, -⟩, hS, -⟩ := hR.2.2.1
  have h2 : gI m 225 2 = nI ns := h2
  have hl1 := e_lies n 1 12
  have hl2 := e_lies k 1 30
  have hl3 := e_lies what 0 1
  rw [show Int32.toInt64 1 = 1 by decide, show Int32.toInt64 12 = 12 by decide] at hl1
  rw [show Int32.toInt64 1 = 1 by decide, show Int32.toInt64 30 = 30 by decide] at hl2
  rw [show Int32.toInt64 0 = 0 by decide, show Int32.toInt64 1 = 1 by decide] at hl3
  have bad : ∀ (hC : ∀ o, F_X11_burns 1 a n k what m o = (-1, m, o)) (hM : ∀ o, F_X12_burns 225 a n k what m o = (-1, m, o)), ∃ v m1 m2, (∀ o, F_X11_burns 1 a n k what m o = (v, m1, o)) ∧ Sh m1 ∧ (∀ o, F_X12_burns 225 a n k what m1 o = (v, m2, o)) ∧ Rel m2 := fun hC hM => ⟨-1, m, m, hC, h, hM, hR⟩
  by_cases qa : ∃ s, s < ns ∧ a = nI s
  · obtain ⟨s, hs, rfl⟩ := qa
    obtain ⟨⟨-, -, -, -, -, -, ⟨t, ht, e6, e499⟩, e7⟩, -, -, -, -, -, q6, q7⟩ := hS s hs
    have i1 : 2 + 7 + 2 * s = 9 + 2 * s := by omega
    rw [Nat.mul_zero, Nat.zero_add] at q6 q7
    rw [i1] at e6 e499 e7 q6 q7
    have q6 : gI m 232 s = gI m (9 + 2 * s) 6 := q6
    have q7 : gI m 233 s = gI m (9 + 2 * s) 7 := q7
    have sC := fun o => e_standing h hns hs h6 o
    have sM := fun o => e_thereM h hns hs h2 o
    rcases e7 with e7 | e7
    · rw [e7] at sC
      rw [q7, e7] at sM
      refine bad (fun o => ?_) (fun o => ?_)
      · simp (config := {decide := true}) only [f_X11_burns_50, f_X11_burns_102, f_X11_burns_86, f_X11_burns_63, f_X11_burns_47, f_X11_burns_35, f_X11_burns_34, f_X11_burns_27, f_X11_burns_17, f_X11_burns_7, f_X11_burns_0, F_X11_burns, bnd, e_isWithin, sC, bI_0, shT_1 h, ne_eq, not_false_eq_true, and_self, and_true, true_and, and_false, false_and, true_or, or_true, false_or, or_false, not_true_eq_false, if_false, if_true]
        rcases Classical.propComplete (1 ≤ n ∧ n ≤ 12) with c1 | c1 <;> rcases Classical.propComplete (1 ≤ k ∧ k ≤ 30) with c2 | c2 <;> rcases Classical.propComplete (0 ≤ what ∧ what ≤ 1) with c3 | c3 <;> simp (config := {decide := true}) only [c1, c2, c3, ne_eq, not_false_eq_true, and_self, and_true, true_and, and_false, false_and, true_or, or_true, false_or, or_false, not_true_eq_false, if_false, if_true]
      · simp (config := {decide := true}) only [f_X12_burns_43, f_X12_burns_81, f_X12_burns_80, f_X12_burns_118, f_X12_burns_181, f_X12_burns_170, f_X12_burns_218, f_X12_burns_278, f_X12_burns_252, f_X12_burns_40, f_X12_burns_29, f_X12_burns_17, f_X12_burns_5, f_X12_burns_0, F_X12_burns, bnd, sM, bI_0, shT_225 h, ne_eq, not_false_eq_true, and_self, and_true, true_and, and_false, false_and, true_or, or_true, false_or, or_false, not_true_eq_false, if_false, if_true]
    · rw [e7] at sC
      rw [q7, e7] at sM
      have n10 : ¬ (1 : Int32) = 0 := by decide
      simp only [if_neg n10] at sC sM
      by_cases qall : (1 ≤ n ∧ n ≤ 12) ∧ (1 ≤ k ∧ k ≤ 30) ∧ (0 ≤ what ∧ what ≤ 1)
      · obtain ⟨c1, c2, c3⟩ := qall
        obtain ⟨n', rfl, hn1, hn2⟩ : ∃ n', n = nI n' ∧ 1 ≤ n' ∧ n' ≤ 12 := by
          obtain ⟨j, hj, rfl⟩ := nI_of (x := n) (by rw [i32_nlt]; exact Int32.le_trans (by decide) c1.1)
          exact ⟨j, rfl, (nI_leI (a := 1) (by omega) hj).mp c1.1, (nI_leI (b := 12) hj (by omega)).mp c1.2⟩
        obtain ⟨k', rfl, hk1, hk2⟩ : ∃ k', k = nI k' ∧ 1 ≤ k' ∧ k' ≤ 30 := by
          obtain ⟨j, hj, rfl⟩ := nI_of (x := k) (by rw [i32_nlt]; exact Int32.le_trans (by decide) c2.1)
          exact ⟨j, rfl, (nI_leI (a := 1) (by omega) hj).mp c2.1, (nI_leI (b := 30) hj (by omega)).mp c2.2⟩
        have t499 := e499 e7
        have hT : n' * k' ≤ 12 * 30 := Nat.mul_le_mul hn2 hk2
        obtain ⟨m1, a1, a2, a3, a4⟩ := e_throw hk2 hn1 hn2 h
        have s1 : Sh m1 := FrL_Sh a2 (Sh_sI h _ _ _)
        have I1 : ∀ q i, q ≠ 203 → gI m1 q i = gI m q i := fun q i hq => by rw [FrL_I a2, gI_sI, if_neg (fun z => hq z.1)]
        have at1 := fun o => e_atLeast s1 (T := n' * k') (need := 500 - t) (by omega) (by omega) (by rw [FrL_I a2, gI_sI, if_pos ⟨rfl, rfl⟩]) a4 o
        rw [← ps_burnt (by omega)] at at1
        obtain ⟨m2, b1, b2, b3⟩ := l_b50 (s := s) (h0 := t) (by omega) (by omega) (nI n') k' what 501 1000 0 m1 s1 (by rw [I1 _ _ (by omega), q6]; exact e6) (by omega) (by omega) (fun t ht => by omega)
        obtain ⟨m3, d1, d2⟩ := l_b93 hk2 hn2 (show t ≤ 500 by omega) what n' 1000 0 m2 (FrL_Sh b2 s1) (by omega) (by omega) b3
        have hp := pow_lt hk2 hn2
        have hu := ps_le (k := k') (show t ≤ 500 by omega) n' (Nat.le_refl 500)
        have hp0 : 0 < (k' + 1) ^ n' := Nat.pow_pos (by omega)
        have lw := fun o => e_low m1 (show ps k' t n' 500 < 2 ^ 63 by omega) hp hp0 what o
        have e500 : (500 : Int32) - nI t = nI (500 - t) := pk_sub (a := 500) (by omega)
        obtain ⟨g1, g2, -⟩ := md_stk s1 (p := 2) (.inl rfl) (show s < 12 by omega)
        have g1 : gR m1 3 s = 9 + 2 * s := g1
        have g2 : gT m1 (9 + 2 * s) = 8 := g2
        have n2 : ¬ 9 + 2 * s = 0 := by omega
        have hin : vp_in (nI s) 12 := vp_in_nI (by omega) (by omega)
        have h61 : gI m1 (9 + 2 * s) 6 = nI t := by rw [I1 _ _ (by omega)]; exact e6
        have c1' := eq_true c1
        have c2' := eq_true c2
        have c3' := eq_true c3
        have z1 : lN ((k' + 1) ^ 0) = 1 := rfl
        rw [z1, nI_0] at d1
        rw [nI_0] at b1
        refine ⟨lowT (ps k' t n' 500) ((k' + 1) ^ n') what, m1, m3, fun o => ?_, s1, fun o => ?_, ?_⟩
        · simp (config := {decide := true}) only [f_X11_burns_50, f_X11_burns_102, f_X11_burns_86, f_X11_burns_63, f_X11_burns_47, f_X11_burns_35, f_X11_burns_34, f_X11_burns_27, f_X11_burns_17, f_X11_burns_7, f_X11_burns_0, F_X11_burns, bnd, e_isWithin, sC, bI_0, c1', c2', c3', shT_1 h, shR_1_8 h, shT_203 h, a1, shT_1 s1, shR_1_0 s1, shR_1_8 s1, shT_2 s1, shR_2_0 s1, shT_3 s1, shN_3 s1, shT_203 s1, g1, g2, n2, hin, ix_nI (show s < 2 ^ 31 by omega), h61, e500, at1, a3, lw, lowT, ne_eq, not_false_eq_true, and_self, and_true, true_and, and_false, false_and, true_or, or_true, false_or, or_false, not_true_eq_false, if_false, if_true]
        · have sM1 := fun o => e_thereM s1 hns hs (by rw [I1 _ _ (by omega)]; exact h2) o
          rw [I1 _ _ (by omega), q7, e7] at sM1
          simp only [if_neg n10] at sM1
          simp (config := {decide := true}) only [f_X12_burns_43, f_X12_burns_81, f_X12_burns_80, f_X12_burns_118, f_X12_burns_181, f_X12_burns_170, f_X12_burns_218, f_X12_burns_278, f_X12_burns_252, f_X12_burns_40, f_X12_burns_29, f_X12_burns_17, f_X12_burns_5, f_X12_burns_0, F_X12_burns, bnd, hl1, hl2, hl3, sM1, bI_0, c1', c2', c3', shT_225 s1, b1, d1, ne_eq, not_false_eq_true, and_self, and_true, true_and, and_false, false_and, true_or, or_true, false_or, or_false, not_true_eq_false, if_false, if_true]
        · refine Rel_same hR (FrL_Sh d2 (FrL_Sh b2 s1)) ⟨by rw [FrL_R d2, FrL_R b2, FrL_R a2, gR_sI], by rw [FrL_R d2, FrL_R b2, FrL_R a2, gR_sI]⟩ (fun q i hq => ?_)
          rw [FrL_I d2, FrL_I b2]
          exact I1 q i (by unfold inAny inNow inKept inTape inLaw at hq; omega)
      · refine bad (fun o => ?_) (fun o => ?_)
        · simp (config := {decide := true}) only [f_X11_burns_50, f_X11_burns_102, f_X11_burns_86, f_X11_burns_63, f_X11_burns_47, f_X11_burns_35, f_X11_burns_34, f_X11_burns_27, f_X11_burns_17, f_X11_burns_7, f_X11_burns_0, F_X11_burns, bnd, e_isWithin, sC, bI_0, shT_1 h, ne_eq, not_false_eq_true, and_self, and_true, true_and, and_false, false_and, true_or, or_true, false_or, or_false, not_true_eq_false, if_false, if_true]
          rcases Classical.propComplete (1 ≤ n ∧ n ≤ 12) with c1 | c1 <;> rcases Classical.propComplete (1 ≤ k ∧ k ≤ 30) with c2 | c2 <;> rcases Classical.propComplete (0 ≤ what ∧ what ≤ 1) with c3 | c3 <;> simp (config := {decide := true}) only [c1, c2, c3, ne_eq, not_false_eq_true, and_self, and_true, true_and, and_false, false_and, true_or, or_true, false_or, or_false, not_true_eq_false, if_false, if_true]
          exact absurd ⟨of_eq_true c1, of_eq_true c2, of_eq_true c3⟩ qall
        · simp (config := {decide := true}) only [f_X12_burns_43, f_X12_burns_81, f_X12_burns_80, f_X12_burns_118, f_X12_burns_181, f_X12_burns_170, f_X12_burns_218, f_X12_burns_278, f_X12_burns_252, f_X12_burns_40, f_X12_burns_29, f_X12_burns_17, f_X12_burns_5, f_X12_burns_0, F_X12_burns, bnd, hl1, hl2, hl3, sM, bI_0, shT_225 h, ne_eq, not_false_eq_true, and_self, and_true, true_and, and_false, false_and, true_or, or_true, false_or, or_false, not_true_eq_false, if_false, if_true]
          rcases Classical.propComplete (1 ≤ n ∧ n ≤ 12) with c1 | c1 <;> rcases Classical.propComplete (1 ≤ k ∧ k ≤ 30) with c2 | c2 <;> rcases Classical.propComplete (0 ≤ what ∧ what ≤ 1) with c3 | c3 <;> simp (config := {decide := true}) only [c1, c2, c3, ne_eq, not_false_eq_true, and_self, and_true, true_and, and_false, false_and, true_or, or_true, false_or, or_false, not_true_eq_false, if_false, if_true]
          exact absurd ⟨of_eq_true c1, of_eq_true c2, of_eq_true c3⟩ qall
  · have sC := fun o => e_standing0 a h hns qa h6 o
    have sM := fun o => e_thereM0 a h hns qa h2 o
    refine bad (fun o => ?_) (fun o => ?_)
    · simp (config := {decide := true}) only [f_X11_burns_50, f_X11_burns_102, f_X11_burns_86, f_X11_burns_63, f_X11_burns_47, f_X11_burns_35, f_X11_burns_34, f_X11_burns_27, f_X11_burns_17, f_X11_burns_7, f_X11_burns_0, F_X11_burns, bnd, e_isWithin, sC, bI_0, shT_1 h, ne_eq, not_false_eq_true, and_self, and_true, true_and, and_false, false_and, true_or, or_true, false_or, or_false, not_true_eq_false, if_false, if_true]
      rcases Classical.propComplete (1 ≤ n ∧ n ≤ 12) with c1 | c1 <;> rcases Classical.propComplete (1 ≤ k ∧ k ≤ 30) with c2 | c2 <;> rcases Classical.propComplete (0 ≤ what ∧ what ≤ 1) with c3 | c3 <;> simp (config := {decide := true}) only [c1, c2, c3, ne_eq, not_false_eq_true, and_self, and_true, true_and, and_false, false_and, true_or, or_true, false_or, or_false, not_true_eq_false, if_false, if_true]
    · simp (config := {decide := true}) only [f_X12_burns_43, f_X12_burns_81, f_X12_burns_80, f_X12_burns_118, f_X12_burns_181, f_X12_burns_170, f_X12_burns_218, f_X12_burns_278, f_X12_burns_252, f_X12_burns_40, f_X12_burns_29, f_X12_burns_17, f_X12_burns_5, f_X12_burns_0, F_X12_burns, bnd, sM, bI_0, shT_225 h, ne_eq, not_false_eq_true, and_self, and_true, true_and, and_false, false_and, true_or, or_true, false_or, or_false, not_true_eq_false, if_false, if_true])
