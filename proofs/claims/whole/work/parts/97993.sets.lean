/-! ===== sets as numbers, on the other side ===== -/
theorem low_and {S l : Nat} (h1 : S.testBit l = true) (h0 : ∀ e, e < l → S.testBit e = false) (e : Nat) : (S &&& (S - 1)).testBit e = (S.testBit e && decide (e ≠ l)) := by
  have d0 : S % 2 ^ l = 0 := by
    apply Nat.eq_of_testBit_eq
    intro i
    rw [Nat.testBit_mod_two_pow, Nat.zero_testBit]
    by_cases q : i < l
    · rw [h0 i q, Bool.and_false]
    · rw [decide_eq_false q, Bool.false_and]
  have d1 : S / 2 ^ l % 2 = 1 := by
    have := h1
    rw [Nat.testBit_eq_decide_div_mod_eq] at this
    exact of_decide_eq_true this
  have e1 : S = 2 ^ (l + 1) * (S / 2 ^ l / 2) + 2 ^ l := by
    have a1 := Nat.div_add_mod S (2 ^ l)
    have a2 := Nat.div_add_mod (S / 2 ^ l) 2
    rw [d0, Nat.add_zero] at a1
    rw [d1] at a2
    rw [Nat.pow_succ, Nat.mul_assoc]
    calc S = 2 ^ l * (S / 2 ^ l) := a1.symm
      _ = 2 ^ l * (2 * (S / 2 ^ l / 2) + 1) := by rw [a2]
      _ = 2 ^ l * (2 * (S / 2 ^ l / 2)) + 2 ^ l := by rw [Nat.mul_add, Nat.mul_one]
  have hp : 0 < 2 ^ l := Nat.two_pow_pos l
  have hp2 : 2 ^ (l + 1) = 2 ^ l + 2 ^ l := by rw [Nat.pow_succ]; omega
  have e2 : S - 1 = 2 ^ (l + 1) * (S / 2 ^ l / 2) + (2 ^ l - 1) := by omega
  have t1 := Nat.testBit_two_pow_mul_add (S / 2 ^ l / 2) (b := 2 ^ l) (i := l + 1) (by omega) e
  have t2 := Nat.testBit_two_pow_mul_add (S / 2 ^ l / 2) (b := 2 ^ l - 1) (i := l + 1) (by omega) e
  rw [← e1] at t1
  rw [← e2] at t2
  rw [Nat.testBit_and, t2]
  by_cases q : e < l + 1
  · rw [if_pos q, Nat.testBit_two_pow_sub_one]
    by_cases q2 : e = l
    · subst q2
      rw [decide_eq_false (by omega), Bool.and_false, decide_eq_false (by simp), Bool.and_false]
    · rw [h0 e (by omega), Bool.false_and, Bool.false_and]
  · rw [if_neg q, t1, if_neg q, Bool.and_self, decide_eq_true (by omega), Bool.and_true]
theorem vs_low (vt : Nat → Nat) {S l T : Nat} (h1 : S.testBit l = true) (hT : ∀ e, T.testBit e = (S.testBit e && decide (e ≠ l))) : ∀ k, vsN vt k S = vsN vt k T + (if l < k then vt l else 0) ∧ szN k S = szN k T + (if l < k then 1 else 0)
  | 0 => ⟨by rw [if_neg (by omega)]; rfl, by rw [if_neg (by omega)]; rfl⟩
  | k + 1 => by
    obtain ⟨a1, a2⟩ := vs_low vt h1 hT k
    show vsN vt k S + _ = vsN vt k T + _ + _ ∧ szN k S + _ = szN k T + _ + _
    rw [a1, a2, hT k]
    by_cases q : k = l
    · subst q
      rw [h1, decide_eq_false (by simp)]
      simp
    · rw [decide_eq_true q, Bool.and_true]
      have e1 : (l < k + 1) = (l < k) := propext ⟨fun _ => by omega, fun _ => by omega⟩
      simp only [e1]
      omega
theorem low_ex {S : Nat} (h : S ≠ 0) : ∃ l, S.testBit l = true ∧ ∀ e, e < l → S.testBit e = false := by
  obtain ⟨k, h1, h2⟩ := pk_least (fun i => S.testBit i = true) (Nat.exists_testBit_of_ne_zero h)
  exact ⟨k, h1, fun e he => Bool.eq_false_iff.mpr (h2 e he)⟩
theorem low_lt {S l c : Nat} (h1 : S.testBit l = true) (hS : S < 2 ^ c) : l < c := by
  have h := Nat.ge_two_pow_of_testBit h1
  by_cases q : l < c
  · exact q
  · have := Nat.pow_le_pow_right (show 0 < 2 by omega) (show c ≤ l by omega)
    omega
theorem sz_pos {S c : Nat} (hS : S < 2 ^ c) (h0 : S ≠ 0) : 0 < szN c S := by
  obtain ⟨l, h1, h2⟩ := low_ex h0
  have := (vs_low (fun _ => 0) h1 (low_and h1 h2) c).2
  rw [if_pos (low_lt h1 hS)] at this
  omega
theorem sz_le : ∀ (c S : Nat), szN c S ≤ c
  | 0, _ => Nat.le_refl _
  | c + 1, S => by
    have := sz_le c S
    show szN c S + _ ≤ c + 1
    split <;> omega
theorem vs_le {vt : Nat → Nat} {c : Nat} (hv : ∀ e, e < c → vt e ≤ 9) : ∀ S, vsN vt c S ≤ 9 * c := fun S => by
  induction c with
  | zero => exact Nat.le_refl _
  | succ c ih =>
    have h1 := ih (fun e he => hv e (by omega))
    have h2 := hv c (by omega)
    show vsN vt c S + _ ≤ 9 * (c + 1)
    split <;> omega
theorem vs_all (vt : Nat → Nat) (w : Nat) : ∀ k, k ≤ w → (∀ e, e < k → vt e = 1 ∨ vt e = 9) → vsN vt k (2 ^ w - 1) = k + 8 * c9 vt k
  | 0, _, _ => rfl
  | k + 1, hk, hv => by
    have h1 := vs_all vt w k (by omega) (fun e he => hv e (by omega))
    have h2 := hv k (by omega)
    show vsN vt k (2 ^ w - 1) + _ = k + 1 + 8 * (c9 vt k + _)
    rw [h1, Nat.testBit_two_pow_sub_one, decide_eq_true (by omega), if_pos rfl]
    split <;> omega
theorem shl1 {c : Nat} (hc : c ≤ 16) : (1 : Int32) <<< (nI c &&& 31) = nI (2 ^ c) := by
  have hp : 2 ^ c ≤ 2 ^ 16 := Nat.pow_le_pow_right (by omega) hc
  have h := pk_shlN (n := 1) (nI c &&& 31) c (s_l c (by omega)) (by omega)
  rw [Nat.one_mul] at h
  exact h
theorem e_hasM {S l : Nat} (hS : S < 2 ^ 16) (hl : l < 32) (m : Mm) (o : Prop) : F_X12_has (nI S) (nI l) m o = (if S.testBit l = true then 1 else 0, m, o) := by
  have e1 : nI S >>> (nI l &&& 31) = nI (S / 2 ^ l) := pk_shrN (by omega) _ l (s_l l hl)
  have e2 : nI (S / 2 ^ l) &&& 1 = nI (S / 2 ^ l % 2) := by
    have h := pk_andN (n := S / 2 ^ l) (Nat.lt_of_le_of_lt (Nat.div_le_self _ _) (by omega)) (m := 1) 1 (by decide)
    exact h
  have e3 : (nI (S / 2 ^ l % 2) = 1) = (S.testBit l = true) := by
    rw [Nat.testBit_eq_decide_div_mod_eq, decide_eq_true_eq]
    exact propext (nI_eq (b := 1) (by omega) (by omega))
  unfold F_X12_has f_X12_has_0 f_X12_has_14
  rw [e1, e2]
  simp only [e3]
  by_cases q : S.testBit l = true
  · rw [if_pos q, if_pos q]
    simp (config := {decide := true}) only [ne_eq, not_false_eq_true, and_self, and_true, true_and, and_false, false_and, true_or, or_true, false_or, or_false, not_true_eq_false, if_false, if_true]
  · rw [if_neg q, if_neg q]
    simp (config := {decide := true}) only [ne_eq, not_false_eq_true, and_self, and_true, true_and, and_false, false_and, true_or, or_true, false_or, or_false, not_true_eq_false, if_false, if_true]
/-- all that laysVotes needs of a memory -/
def lvM (m : Mm) (c : Nat) (vt : Nat → Nat) : Prop := Sh m ∧ gI m 225 3 = nI c ∧ ∀ e, e < c → gI m 235 e = nI (vt e)
theorem l_lays1 {c : Nat} (hc : c ≤ 16) {vt : Nat → Nat} {m : Mm} (h : lvM m c vt) (K : Nat → Int32 → Mm → Prop → Unit × Mm × Prop) {S low : Nat} (hS : S < 2 ^ c) (h1 : S.testBit low = true) (h0 : ∀ e, e < low → S.testBit e = false) : ∀ (k N l : Nat) (o : Prop), l + k = low → k < N → f_X12_laysVotes_21 K N 225 (nI S) (nI l) m o = K 225 (nI (S + 1)) (sI m 274 S (gI m 274 (S &&& (S - 1)) + nI (vt low))) o := by
  have hp : 2 ^ c ≤ 2 ^ 16 := Nat.pow_le_pow_right (by omega) hc
  have hlc := low_lt h1 hS
  have hS0 : 0 < S := by
    have := Nat.ge_two_pow_of_testBit h1
    have := Nat.two_pow_pos low
    omega
  have hand : S &&& (S - 1) ≤ S - 1 := Nat.and_le_right
  intro k
  induction k with
  | zero =>
    intro N l o hl hN
    obtain ⟨N, rfl⟩ : ∃ N1, N = N1 + 1 := ⟨N - 1, by omega⟩
    obtain rfl : l = low := by omega
    show f_X12_laysVotes_21b K (f_X12_laysVotes_21 K N) 225 (nI S) (nI l) m o = _
    have i1 : vp_in (nI S) 65536 := vp_in_nI (by omega) (by omega)
    have i2 : vp_in (nI (S &&& (S - 1))) 65536 := vp_in_nI (by omega) (by omega)
    have i3 : vp_in (nI l) 16 := vp_in_nI (by omega) (by omega)
    unfold f_X12_laysVotes_21b
    rw [e_hasM (by omega) (by omega), if_pos h1]
    simp (config := {decide := true}) only [bnd, f_X12_laysVotes_26, f_X12_laysVotes_58, shT_225 h.1, shR_225_70 h.1, shR_225_16 h.1, shT_274 h.1, shN_274 h.1, shT_235 h.1, shN_235 h.1, nI_sub1 hS0, nx_and, i1, i2, i3, ix_nI (show S < 2 ^ 31 by omega), ix_nI (show S &&& (S - 1) < 2 ^ 31 by omega), ix_nI (show l < 2 ^ 31 by omega), h.2.2 l hlc, nI_1, ne_eq, not_false_eq_true, and_self, and_true, true_and, and_false, false_and, true_or, or_true, false_or, or_false, not_true_eq_false, if_false, if_true]
  | succ k ih =>
    intro N l o hl hN
    obtain ⟨N, rfl⟩ : ∃ N1, N = N1 + 1 := ⟨N - 1, by omega⟩
    show f_X12_laysVotes_21b K (f_X12_laysVotes_21 K N) 225 (nI S) (nI l) m o = _
    unfold f_X12_laysVotes_21b
    rw [e_hasM (by omega) (by omega), if_neg (by rw [h0 l (by omega)]; decide)]
    simp (config := {decide := true}) only [bnd, f_X12_laysVotes_26, nI_1, ne_eq, not_false_eq_true, and_self, and_true, true_and, and_false, false_and, true_or, or_true, false_or, or_false, not_true_eq_false, if_false, if_true]
    exact ih N (l + 1) o (by omega) (by omega)
theorem l_lays {c : Nat} (hc : c ≤ 16) {vt : Nat → Nat} : ∀ (k N S : Nat) (m : Mm), lvM m c vt → S + k = 2 ^ c → 1 ≤ S → k < N → (∀ T, T < S → gI m 274 T = nI (vsN vt c T)) → ∃ m', (∀ o, f_X12_laysVotes_9 N 225 (nI S) m o = ((), m', o)) ∧ Fr (fun q _ => q = 274) m m' ∧ ∀ T, T < 2 ^ c → gI m' 274 T = nI (vsN vt c T) := by
  have hp : 2 ^ c ≤ 2 ^ 16 := Nat.pow_le_pow_right (by omega) hc
  intro k
  induction k with
  | zero =>
    intro N S m h hS h1 hN hT
    obtain ⟨N, rfl⟩ : ∃ N1, N = N1 + 1 := ⟨N - 1, by omega⟩
    refine ⟨m, fun o => ?_, Fr_refl _ _, fun T hh => hT T (by omega)⟩
    show f_X12_laysVotes_9b (f_X12_laysVotes_9 N) 225 (nI S) m o = _
    unfold f_X12_laysVotes_9b
    rw [h.2.1, shl1 hc, if_pos (nI_le (by omega) (by omega))]
    simp (config := {decide := true}) only [shT_225 h.1, ne_eq, not_false_eq_true, and_self, and_true, true_and, and_false, false_and, true_or, or_true, false_or, or_false, not_true_eq_false, if_false, if_true]
  | succ k ih =>
    intro N S m h hS h1 hN hT
    obtain ⟨N, rfl⟩ : ∃ N1, N = N1 + 1 := ⟨N - 1, by omega⟩
    obtain ⟨low, b1, b0⟩ := low_ex (show S ≠ 0 by omega)
    have hand : S &&& (S - 1) ≤ S - 1 := Nat.and_le_right
    have hlc := low_lt b1 (show S < 2 ^ c by omega)
    have hv := (vs_low vt b1 (low_and b1 b0) c).1
    rw [if_pos hlc] at hv
    have hval : gI m 274 (S &&& (S - 1)) + nI (vt low) = nI (vsN vt c S) := by
      rw [hT _ (by omega), nI_add, hv]
    obtain ⟨m', r1, r2, r3⟩ := ih N (S + 1) (sI m 274 S (nI (vsN vt c S))) ⟨Sh_sI h.1 _ _ _, by rw [gI_sI, if_neg (by omega)]; exact h.2.1, fun e he => by rw [gI_sI, if_neg (by omega)]; exact h.2.2 e he⟩ (by omega) (by omega) (by omega) (fun T hh => by
      rw [gI_sI]
      by_cases q : T = S
      · rw [if_pos ⟨rfl, q⟩, q]
      · rw [if_neg (fun z => q z.2)]
        exact hT T (by omega))
    refine ⟨m', fun o => ?_, Fr_trans (Fr_sI (P := fun q _ => q = 274) (Fr_refl _ m) (by rfl) _) r2, r3⟩
    show f_X12_laysVotes_9b (f_X12_laysVotes_9 N) 225 (nI S) m o = _
    unfold f_X12_laysVotes_9b
    rw [h.2.1, shl1 hc, if_neg (nI_ge (by omega) (by omega))]
    have hl := fun o => l_lays1 hc h (f_X12_laysVotes_9 N) (show S < 2 ^ c by omega) b1 b0 low 70000 0 o (by omega) (by omega)
    rw [nI_0, hval] at hl
    simp (config := {decide := true}) only [shT_225 h.1, hl, r1, ne_eq, not_false_eq_true, and_self, and_true, true_and, and_false, false_and, true_or, or_true, false_or, or_false, not_true_eq_false, if_false, if_true]
theorem e_lays {c : Nat} (hc : c ≤ 16) {vt : Nat → Nat} {m : Mm} (h : lvM m c vt) : ∃ m', (∀ o, F_X12_laysVotes 225 m o = ((), m', o)) ∧ Fr (fun q _ => q = 274) m m' ∧ ∀ T, T < 2 ^ c → gI m' 274 T = nI (vsN vt c T) := by
  have hp : 2 ^ c ≤ 2 ^ 16 := Nat.pow_le_pow_right (by omega) hc
  have hp0 : 0 < 2 ^ c := Nat.two_pow_pos c
  have z0 : ∀ k, vsN vt k 0 = 0 := fun k => by
    induction k with
    | zero => rfl
    | succ k ih =>
      show vsN vt k 0 + _ = 0
      rw [ih, Nat.zero_testBit]
      rfl
  obtain ⟨m', r1, r2, r3⟩ := l_lays hc (vt := vt) (2 ^ c - 1) 70000 1 (sI m 274 0 0) ⟨Sh_sI h.1 _ _ _, by rw [gI_sI, if_neg (by omega)]; exact h.2.1, fun e he => by rw [gI_sI, if_neg (by omega)]; exact h.2.2 e he⟩ (by omega) (by omega) (by omega) (fun T hT => by
    rw [gI_sI, if_pos ⟨rfl, by omega⟩, show T = 0 by omega, z0]
    rfl)
  refine ⟨m', fun o => ?_, Fr_trans (Fr_sI (P := fun q _ => q = 274) (Fr_refl _ m) (by rfl) _) r2, r3⟩
  have i1 : vp_in 0 65536 := vp_in_nI (n := 0) (by omega) (by omega)
  have x0 : ix 0 = 0 := ix_nI (i := 0) (by omega)
  have r1' : ∀ o, f_X12_laysVotes_9 70000 225 1 (sI m 274 0 0) o = ((), m', o) := r1
  simp (config := {decide := true}) only [F_X12_laysVotes, f_X12_laysVotes_0, f_X12_laysVotes_7, shT_225 h.1, shR_225_70 h.1, shT_274 h.1, shN_274 h.1, i1, x0, r1', ne_eq, not_false_eq_true, and_self, and_true, true_and, and_false, false_and, true_or, or_true, false_or, or_false, not_true_eq_false, if_false, if_true]
theorem l_size {c : Nat} (hc : c ≤ 16) (m : Mm) : ∀ (t N a S : Nat) (o : Prop), szN c S = t → S < 2 ^ c → t < N → f_X12_sizeOf_4 N (nI a) (nI S) m o = (nI (a + szN c S), m, o) := by
  have hp : 2 ^ c ≤ 2 ^ 16 := Nat.pow_le_pow_right (by omega) hc
  intro t
  induction t with
  | zero =>
    intro N a S o ht hS hN
    obtain ⟨N, rfl⟩ : ∃ N1, N = N1 + 1 := ⟨N - 1, by omega⟩
    have h0 : S = 0 := by
      by_cases q : S = 0
      · exact q
      · have := sz_pos hS q
        omega
    show f_X12_sizeOf_4b (f_X12_sizeOf_4 N) (nI a) (nI S) m o = _
    unfold f_X12_sizeOf_4b
    rw [if_pos (by rw [h0]; rfl), ht]
    rfl
  | succ t ih =>
    intro N a S o ht hS hN
    obtain ⟨N, rfl⟩ : ∃ N1, N = N1 + 1 := ⟨N - 1, by omega⟩
    have h0 : S ≠ 0 := fun z => by
      have : ∀ k, szN k 0 = 0 := fun k => by
        induction k with
        | zero => rfl
        | succ k ih =>
          show szN k 0 + _ = 0
          rw [ih, Nat.zero_testBit]
          rfl
      rw [z, this] at ht
      omega
    obtain ⟨l, b1, b0⟩ := low_ex h0
    have hv := (vs_low (fun _ => 0) b1 (low_and b1 b0) c).2
    rw [if_pos (low_lt b1 hS)] at hv
    have hand : S &&& (S - 1) ≤ S - 1 := Nat.and_le_right
    have n0 : ¬ nI S = 0 := fun z => h0 ((nI_eq (b := 0) (by omega) (by omega)).mp z)
    show f_X12_sizeOf_4b (f_X12_sizeOf_4 N) (nI a) (nI S) m o = _
    unfold f_X12_sizeOf_4b
    rw [if_neg n0, nI_1, nI_sub1 (by omega), nx_and, ih N (a + 1) (S &&& (S - 1)) o (by omega) (by omega) (by omega), hv, show a + 1 + szN c (S &&& (S - 1)) = a + (szN c (S &&& (S - 1)) + 1) by omega]
theorem e_sizeM {c : Nat} (hc : c ≤ 16) (m : Mm) {S : Nat} (hS : S < 2 ^ c) (o : Prop) : F_X12_sizeOf (nI S) m o = (nI (szN c S), m, o) := by
  have hz := sz_le c S
  have h := l_size hc m (szN c S) 1000 0 S o rfl hS (by omega)
  rw [Nat.zero_add] at h
  exact h
/-- what a set counts, as the other side asks -/
def gS' (d c x : Nat) (vt : Nat → Nat) (S : Nat) : Nat := if x < c ∧ S.testBit x = true then 0 else swF d (vt x) (c + 8 * c9 vt c) (c - 1) (0 + vsN vt c S) (0 + szN c S)
theorem gS_dbl {d c x : Nat} {vt : Nat → Nat} (hv : ∀ e, e < c → vt e = 1 ∨ vt e = 9) : sN (gS' d c x vt) (2 ^ c) = dbl (swF d (vt x) (c + 8 * c9 vt c) (c - 1)) (bulN vt x c) (cowN vt x c) 0 0 := by
  rw [← subs_dbl vt x _ c 0 0 hv, ← sets_subs vt x _ c 0 0]
  rfl
/-- all that isSwing needs -/
def swM (m : Mm) (c : Nat) (vt : Nat → Nat) : Prop := lvM m c vt ∧ ∀ T, T < 2 ^ c → gI m 274 T = nI (vsN vt c T)
def isSw (c x : Nat) (vt : Nat → Nat) (S : Nat) : Prop := ¬ S.testBit x = true ∧ 2 * vsN vt c S ≤ c + 8 * c9 vt c ∧ c + 8 * c9 vt c < 2 * (vsN vt c S + vt x)
theorem e_isSwing {c x : Nat} (hc : c ≤ 16) (hx : x < c) {vt : Nat → Nat} (hv : ∀ e, e < c → vt e = 1 ∨ vt e = 9) {m : Mm} (h : swM m c vt) {S : Nat} (hS : S < 2 ^ c) : (isSw c x vt S → ∀ o, F_X12_isSwing 225 (nI S) (nI x) m o = (1, m, o)) ∧ (¬ isSw c x vt S → ∀ o, F_X12_isSwing 225 (nI S) (nI x) m o = (0, m, o)) := by
  have hp : 2 ^ c ≤ 2 ^ 16 := Nat.pow_le_pow_right (by omega) hc
  have hp0 : 0 < 2 ^ c := Nat.two_pow_pos c
  have hA : gI m 274 (2 ^ c - 1) = nI (c + 8 * c9 vt c) := by rw [h.2 _ (by omega), vs_all vt c c (Nat.le_refl _) hv]
  have i1 : vp_in (nI S) 65536 := vp_in_nI (by omega) (by omega)
  have i2 : vp_in (nI (2 ^ c - 1)) 65536 := vp_in_nI (by omega) (by omega)
  have i3 : vp_in (nI x) 16 := vp_in_nI (by omega) (by omega)
  have hvs := vs_le (vt := vt) (c := c) (fun e he => by have := hv e he; omega) S
  have hvx := hv x hx
  have hc9 := c9_le vt c
  have e2 : ∀ v, (2 : Int32) * nI v = nI (2 * v) := fun v => (show (2 : Int32) * nI (v) = nI (2 * v) by rw [show (2 : Int32) = nI 2 from rfl, pk_mul])
  have c1 : (nI (c + 8 * c9 vt c) < nI (2 * vsN vt c S)) = (c + 8 * c9 vt c < 2 * vsN vt c S) := propext (nI_ltI (by omega) (by omega))
  have c2 : (nI (2 * (vsN vt c S + vt x)) ≤ nI (c + 8 * c9 vt c)) = (2 * (vsN vt c S + vt x) ≤ c + 8 * c9 vt c) := propext (nI_leI (by omega) (by omega))
  have base : ∀ o, F_X12_isSwing 225 (nI S) (nI x) m o = f_X12_isSwing_19 225 (nI S) (nI x) (nI (c + 8 * c9 vt c)) (if S.testBit x = true then 1 else 0) m o := fun o => by
    simp (config := {decide := true}) only [F_X12_isSwing, f_X12_isSwing_0, shT_225 h.1.1, shR_225_70 h.1.1, shT_274 h.1.1, shN_274 h.1.1, h.1.2.1, shl1 hc, nI_sub1 hp0, i2, ix_nI (show 2 ^ c - 1 < 2 ^ 31 by omega), hA, e_hasM (show S < 2 ^ 16 by omega) (show x < 32 by omega), bnd, ne_eq, not_false_eq_true, and_self, and_true, true_and, and_false, false_and, true_or, or_true, false_or, or_false, not_true_eq_false, if_false, if_true]
  have cse : ∀ o, f_X12_isSwing_19 225 (nI S) (nI x) (nI (c + 8 * c9 vt c)) (if S.testBit x = true then 1 else 0) m o = if S.testBit x = true then (0, m, o) else if c + 8 * c9 vt c < 2 * vsN vt c S then (0, m, o) else if 2 * (vsN vt c S + vt x) ≤ c + 8 * c9 vt c then (0, m, o) else (1, m, o) := fun o => by
    by_cases q : S.testBit x = true
    · rw [if_pos q, if_pos q]
      simp (config := {decide := true}) only [f_X12_isSwing_19, f_X12_isSwing_57, f_X12_isSwing_58, ne_eq, not_false_eq_true, and_self, and_true, true_and, and_false, false_and, true_or, or_true, false_or, or_false, not_true_eq_false, if_false, if_true]
    · rw [if_neg q, if_neg q]
      simp (config := {decide := true}) only [f_X12_isSwing_19, f_X12_isSwing_57, f_X12_isSwing_58, shT_225 h.1.1, shR_225_70 h.1.1, shR_225_16 h.1.1, shT_274 h.1.1, shN_274 h.1.1, shT_235 h.1.1, shN_235 h.1.1, i1, i3, ix_nI (show S < 2 ^ 31 by omega), ix_nI (show x < 2 ^ 31 by omega), h.2 S hS, h.1.2.2 x hx, nI_add, e2, c1, c2, ne_eq, not_false_eq_true, and_self, and_true, true_and, and_false, false_and, true_or, or_true, false_or, or_false, not_true_eq_false, if_false, if_true]
  constructor
  · rintro ⟨s1, s2, s3⟩ o
    rw [base, cse, if_neg s1, if_neg (by omega), if_neg (by omega)]
  · intro hn o
    rw [base, cse]
    by_cases q : S.testBit x = true
    · rw [if_pos q]
    · rw [if_neg q]
      by_cases q1 : c + 8 * c9 vt c < 2 * vsN vt c S
      · rw [if_pos q1]
      · rw [if_neg q1]
        by_cases q2 : 2 * (vsN vt c S + vt x) ≤ c + 8 * c9 vt c
        · rw [if_pos q2]
        · exact absurd ⟨q, by omega, by omega⟩ hn
theorem gS_sw {d c x : Nat} (hx : x < c) (vt : Nat → Nat) (S : Nat) : (isSw c x vt S → gS' d c x vt S = if d = 0 then 1 else fac (szN c S) * fac (c - 1 - szN c S)) ∧ (¬ isSw c x vt S → gS' d c x vt S = 0) := by
  constructor
  · rintro ⟨s1, s2, s3⟩
    unfold gS' swF
    rw [if_neg (fun z => s1 z.2), Nat.zero_add, Nat.zero_add, if_pos ⟨s2, s3⟩]
  · intro hn
    unfold gS' swF
    by_cases q : S.testBit x = true
    · rw [if_pos ⟨hx, q⟩]
    · rw [if_neg (fun z => q z.2), Nat.zero_add, Nat.zero_add, if_neg (fun z => hn ⟨q, z.1, z.2⟩)]
theorem l_powerM {c x : Nat} (hc : c ≤ 16) (hx : x < c) {vt : Nat → Nat} (hv : ∀ e, e < c → vt e = 1 ∨ vt e = 9) {m : Mm} (h : swM m c vt) : ∀ (k N S : Nat) (o : Prop), S + k = 2 ^ c → k < N → f_X12_power_18 N 225 (nI x) (nI (sN (gS' 0 c x vt) S)) (nI S) m o = (nI (sN (gS' 0 c x vt) (2 ^ c)), m, o) := by
  have hp : 2 ^ c ≤ 2 ^ 16 := Nat.pow_le_pow_right (by omega) hc
  intro k
  induction k with
  | zero =>
    intro N S o hS hN
    obtain ⟨N, rfl⟩ : ∃ N1, N = N1 + 1 := ⟨N - 1, by omega⟩
    show f_X12_power_18b (f_X12_power_18 N) 225 (nI x) _ (nI S) m o = _
    unfold f_X12_power_18b
    rw [h.1.2.1, shl1 hc, if_pos (nI_le (by omega) (by omega)), show S = 2 ^ c by omega]
    simp (config := {decide := true}) only [shT_225 h.1.1, ne_eq, not_false_eq_true, and_self, and_true, true_and, and_false, false_and, true_or, or_true, false_or, or_false, not_true_eq_false, if_false, if_true]
  | succ k ih =>
    intro N S o hS hN
    obtain ⟨N, rfl⟩ : ∃ N1, N = N1 + 1 := ⟨N - 1, by omega⟩
    show f_X12_power_18b (f_X12_power_18 N) 225 (nI x) _ (nI S) m o = _
    have step := ih N (S + 1) o (by omega) (by omega)
    have hs : sN (gS' 0 c x vt) (S + 1) = sN (gS' 0 c x vt) S + gS' 0 c x vt S := rfl
    rw [hs] at step
    obtain ⟨w1, w2⟩ := e_isSwing hc hx hv h (show S < 2 ^ c by omega)
    obtain ⟨g1, g2⟩ := gS_sw (d := 0) hx vt S
    unfold f_X12_power_18b
    rw [h.1.2.1, shl1 hc, if_neg (nI_ge (by omega) (by omega))]
    by_cases q : isSw c x vt S
    · rw [g1 q, if_pos rfl] at step
      simp (config := {decide := true}) only [shT_225 h.1.1, w1 q, bnd, f_X12_power_35, f_X12_power_43, nI_1, ne_eq, not_false_eq_true, and_self, and_true, true_and, and_false, false_and, true_or, or_true, false_or, or_false, not_true_eq_false, if_false, if_true]
      exact step
    · rw [g2 q] at step
      simp (config := {decide := true}) only [shT_225 h.1.1, w2 q, bnd, f_X12_power_35, f_X12_power_43, nI_1, Int32.add_zero, ne_eq, not_false_eq_true, and_self, and_true, true_and, and_false, false_and, true_or, or_true, false_or, or_false, not_true_eq_false, if_false, if_true]
      exact step
