/-! ===== the class's reader, small things ===== -/
/-- the reader at work on the law at w: n signs, s -/
def CB (m : Mm) (w n : Nat) (s : Nat → Nat) : Prop := Sh m ∧ isW w ∧ gR m 193 1 = w ∧ gI m 193 2 = nI n ∧ n ≤ 200 ∧ (∀ x, x < n → gI m 192 x = nI (s x) ∧ s x < 256) ∧ ∀ x, n ≤ x → s x = 0
/-- what reading may change, instructions from z on -/
def cfP (w z q i : Nat) : Prop := (q = 193 ∧ (i = 3 ∨ i = 4)) ∨ (q = w ∧ i = 9) ∨ ((q = w + 1 ∨ q = w + 2) ∧ z ≤ i)
theorem cfP_le {w z z' q i : Nat} (h : z ≤ z') (hp : cfP w z' q i) : cfP w z q i := by unfold cfP at *; omega
theorem CB_Fr {m m' : Mm} {w n z : Nat} {s : Nat → Nat} (h : CB m w n s) (hF : Fr (cfP w z) m m') : CB m' w n s := by
  obtain ⟨h1, h2, h3, h4, h5, h6, h7⟩ := h
  refine ⟨Fr_Sh hF h1, h2, by rw [Fr_R hF]; exact h3, ?_, h5, fun x hx => ?_, h7⟩
  · rw [Fr_at hF (by unfold cfP; rcases h2 with rfl | rfl <;> omega)]; exact h4
  · rw [Fr_at hF (by unfold cfP; rcases h2 with rfl | rfl <;> omega)]; exact h6 x hx
/-- the sign as the class has it -/
def sgv (n : Nat) (s : Nat → Nat) (a : Nat) : Int32 := if a < n then nI (s a) else -1
theorem sg_eq {m : Mm} {w n : Nat} {s : Nat → Nat} (h : CB m w n s) (a : Nat) {ch : Nat} (h0 : 0 < ch) (h1 : ch < 256) : (sgv n s a = nI ch) = (s a = ch) := by
  unfold sgv
  by_cases q : a < n
  · rw [if_pos q]
    have := (h.2.2.2.2.2.1 a q).2
    exact propext (nI_eq (by omega) (by omega))
  · rw [if_neg q, h.2.2.2.2.2.2 a (by omega)]
    exact propext ⟨fun z => absurd z.symm (nI_ne_m1 (by omega)), fun z => by omega⟩
theorem e_sign {m : Mm} {w n : Nat} {s : Nat → Nat} (h : CB m w n s) {a : Nat} (ha : a ≤ n) (h3 : gI m 193 3 = nI a) (o : Prop) : F_X4_sign 193 m o = (sgv n s a, m, o) := by
  obtain ⟨hS, hw, hr, h2, hn, ht, -⟩ := h
  unfold F_X4_sign f_X4_sign_0 f_X4_sign_36 f_X4_sign_37 sgv
  rw [h2, h3]
  by_cases q : a < n
  · have i1 : vp_in (nI a) 220 := vp_in_nI (by omega) (by omega)
    rw [if_neg (nI_ge q (by omega)), if_neg (show ¬ (220 : Int32) ≤ nI (a) from nI_ge (a := a) (b := 220) (by omega) (by omega)), if_pos q]
    simp (config := {decide := true}) only [shT_193 hS, shR_193_0 hS, shT_191 hS, shR_191_0 hS, shT_192 hS, shN_192 hS, i1, ix_nI (show a < 2 ^ 31 by omega), (ht a q).1, ne_eq, not_false_eq_true, and_self, and_true, true_and, and_false, false_and, true_or, or_true, false_or, or_false, not_true_eq_false, if_false, if_true]
  · rw [if_pos (nI_le (by omega) (by omega)), if_neg q]
    simp (config := {decide := true}) only [shT_193 hS, ne_eq, not_false_eq_true, and_self, and_true, true_and, and_false, false_and, true_or, or_true, false_or, or_false, not_true_eq_false, if_false, if_true]
theorem e_fail {m : Mm} (h : Sh m) (f : Int32) (o : Prop) : F_X4_fail 193 f m o = (0, sI m 193 4 f, o) := by
  simp (config := {decide := true}) only [F_X4_fail, f_X4_fail_0, f_X4_fail_5, shT_193 h, ne_eq, not_false_eq_true, and_self, and_true, true_and, and_false, false_and, true_or, or_true, false_or, or_false, not_true_eq_false, if_false, if_true]
theorem e_add {m : Mm} (h : Sh m) {w : Nat} (hw : isW w) {z : Nat} (hz : z < 200) (h9 : gI m w 9 = nI z) (op arg : Int32) (o : Prop) : F_X3_add w op arg m o = ((), sI (sI (sI m (w + 1) z op) (w + 2) z arg) w 9 (nI (z + 1)), o) := by
  obtain ⟨t0, r0, r1, -⟩ := w_sh h hw
  obtain ⟨T1, T2, -⟩ := w_T h hw
  obtain ⟨N1, N2, -⟩ := w_N h hw
  have i1 : vp_in (nI z) 200 := vp_in_nI (by omega) (by omega)
  have a1 : ¬ w + 1 = 0 := by omega
  have a2 : ¬ w + 2 = 0 := by omega
  have b1 : ¬ (w = w + 1 ∧ 9 = z) := by omega
  have b2 : ¬ (w = w + 2 ∧ 9 = z) := by omega
  unfold F_X3_add f_X3_add_0
  rw [h9, if_neg (show ¬ (200 : Int32) ≤ nI (z) from nI_ge (a := z) (b := 200) (by omega) (by omega))]
  simp (config := {decide := true}) only [f_X3_add_20, f_X3_add_30, f_X3_add_40, gT_sI, gN_sI, gR_sI, gI_sI, if_neg b1, if_neg b2, t0, r0, r1, T1, T2, N1, N2, h9, i1, a1, a2, ix_nI (show z < 2 ^ 31 by omega), nI_1, ne_eq, not_false_eq_true, and_self, and_true, true_and, and_false, false_and, true_or, or_true, false_or, or_false, not_true_eq_false, if_false, if_true]
/-- adding where it is no matter what -/
theorem e_add0 {m : Mm} (h : Sh m) {w z0 : Nat} (hw : isW w) {z : Nat} (hz : z ≤ 200) (hz0 : z0 ≤ z) (h9 : gI m w 9 = nI z) (op arg : Int32) : ∃ m', (∀ o, F_X3_add w op arg m o = ((), m', o)) ∧ Fr (cfP w z0) m m' ∧ (∀ i, gI m' 193 i = gI m 193 i) ∧ ∃ z', z' ≤ 200 ∧ z0 ≤ z' ∧ gI m' w 9 = nI z' := by
  obtain ⟨t0, -⟩ := w_sh h hw
  by_cases q : z < 200
  · refine ⟨_, e_add h hw q h9 op arg, Fr_sI (Fr_sI (Fr_sI (Fr_refl _ m) (by unfold cfP; omega) _) (by unfold cfP; omega) _) (by unfold cfP; omega) _, fun i => ?_, z + 1, by omega, by omega, by rw [gI_sI, if_pos ⟨rfl, rfl⟩]⟩
    rcases hw with rfl | rfl
    · rw [gI_sI, if_neg (by omega), gI_sI, if_neg (by omega), gI_sI, if_neg (by omega)]
    · rw [gI_sI, if_neg (by omega), gI_sI, if_neg (by omega), gI_sI, if_neg (by omega)]
  · refine ⟨m, fun o => ?_, Fr_refl _ _, fun i => rfl, z, hz, hz0, h9⟩
    unfold F_X3_add f_X3_add_0 f_X3_add_40
    rw [h9, if_pos (show (200 : Int32) ≤ nI z from nI_le (a := 200) (by omega) (by omega))]
    simp (config := {decide := true}) only [t0, ne_eq, not_false_eq_true, and_self, and_true, true_and, and_false, false_and, true_or, or_true, false_or, or_false, not_true_eq_false, if_false, if_true]
theorem e_isDigit {m0 : Mm} {w n : Nat} {s : Nat → Nat} (h : CB m0 w n s) (a : Nat) (m : Mm) (o : Prop) : (isDg (s a) → F_X4_isDigit (sgv n s a) m o = (1, m, o)) ∧ (¬ isDg (s a) → F_X4_isDigit (sgv n s a) m o = (0, m, o)) := by
  unfold F_X4_isDigit f_X4_isDigit_0 f_X4_isDigit_16 f_X4_isDigit_17 sgv isDg
  by_cases q : a < n
  · have hs := (h.2.2.2.2.2.1 a q).2
    rw [if_pos q]
    have c1 : (nI (s a) < 48) = (s a < 48) := propext (nI_ltI (b := 48) (by omega) (by omega))
    have c2 : ((57 : Int32) < nI (s a)) = (57 < s a) := propext (nI_ltI (a := 57) (by omega) (by omega))
    simp only [c1, c2]
    refine ⟨fun z => ?_, fun z => ?_⟩
    · rw [if_neg (by omega), if_neg (by omega)]
      simp (config := {decide := true}) only [ne_eq, not_false_eq_true, and_self, and_true, true_and, and_false, false_and, true_or, or_true, false_or, or_false, not_true_eq_false, if_false, if_true]
    · by_cases q1 : s a < 48
      · rw [if_pos q1]
        simp (config := {decide := true}) only [ne_eq, not_false_eq_true, and_self, and_true, true_and, and_false, false_and, true_or, or_true, false_or, or_false, not_true_eq_false, if_false, if_true]
      · rw [if_neg q1, if_pos (by omega)]
        simp (config := {decide := true}) only [ne_eq, not_false_eq_true, and_self, and_true, true_and, and_false, false_and, true_or, or_true, false_or, or_false, not_true_eq_false, if_false, if_true]
  · rw [if_neg q, h.2.2.2.2.2.2 a (by omega)]
    refine ⟨fun z => by omega, fun _ => ?_⟩
    rw [if_pos (by decide)]
    simp (config := {decide := true}) only [ne_eq, not_false_eq_true, and_self, and_true, true_and, and_false, false_and, true_or, or_true, false_or, or_false, not_true_eq_false, if_false, if_true]
theorem e_expect {m : Mm} {w n : Nat} {s : Nat → Nat} (h : CB m w n s) {a : Nat} (ha : a ≤ n) (h3 : gI m 193 3 = nI a) {ch : Nat} (h0 : 0 < ch) (h1 : ch < 256) : (s a = ch → ∀ o, F_X4_expect 193 (nI ch) m o = (1, sI m 193 3 (nI (a + 1)), o)) ∧ (¬ s a = ch → ∀ o, F_X4_expect 193 (nI ch) m o = (0, sI m 193 4 1, o)) := by
  have hS := h.1
  have e := sg_eq h a h0 h1
  refine ⟨fun q o => ?_, fun q o => ?_⟩
  · have q' : sgv n s a = nI ch := by rw [e]; exact q
    simp (config := {decide := true}) only [F_X4_expect, f_X4_expect_0, e_sign h ha h3, bnd, f_X4_expect_4, q', f_X4_expect_24, h3, nI_1, shT_193 hS, ne_eq, not_false_eq_true, and_self, and_true, true_and, and_false, false_and, true_or, or_true, false_or, or_false, not_true_eq_false, if_false, if_true]
  · have q' : ¬ sgv n s a = nI ch := by rw [e]; exact q
    simp (config := {decide := true}) only [F_X4_expect, f_X4_expect_0, e_sign h ha h3, bnd, f_X4_expect_4, q', e_fail hS, f_X4_expect_13, shT_193 hS, ne_eq, not_false_eq_true, and_self, and_true, true_and, and_false, false_and, true_or, or_true, false_or, or_false, not_true_eq_false, if_false, if_true]
/-! the letters -/
theorem idx_step (N : Nat) (b : Int32) {i : Nat} (hi : i < 10) (m : Mm) (o : Prop) : f_J1_indexOfChar_4cfef_7 (N + 1) 10 b (nI i) m o = if lby.getD i 0 = b then (nI i, m, o) else f_J1_indexOfChar_4cfef_7 N 10 b (nI (i + 1)) m o := by
  have i1 : vp_in (nI i) 10 := vp_in_nI (by omega) (by omega)
  show f_J1_indexOfChar_4cfef_7b (f_J1_indexOfChar_4cfef_7 N) 10 b (nI i) m o = _
  unfold f_J1_indexOfChar_4cfef_7b
  rw [if_neg (show ¬ (10 : Int32) ≤ nI (i) from nI_ge (a := i) (b := 10) (by omega) (by omega))]
  simp (config := {decide := true}) only [ix_nI (show i < 2 ^ 31 by omega), i1, nI_1, ne_eq, not_false_eq_true, and_self, and_true, true_and, and_false, false_and, true_or, or_true, false_or, or_false, not_true_eq_false, if_false, if_true]
def gIx (b : Int32) : Int32 := if 104 = b then 0 else if 118 = b then 1 else if 119 = b then 2 else if 120 = b then 3 else if 107 = b then 4 else if 115 = b then 5 else if 116 = b then 6 else if 100 = b then 7 else if 98 = b then 8 else if 117 = b then 9 else -1
theorem idx_all (b : Int32) (m : Mm) (o : Prop) : f_J1_indexOfChar_4cfef_7 1000 10 b (nI 0) m o = (gIx b, m, o) := by
  have fin : f_J1_indexOfChar_4cfef_7 990 10 b (nI 10) m o = (-1, m, o) := by
    show f_J1_indexOfChar_4cfef_7b (f_J1_indexOfChar_4cfef_7 989) 10 b (nI 10) m o = _
    unfold f_J1_indexOfChar_4cfef_7b
    rw [if_pos (by decide)]
  rw [idx_step 999 b (by omega), idx_step 998 b (by omega), idx_step 997 b (by omega), idx_step 996 b (by omega), idx_step 995 b (by omega), idx_step 994 b (by omega), idx_step 993 b (by omega), idx_step 992 b (by omega), idx_step 991 b (by omega), idx_step 990 b (by omega), fin]
  have e0 : lby.getD 0 0 = 104 := rfl
  have e1 : lby.getD (0 + 1) 0 = 118 := rfl
  have e2 : lby.getD (0 + 1 + 1) 0 = 119 := rfl
  have e3 : lby.getD (0 + 1 + 1 + 1) 0 = 120 := rfl
  have e4 : lby.getD (0 + 1 + 1 + 1 + 1) 0 = 107 := rfl
  have e5 : lby.getD (0 + 1 + 1 + 1 + 1 + 1) 0 = 115 := rfl
  have e6 : lby.getD (0 + 1 + 1 + 1 + 1 + 1 + 1) 0 = 116 := rfl
  have e7 : lby.getD (0 + 1 + 1 + 1 + 1 + 1 + 1 + 1) 0 = 100 := rfl
  have e8 : lby.getD (0 + 1 + 1 + 1 + 1 + 1 + 1 + 1 + 1) 0 = 98 := rfl
  have e9 : lby.getD (0 + 1 + 1 + 1 + 1 + 1 + 1 + 1 + 1 + 1) 0 = 117 := rfl
  rw [e0, e1, e2, e3, e4, e5, e6, e7, e8, e9]
  unfold gIx
  repeat' split
  all_goals rfl
theorem gIx_lix : ∀ c, c < 256 → gIx (Int8.toInt32 (Int32.toInt8 (nI c))) = if lix c < 10 then nI (lix c) else -1 := by decide +kernel
theorem e_index {c : Nat} (hc : c < 256) (m : Mm) (o : Prop) : F_J0_indexOf_0f7a4 (UInt32.toInt32 (Int32.toUInt32 (nI c) % 65536)) m o = (if lix c < 10 then nI (lix c) else -1, m, o) := by
  have e1 : UInt32.toInt32 (Int32.toUInt32 (nI c) % 65536) = nI c := by
    rw [pk_char, pk_tn (by omega), Nat.mod_eq_of_lt (by omega)]
  have c1 : ¬ nI c < 0 := fun z => absurd ((nI_ltI (b := 0) (by omega) (by omega)).mp z) (by omega)
  have c2 : ¬ (255 : Int32) < nI c := fun z => absurd ((nI_ltI (a := 255) (by omega) (by omega)).mp z) (by omega)
  have h10 : (10 : Int32) >>> ((0 : Int32) &&& 31) = 10 := by decide
  have ia := idx_all (Int8.toInt32 (Int32.toInt8 (nI c)))
  rw [nI_0, gIx_lix c hc] at ia
  rw [e1]
  simp (config := {decide := true}) only [F_J0_indexOf_0f7a4, f_J0_indexOf_0f7a4_0, F_J0_indexOf_7cf53, f_J0_indexOf_7cf53_0, F_J0_isLatin1_aae02, f_J0_isLatin1_aae02_0, f_J0_isLatin1_aae02_17, f_J0_isLatin1_aae02_18, bnd, f_J0_indexOf_7cf53_4, F_J0_length_8abf5, f_J0_length_8abf5_0, F_J0_coder_7d493, f_J0_coder_7d493_0, f_J0_coder_7d493_14, f_J0_length_8abf5_9, h10, f_J0_indexOf_7cf53_17, F_J1_indexOf_4cfef, f_J1_indexOf_4cfef_0, F_J1_canEncode_9a6ad, f_J1_canEncode_9a6ad_0, f_J1_canEncode_9a6ad_15, f_J1_canEncode_9a6ad_16, c1, c2, f_J1_indexOf_4cfef_4, F_J1_indexOfChar_4cfef, f_J1_indexOfChar_4cfef_0, ia, f_J1_indexOf_4cfef_36, f_J0_indexOf_7cf53_20, f_J0_indexOf_7cf53_36, f_J0_indexOf_0f7a4_6, ne_eq, not_false_eq_true, and_self, and_true, true_and, and_false, false_and, true_or, or_true, false_or, or_false, not_true_eq_false, if_false, if_true]
theorem sI_twice (m : Mm) (q i : Nat) (v u : Int32) : sI (sI m q i v) q i u = sI m q i u := by
  rw [sI_u (sI m q i v), sI_u m q i u, uI_sI]
  refine uI_ext (fun a b => ?_)
  by_cases z : a = q ∧ b = i
  · rw [if_pos z, if_pos z]
  · rw [if_neg z, if_neg z, gI_sI, if_neg z]
theorem sI_self {m : Mm} {q i : Nat} {v : Int32} (h : gI m q i = v) : sI m q i v = m := by
  rw [sI_u]
  have : (fun a b => if a = q ∧ b = i then v else gI m a b) = (fun a b => gI m a b) := by
    funext a b
    by_cases z : a = q ∧ b = i
    · rw [if_pos z, z.1, z.2, h]
    · rw [if_neg z]
  rw [this, uI_self]
/-! a number: digits read -/
theorem l_number {w n : Nat} {s : Nat → Nat} : ∀ (r N v a : Nat) (m : Mm), CB m w n s → a ≤ n → gI m 193 3 = nI a → r ≤ 5 → r + 1 < N → (∀ e, sDg s r v a = .inl e → ∀ o, f_X4_number_4 N 193 (nI v) (nI (5 - r)) m o = (0, sI (sI m 193 3 (nI e.2)) 193 4 (nI e.1), o)) ∧ (∀ q, sDg s r v a = .inr q → ∀ o, f_X4_number_4 N 193 (nI v) (nI (5 - r)) m o = f_X4_number_59 193 (nI q.2) (sI m 193 3 (nI q.1)) o) := by
  intro r
  induction r with
  | zero =>
    intro N v a m h ha h3 hr hN
    obtain ⟨N, rfl⟩ : ∃ N1, N = N1 + 1 := ⟨N - 1, by omega⟩
    have hS := h.1
    have dd := fun o => e_isDigit h a m o
    unfold sDg
    by_cases c : isDg (s a)
    · rw [iT_pos c]
      refine ⟨fun e z o => ?_, fun q z => by cases z⟩
      cases z
      show f_X4_number_4b (f_X4_number_4 N) 193 (nI v) (nI (5 - 0)) m o = _
      unfold f_X4_number_4b
      rw [if_neg (by decide), e_sign h ha h3, bnd_mk]
      unfold f_X4_number_13
      rw [(dd _).1 c, bnd_mk]
      unfold f_X4_number_16
      rw [if_neg (by decide), if_pos (by decide), e_fail hS, bnd_mk]
      unfold f_X4_number_29
      rw [sI_self h3]
      simp (config := {decide := true}) only [shT_193 hS, ne_eq, not_false_eq_true, and_self, and_true, true_and, and_false, false_and, true_or, or_true, false_or, or_false, not_true_eq_false, if_false, if_true]
      rfl
    · rw [iT_neg c]
      refine ⟨fun e z => (by cases z), fun q z o => ?_⟩
      cases z
      show f_X4_number_4b (f_X4_number_4 N) 193 (nI v) (nI (5 - 0)) m o = _
      unfold f_X4_number_4b
      rw [if_neg (by decide), e_sign h ha h3, bnd_mk]
      unfold f_X4_number_13
      rw [(dd _).2 c, bnd_mk]
      unfold f_X4_number_16
      rw [if_pos rfl, sI_self h3]
      simp (config := {decide := true}) only [shT_193 hS, ne_eq, not_false_eq_true, and_self, and_true, true_and, and_false, false_and, true_or, or_true, false_or, or_false, not_true_eq_false, if_false, if_true]
  | succ r ih =>
    intro N v a m h ha h3 hr hN
    obtain ⟨N, rfl⟩ : ∃ N1, N = N1 + 1 := ⟨N - 1, by omega⟩
    have hS := h.1
    have dd := fun o => e_isDigit h a m o
    have n5 : ¬ nI (5 - (r + 1)) = 5 := fun z => absurd ((nI_eq (b := 5) (by omega) (by omega)).mp z) (by omega)
    have l5 : ¬ (5 : Int32) < nI (5 - (r + 1)) := fun z => absurd ((nI_ltI (a := 5) (by omega) (by omega)).mp z) (by omega)
    unfold sDg
    by_cases c : isDg (s a)
    · rw [iT_pos c]
      have han : a < n := lt_of_sg h.2.2.2.2.2.2 (by unfold isDg at c; omega)
      have val : (10 : Int32) * nI v + sgv n s a - 48 = nI (10 * v + s a - 48) := by
        unfold sgv
        rw [if_pos han, (show (10 : Int32) * nI (v) = nI (10 * v) by rw [show (10 : Int32) = nI 10 from rfl, pk_mul]), nI_add]
        exact pk_sub (b := 48) (by unfold isDg at c; omega)
      have hF : Fr (cfP w 0) m (sI m 193 3 (nI (a + 1))) := Fr_sI (Fr_refl _ m) (.inl ⟨rfl, .inl rfl⟩) _
      obtain ⟨i1, i2⟩ := ih N (10 * v + s a - 48) (a + 1) (sI m 193 3 (nI (a + 1))) (CB_Fr h hF) han (by rw [gI_sI, if_pos ⟨rfl, rfl⟩]) (by omega) (by omega)
      have base : ∀ o, f_X4_number_4 (N + 1) 193 (nI v) (nI (5 - (r + 1))) m o = f_X4_number_4 N 193 (nI (10 * v + s a - 48)) (nI (5 - r)) (sI m 193 3 (nI (a + 1))) o := fun o => by
        show f_X4_number_4b (f_X4_number_4 N) 193 (nI v) (nI (5 - (r + 1))) m o = _
        unfold f_X4_number_4b
        rw [if_neg l5, e_sign h ha h3, bnd_mk]
        unfold f_X4_number_13
        rw [(dd _).1 c, bnd_mk]
        unfold f_X4_number_16
        rw [if_neg (by decide), if_neg n5, e_sign h ha h3, bnd_mk]
        unfold f_X4_number_38 f_X4_number_53
        rw [val, h3, nI_1, nI_1, show 5 - (r + 1) + 1 = 5 - r by omega]
        simp (config := {decide := true}) only [shT_193 hS, ne_eq, not_false_eq_true, and_self, and_true, true_and, and_false, false_and, true_or, or_true, false_or, or_false, not_true_eq_false, if_false, if_true]
      refine ⟨fun e z o => ?_, fun q z o => ?_⟩
      · rw [base, i1 e z, sI_twice]
      · rw [base, i2 q z, sI_twice]
    · rw [iT_neg c]
      refine ⟨fun e z => (by cases z), fun q z o => ?_⟩
      cases z
      show f_X4_number_4b (f_X4_number_4 N) 193 (nI v) (nI (5 - (r + 1))) m o = _
      unfold f_X4_number_4b
      rw [if_neg l5, e_sign h ha h3, bnd_mk]
      unfold f_X4_number_13
      rw [(dd _).2 c, bnd_mk]
      unfold f_X4_number_16
      rw [if_pos rfl, sI_self h3]
      simp (config := {decide := true}) only [shT_193 hS, ne_eq, not_false_eq_true, and_self, and_true, true_and, and_false, false_and, true_or, or_true, false_or, or_false, not_true_eq_false, if_false, if_true]
