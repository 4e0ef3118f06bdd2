/-! ===== the other side sets aside, puts back (printed by a program of ours) ===== -/
theorem l_sa_2 {m0 : Mm} (h0 : Sh m0) {k : Nat} (hk : k ≤ 1) (r : Mm → Prop → Unit × Mm × Prop) (hr : ∀ m o, f_X12_setsAside_135 1000 225 (nI k) 0 m o = r m o) : ∀ (c N j : Nat) (m : Mm), j + c = 12 → c < N → Fr (fun q i => 257 ≤ q ∧ q ≤ 263 ∧ 12 * k ≤ i ∧ i < 12 * k + j) m0 m → (∀ x, x < j → gI m 257 (12 * k + x) = gI m0 227 x ∧ gI m 258 (12 * k + x) = gI m0 228 x ∧ gI m 259 (12 * k + x) = gI m0 229 x ∧ gI m 260 (12 * k + x) = gI m0 230 x ∧ gI m 261 (12 * k + x) = gI m0 231 x ∧ gI m 262 (12 * k + x) = gI m0 232 x ∧ gI m 263 (12 * k + x) = gI m0 233 x &&& 1) → ∃ m', (∀ o, f_X12_setsAside_2 N 225 (nI k) (nI j) m o = r m' o) ∧ Fr (fun q i => 257 ≤ q ∧ q ≤ 263 ∧ 12 * k ≤ i ∧ i < 12 * k + 12) m0 m' ∧ ∀ x, x < 12 → gI m' 257 (12 * k + x) = gI m0 227 x ∧ gI m' 258 (12 * k + x) = gI m0 228 x ∧ gI m' 259 (12 * k + x) = gI m0 229 x ∧ gI m' 260 (12 * k + x) = gI m0 230 x ∧ gI m' 261 (12 * k + x) = gI m0 231 x ∧ gI m' 262 (12 * k + x) = gI m0 232 x ∧ gI m' 263 (12 * k + x) = gI m0 233 x &&& 1 := by
  intro c
  induction c with
  | zero =>
    intro N j m hj hN hF hv
    obtain ⟨N, rfl⟩ : ∃ N1, N = N1 + 1 := ⟨N - 1, by omega⟩
    obtain rfl : j = 12 := by omega
    have h := Fr_Sh hF h0
    refine ⟨m, fun o => ?_, hF, hv⟩
    show f_X12_setsAside_2b (f_X12_setsAside_2 N) 225 (nI k) (nI 12) m o = _
    unfold f_X12_setsAside_2b
    rw [if_pos (by decide)]
    exact hr m o
  | succ c ih =>
    intro N j m hj hN hF hv
    obtain ⟨N, rfl⟩ : ∃ N1, N = N1 + 1 := ⟨N - 1, by omega⟩
    have h := Fr_Sh hF h0
    have hin1 : vp_in (nI (12 * k + j)) 24 := vp_in_nI (by omega) (by omega)
    have hin2 : vp_in (nI j) 12 := vp_in_nI (by omega) (by omega)
    have z0 : gI m 227 j = gI m0 227 j := Fr_at hF (by omega)
    have z1 : gI m 228 j = gI m0 228 j := Fr_at hF (by omega)
    have z2 : gI m 229 j = gI m0 229 j := Fr_at hF (by omega)
    have z3 : gI m 230 j = gI m0 230 j := Fr_at hF (by omega)
    have z4 : gI m 231 j = gI m0 231 j := Fr_at hF (by omega)
    have z5 : gI m 232 j = gI m0 232 j := Fr_at hF (by omega)
    have z6 : gI m 233 j = gI m0 233 j := Fr_at hF (by omega)
    obtain ⟨m', b1, b2, b3⟩ := ih N (j + 1) (sI (sI (sI (sI (sI (sI (sI m 257 (12 * k + j) (gI m0 227 j)) 258 (12 * k + j) (gI m0 228 j)) 259 (12 * k + j) (gI m0 229 j)) 260 (12 * k + j) (gI m0 230 j)) 261 (12 * k + j) (gI m0 231 j)) 262 (12 * k + j) (gI m0 232 j)) 263 (12 * k + j) (gI m0 233 j &&& 1)) (by omega) (by omega) (show Fr (fun q i => 257 ≤ q ∧ q ≤ 263 ∧ 12 * k ≤ i ∧ i < 12 * k + (j + 1)) m0 _ from by
        refine Fr_sI (Fr_sI (Fr_sI (Fr_sI (Fr_sI (Fr_sI (Fr_sI (Fr_mono hF (fun q i hq => ?_)) ?_ _) ?_ _) ?_ _) ?_ _) ?_ _) ?_ _) ?_ _ <;> omega) (fun x hx => by
        by_cases q : x = j
        · subst q
          refine ⟨?_, ?_, ?_, ?_, ?_, ?_, ?_⟩ <;> simp [gI_sI]
        · have hne : ¬ (12 * k + x) = (12 * k + j) := by omega
          simp only [gI_sI, hne, and_false, if_false]
          exact hv x (by omega))
    refine ⟨m', fun o => ?_, b2, b3⟩
    show f_X12_setsAside_2b (f_X12_setsAside_2 N) 225 (nI k) (nI j) m o = _
    unfold f_X12_setsAside_2b
    rw [if_neg (show ¬ (12 : Int32) ≤ nI (j) from nI_ge (a := j) (b := 12) (by omega) (by omega))]
    simp (config := {decide := true}) only [f_X12_setsAside_25, f_X12_setsAside_42, f_X12_setsAside_59, f_X12_setsAside_76, f_X12_setsAside_93, f_X12_setsAside_110, f_X12_setsAside_127, (show (12 : Int32) * nI (k) = nI (12 * k) by rw [show (12 : Int32) = nI 12 from rfl, pk_mul]), nI_add, ix_nI (show 12 * k + j < 2 ^ 31 by omega), ix_nI (show j < 2 ^ 31 by omega), hin1, hin2, shT_225 h, shR_225_52 h, shR_225_8 h, shT_257 h, shN_257 h, shT_227 h, shN_227 h, shR_225_53 h, shR_225_9 h, shT_258 h, shN_258 h, shT_228 h, shN_228 h, shR_225_54 h, shR_225_10 h, shT_259 h, shN_259 h, shT_229 h, shN_229 h, shR_225_55 h, shR_225_11 h, shT_260 h, shN_260 h, shT_230 h, shN_230 h, shR_225_56 h, shR_225_12 h, shT_261 h, shN_261 h, shT_231 h, shN_231 h, shR_225_57 h, shR_225_13 h, shT_262 h, shN_262 h, shT_232 h, shN_232 h, shR_225_58 h, shR_225_14 h, shT_263 h, shN_263 h, shT_233 h, shN_233 h, gI_sI, gT_sI, gN_sI, gR_sI, z0, z1, z2, z3, z4, z5, z6, nI_1, ne_eq, not_false_eq_true, and_self, and_true, true_and, and_false, false_and, true_or, or_true, false_or, or_false, not_true_eq_false, if_false, if_true]
    exact b1 o
theorem l_sa_135 {m0 : Mm} (h0 : Sh m0) {k : Nat} (hk : k ≤ 1) (r : Mm → Prop → Unit × Mm × Prop) (hr : ∀ m o, f_X12_setsAside_217 1000 225 (nI k) 0 m o = r m o) : ∀ (c N j : Nat) (m : Mm), j + c = 16 → c < N → Fr (fun q i => 264 ≤ q ∧ q ≤ 267 ∧ 16 * k ≤ i ∧ i < 16 * k + j) m0 m → (∀ x, x < j → gI m 264 (16 * k + x) = gI m0 234 x ∧ gI m 265 (16 * k + x) = gI m0 235 x ∧ gI m 266 (16 * k + x) = gI m0 236 x ∧ gI m 267 (16 * k + x) = gI m0 237 x) → ∃ m', (∀ o, f_X12_setsAside_135 N 225 (nI k) (nI j) m o = r m' o) ∧ Fr (fun q i => 264 ≤ q ∧ q ≤ 267 ∧ 16 * k ≤ i ∧ i < 16 * k + 16) m0 m' ∧ ∀ x, x < 16 → gI m' 264 (16 * k + x) = gI m0 234 x ∧ gI m' 265 (16 * k + x) = gI m0 235 x ∧ gI m' 266 (16 * k + x) = gI m0 236 x ∧ gI m' 267 (16 * k + x) = gI m0 237 x := by
  intro c
  induction c with
  | zero =>
    intro N j m hj hN hF hv
    obtain ⟨N, rfl⟩ : ∃ N1, N = N1 + 1 := ⟨N - 1, by omega⟩
    obtain rfl : j = 16 := by omega
    have h := Fr_Sh hF h0
    refine ⟨m, fun o => ?_, hF, hv⟩
    show f_X12_setsAside_135b (f_X12_setsAside_135 N) 225 (nI k) (nI 16) m o = _
    unfold f_X12_setsAside_135b
    rw [if_pos (by decide)]
    exact hr m o
  | succ c ih =>
    intro N j m hj hN hF hv
    obtain ⟨N, rfl⟩ : ∃ N1, N = N1 + 1 := ⟨N - 1, by omega⟩
    have h := Fr_Sh hF h0
    have hin1 : vp_in (nI (16 * k + j)) 32 := vp_in_nI (by omega) (by omega)
    have hin2 : vp_in (nI j) 16 := vp_in_nI (by omega) (by omega)
    have z0 : gI m 234 j = gI m0 234 j := Fr_at hF (by omega)
    have z1 : gI m 235 j = gI m0 235 j := Fr_at hF (by omega)
    have z2 : gI m 236 j = gI m0 236 j := Fr_at hF (by omega)
    have z3 : gI m 237 j = gI m0 237 j := Fr_at hF (by omega)
    obtain ⟨m', b1, b2, b3⟩ := ih N (j + 1) (sI (sI (sI (sI m 264 (16 * k + j) (gI m0 234 j)) 265 (16 * k + j) (gI m0 235 j)) 266 (16 * k + j) (gI m0 236 j)) 267 (16 * k + j) (gI m0 237 j)) (by omega) (by omega) (show Fr (fun q i => 264 ≤ q ∧ q ≤ 267 ∧ 16 * k ≤ i ∧ i < 16 * k + (j + 1)) m0 _ from by
        refine Fr_sI (Fr_sI (Fr_sI (Fr_sI (Fr_mono hF (fun q i hq => ?_)) ?_ _) ?_ _) ?_ _) ?_ _ <;> omega) (fun x hx => by
        by_cases q : x = j
        · subst q
          refine ⟨?_, ?_, ?_, ?_⟩ <;> simp [gI_sI]
        · have hne : ¬ (16 * k + x) = (16 * k + j) := by omega
          simp only [gI_sI, hne, and_false, if_false]
          exact hv x (by omega))
    refine ⟨m', fun o => ?_, b2, b3⟩
    show f_X12_setsAside_135b (f_X12_setsAside_135 N) 225 (nI k) (nI j) m o = _
    unfold f_X12_setsAside_135b
    rw [if_neg (show ¬ (16 : Int32) ≤ nI (j) from nI_ge (a := j) (b := 16) (by omega) (by omega))]
    simp (config := {decide := true}) only [f_X12_setsAside_158, f_X12_setsAside_175, f_X12_setsAside_192, f_X12_setsAside_209, (show (16 : Int32) * nI (k) = nI (16 * k) by rw [show (16 : Int32) = nI 16 from rfl, pk_mul]), nI_add, ix_nI (show 16 * k + j < 2 ^ 31 by omega), ix_nI (show j < 2 ^ 31 by omega), hin1, hin2, shT_225 h, shR_225_59 h, shR_225_15 h, shT_264 h, shN_264 h, shT_234 h, shN_234 h, shR_225_60 h, shR_225_16 h, shT_265 h, shN_265 h, shT_235 h, shN_235 h, shR_225_61 h, shR_225_17 h, shT_266 h, shN_266 h, shT_236 h, shN_236 h, shR_225_62 h, shR_225_18 h, shT_267 h, shN_267 h, shT_237 h, shN_237 h, gI_sI, gT_sI, gN_sI, gR_sI, z0, z1, z2, z3, nI_1, ne_eq, not_false_eq_true, and_self, and_true, true_and, and_false, false_and, true_or, or_true, false_or, or_false, not_true_eq_false, if_false, if_true]
    exact b1 o
theorem l_sa_217 {m0 : Mm} (h0 : Sh m0) {k : Nat} (hk : k ≤ 1) (r : Mm → Prop → Unit × Mm × Prop) (hr : ∀ m o, f_X12_setsAside_248 1000 225 (nI k) 0 m o = r m o) : ∀ (c N j : Nat) (m : Mm), j + c = 80 → c < N → Fr (fun q i => 268 ≤ q ∧ q ≤ 268 ∧ 80 * k ≤ i ∧ i < 80 * k + j) m0 m → (∀ x, x < j → gI m 268 (80 * k + x) = gI m0 238 x) → ∃ m', (∀ o, f_X12_setsAside_217 N 225 (nI k) (nI j) m o = r m' o) ∧ Fr (fun q i => 268 ≤ q ∧ q ≤ 268 ∧ 80 * k ≤ i ∧ i < 80 * k + 80) m0 m' ∧ ∀ x, x < 80 → gI m' 268 (80 * k + x) = gI m0 238 x := by
  intro c
  induction c with
  | zero =>
    intro N j m hj hN hF hv
    obtain ⟨N, rfl⟩ : ∃ N1, N = N1 + 1 := ⟨N - 1, by omega⟩
    obtain rfl : j = 80 := by omega
    have h := Fr_Sh hF h0
    refine ⟨m, fun o => ?_, hF, hv⟩
    show f_X12_setsAside_217b (f_X12_setsAside_217 N) 225 (nI k) (nI 80) m o = _
    unfold f_X12_setsAside_217b
    rw [if_pos (by decide)]
    exact hr m o
  | succ c ih =>
    intro N j m hj hN hF hv
    obtain ⟨N, rfl⟩ : ∃ N1, N = N1 + 1 := ⟨N - 1, by omega⟩
    have h := Fr_Sh hF h0
    have hin1 : vp_in (nI (80 * k + j)) 160 := vp_in_nI (by omega) (by omega)
    have hin2 : vp_in (nI j) 80 := vp_in_nI (by omega) (by omega)
    have z0 : gI m 238 j = gI m0 238 j := Fr_at hF (by omega)
    obtain ⟨m', b1, b2, b3⟩ := ih N (j + 1) (sI m 268 (80 * k + j) (gI m0 238 j)) (by omega) (by omega) (show Fr (fun q i => 268 ≤ q ∧ q ≤ 268 ∧ 80 * k ≤ i ∧ i < 80 * k + (j + 1)) m0 _ from by
        refine Fr_sI (Fr_mono hF (fun q i hq => ?_)) ?_ _ <;> omega) (fun x hx => by
        by_cases q : x = j
        · subst q
          simp [gI_sI]
        · have hne : ¬ (80 * k + x) = (80 * k + j) := by omega
          simp only [gI_sI, hne, and_false, if_false]
          exact hv x (by omega))
    refine ⟨m', fun o => ?_, b2, b3⟩
    show f_X12_setsAside_217b (f_X12_setsAside_217 N) 225 (nI k) (nI j) m o = _
    unfold f_X12_setsAside_217b
    rw [if_neg (show ¬ (80 : Int32) ≤ nI (j) from nI_ge (a := j) (b := 80) (by omega) (by omega))]
    simp (config := {decide := true}) only [f_X12_setsAside_240, (show (80 : Int32) * nI (k) = nI (80 * k) by rw [show (80 : Int32) = nI 80 from rfl, pk_mul]), nI_add, ix_nI (show 80 * k + j < 2 ^ 31 by omega), ix_nI (show j < 2 ^ 31 by omega), hin1, hin2, shT_225 h, shR_225_63 h, shR_225_19 h, shT_268 h, shN_268 h, shT_238 h, shN_238 h, gI_sI, gT_sI, gN_sI, gR_sI, z0, nI_1, ne_eq, not_false_eq_true, and_self, and_true, true_and, and_false, false_and, true_or, or_true, false_or, or_false, not_true_eq_false, if_false, if_true]
    exact b1 o
theorem l_sa_248 {m0 : Mm} (h0 : Sh m0) {k : Nat} (hk : k ≤ 1) (r : Mm → Prop → Unit × Mm × Prop) (hr : ∀ m o, f_X12_setsAside_277 1000 225 (nI k) 0 m o = r m o) : ∀ (c N j : Nat) (m : Mm), j + c = 5 → c < N → Fr (fun q i => 269 ≤ q ∧ q ≤ 269 ∧ 5 * k ≤ i ∧ i < 5 * k + j) m0 m → (∀ x, x < j → gI m 269 (5 * k + x) = gI m0 239 x) → ∃ m', (∀ o, f_X12_setsAside_248 N 225 (nI k) (nI j) m o = r m' o) ∧ Fr (fun q i => 269 ≤ q ∧ q ≤ 269 ∧ 5 * k ≤ i ∧ i < 5 * k + 5) m0 m' ∧ ∀ x, x < 5 → gI m' 269 (5 * k + x) = gI m0 239 x := by
  intro c
  induction c with
  | zero =>
    intro N j m hj hN hF hv
    obtain ⟨N, rfl⟩ : ∃ N1, N = N1 + 1 := ⟨N - 1, by omega⟩
    obtain rfl : j = 5 := by omega
    have h := Fr_Sh hF h0
    refine ⟨m, fun o => ?_, hF, hv⟩
    show f_X12_setsAside_248b (f_X12_setsAside_248 N) 225 (nI k) (nI 5) m o = _
    unfold f_X12_setsAside_248b
    rw [if_pos (by decide)]
    exact hr m o
  | succ c ih =>
    intro N j m hj hN hF hv
    obtain ⟨N, rfl⟩ : ∃ N1, N = N1 + 1 := ⟨N - 1, by omega⟩
    have h := Fr_Sh hF h0
    have hin1 : vp_in (nI (5 * k + j)) 10 := vp_in_nI (by omega) (by omega)
    have hin2 : vp_in (nI j) 5 := vp_in_nI (by omega) (by omega)
    have z0 : gI m 239 j = gI m0 239 j := Fr_at hF (by omega)
    obtain ⟨m', b1, b2, b3⟩ := ih N (j + 1) (sI m 269 (5 * k + j) (gI m0 239 j)) (by omega) (by omega) (show Fr (fun q i => 269 ≤ q ∧ q ≤ 269 ∧ 5 * k ≤ i ∧ i < 5 * k + (j + 1)) m0 _ from by
        refine Fr_sI (Fr_mono hF (fun q i hq => ?_)) ?_ _ <;> omega) (fun x hx => by
        by_cases q : x = j
        · subst q
          simp [gI_sI]
        · have hne : ¬ (5 * k + x) = (5 * k + j) := by omega
          simp only [gI_sI, hne, and_false, if_false]
          exact hv x (by omega))
    refine ⟨m', fun o => ?_, b2, b3⟩
    show f_X12_setsAside_248b (f_X12_setsAside_248 N) 225 (nI k) (nI j) m o = _
    unfold f_X12_setsAside_248b
    rw [if_neg (show ¬ (5 : Int32) ≤ nI (j) from nI_ge (a := j) (b := 5) (by omega) (by omega))]
    simp (config := {decide := true}) only [f_X12_setsAside_269, (show (5 : Int32) * nI (k) = nI (5 * k) by rw [show (5 : Int32) = nI 5 from rfl, pk_mul]), nI_add, ix_nI (show 5 * k + j < 2 ^ 31 by omega), ix_nI (show j < 2 ^ 31 by omega), hin1, hin2, shT_225 h, shR_225_64 h, shR_225_20 h, shT_269 h, shN_269 h, shT_239 h, shN_239 h, gI_sI, gT_sI, gN_sI, gR_sI, z0, nI_1, ne_eq, not_false_eq_true, and_self, and_true, true_and, and_false, false_and, true_or, or_true, false_or, or_false, not_true_eq_false, if_false, if_true]
    exact b1 o
theorem l_sa_277 {m0 : Mm} (h0 : Sh m0) {k : Nat} (hk : k ≤ 1) (r : Mm → Prop → Unit × Mm × Prop) (hr : ∀ m, Sh m → ∀ o, f_X12_setsAside_321 225 (nI k) (sI m 271 (6 * k) (gI m 225 2)) o = r m o) : ∀ (c N j : Nat) (m : Mm), j + c = 192 → c < N → Fr (fun q i => 270 ≤ q ∧ q ≤ 270 ∧ 192 * k ≤ i ∧ i < 192 * k + j) m0 m → (∀ x, x < j → gI m 270 (192 * k + x) = gI m0 240 x) → ∃ m', (∀ o, f_X12_setsAside_277 N 225 (nI k) (nI j) m o = r m' o) ∧ Fr (fun q i => 270 ≤ q ∧ q ≤ 270 ∧ 192 * k ≤ i ∧ i < 192 * k + 192) m0 m' ∧ ∀ x, x < 192 → gI m' 270 (192 * k + x) = gI m0 240 x := by
  intro c
  induction c with
  | zero =>
    intro N j m hj hN hF hv
    obtain ⟨N, rfl⟩ : ∃ N1, N = N1 + 1 := ⟨N - 1, by omega⟩
    obtain rfl : j = 192 := by omega
    have h := Fr_Sh hF h0
    refine ⟨m, fun o => ?_, hF, hv⟩
    show f_X12_setsAside_277b (f_X12_setsAside_277 N) 225 (nI k) (nI 192) m o = _
    unfold f_X12_setsAside_277b
    rw [if_pos (by decide)]
    have hin6 : vp_in (nI (6 * k)) 12 := vp_in_nI (by omega) (by omega)
    simp (config := {decide := true}) only [(show (6 : Int32) * nI (k) = nI (6 * k) by rw [show (6 : Int32) = nI 6 from rfl, pk_mul]), ix_nI (show 6 * k < 2 ^ 31 by omega), hin6, shT_225 h, shR_225_66 h, shT_271 h, shN_271 h, ne_eq, not_false_eq_true, and_self, and_true, true_and, and_false, false_and, true_or, or_true, false_or, or_false, not_true_eq_false, if_false, if_true]
    exact hr m h o
  | succ c ih =>
    intro N j m hj hN hF hv
    obtain ⟨N, rfl⟩ : ∃ N1, N = N1 + 1 := ⟨N - 1, by omega⟩
    have h := Fr_Sh hF h0
    have hin1 : vp_in (nI (192 * k + j)) 384 := vp_in_nI (by omega) (by omega)
    have hin2 : vp_in (nI j) 192 := vp_in_nI (by omega) (by omega)
    have z0 : gI m 240 j = gI m0 240 j := Fr_at hF (by omega)
    obtain ⟨m', b1, b2, b3⟩ := ih N (j + 1) (sI m 270 (192 * k + j) (gI m0 240 j)) (by omega) (by omega) (show Fr (fun q i => 270 ≤ q ∧ q ≤ 270 ∧ 192 * k ≤ i ∧ i < 192 * k + (j + 1)) m0 _ from by
        refine Fr_sI (Fr_mono hF (fun q i hq => ?_)) ?_ _ <;> omega) (fun x hx => by
        by_cases q : x = j
        · subst q
          simp [gI_sI]
        · have hne : ¬ (192 * k + x) = (192 * k + j) := by omega
          simp only [gI_sI, hne, and_false, if_false]
          exact hv x (by omega))
    refine ⟨m', fun o => ?_, b2, b3⟩
    show f_X12_setsAside_277b (f_X12_setsAside_277 N) 225 (nI k) (nI j) m o = _
    unfold f_X12_setsAside_277b
    rw [if_neg (show ¬ (192 : Int32) ≤ nI (j) from nI_ge (a := j) (b := 192) (by omega) (by omega))]
    simp (config := {decide := true}) only [f_X12_setsAside_302, (show (192 : Int32) * nI (k) = nI (192 * k) by rw [show (192 : Int32) = nI 192 from rfl, pk_mul]), nI_add, ix_nI (show 192 * k + j < 2 ^ 31 by omega), ix_nI (show j < 2 ^ 31 by omega), hin1, hin2, shT_225 h, shR_225_65 h, shR_225_21 h, shT_270 h, shN_270 h, shT_240 h, shN_240 h, gI_sI, gT_sI, gN_sI, gR_sI, z0, nI_1, ne_eq, not_false_eq_true, and_self, and_true, true_and, and_false, false_and, true_or, or_true, false_or, or_false, not_true_eq_false, if_false, if_true]
    exact b1 o
theorem l_pb_2 {m0 : Mm} (h0 : Sh m0) {k : Nat} (hk : k ≤ 1) (r : Mm → Prop → Unit × Mm × Prop) (hr : ∀ m o, f_X12_putsBack_135 1000 225 (nI k) 0 m o = r m o) : ∀ (c N j : Nat) (m : Mm), j + c = 12 → c < N → Fr (fun q i => 227 ≤ q ∧ q ≤ 233 ∧ i < j) m0 m → (∀ x, x < j → gI m 227 x = gI m0 257 (12 * k + x) ∧ gI m 228 x = gI m0 258 (12 * k + x) ∧ gI m 229 x = gI m0 259 (12 * k + x) ∧ gI m 230 x = gI m0 260 (12 * k + x) ∧ gI m 231 x = gI m0 261 (12 * k + x) ∧ gI m 232 x = gI m0 262 (12 * k + x) ∧ gI m 233 x = gI m0 263 (12 * k + x) &&& 1) → ∃ m', (∀ o, f_X12_putsBack_2 N 225 (nI k) (nI j) m o = r m' o) ∧ Fr (fun q i => 227 ≤ q ∧ q ≤ 233 ∧ i < 12) m0 m' ∧ ∀ x, x < 12 → gI m' 227 x = gI m0 257 (12 * k + x) ∧ gI m' 228 x = gI m0 258 (12 * k + x) ∧ gI m' 229 x = gI m0 259 (12 * k + x) ∧ gI m' 230 x = gI m0 260 (12 * k + x) ∧ gI m' 231 x = gI m0 261 (12 * k + x) ∧ gI m' 232 x = gI m0 262 (12 * k + x) ∧ gI m' 233 x = gI m0 263 (12 * k + x) &&& 1 := by
  intro c
  induction c with
  | zero =>
    intro N j m hj hN hF hv
    obtain ⟨N, rfl⟩ : ∃ N1, N = N1 + 1 := ⟨N - 1, by omega⟩
    obtain rfl : j = 12 := by omega
    have h := Fr_Sh hF h0
    refine ⟨m, fun o => ?_, hF, hv⟩
    show f_X12_putsBack_2b (f_X12_putsBack_2 N) 225 (nI k) (nI 12) m o = _
    unfold f_X12_putsBack_2b
    rw [if_pos (by decide)]
    exact hr m o
  | succ c ih =>
    intro N j m hj hN hF hv
    obtain ⟨N, rfl⟩ : ∃ N1, N = N1 + 1 := ⟨N - 1, by omega⟩
    have h := Fr_Sh hF h0
    have hin1 : vp_in (nI (12 * k + j)) 24 := vp_in_nI (by omega) (by omega)
    have hin2 : vp_in (nI j) 12 := vp_in_nI (by omega) (by omega)
    have z0 : gI m 257 (12 * k + j) = gI m0 257 (12 * k + j) := Fr_at hF (by omega)
    have z1 : gI m 258 (12 * k + j) = gI m0 258 (12 * k + j) := Fr_at hF (by omega)
    have z2 : gI m 259 (12 * k + j) = gI m0 259 (12 * k + j) := Fr_at hF (by omega)
    have z3 : gI m 260 (12 * k + j) = gI m0 260 (12 * k + j) := Fr_at hF (by omega)
    have z4 : gI m 261 (12 * k + j) = gI m0 261 (12 * k + j) := Fr_at hF (by omega)
    have z5 : gI m 262 (12 * k + j) = gI m0 262 (12 * k + j) := Fr_at hF (by omega)
    have z6 : gI m 263 (12 * k + j) = gI m0 263 (12 * k + j) := Fr_at hF (by omega)
    obtain ⟨m', b1, b2, b3⟩ := ih N (j + 1) (sI (sI (sI (sI (sI (sI (sI m 227 j (gI m0 257 (12 * k + j))) 228 j (gI m0 258 (12 * k + j))) 229 j (gI m0 259 (12 * k + j))) 230 j (gI m0 260 (12 * k + j))) 231 j (gI m0 261 (12 * k + j))) 232 j (gI m0 262 (12 * k + j))) 233 j (gI m0 263 (12 * k + j) &&& 1)) (by omega) (by omega) (show Fr (fun q i => 227 ≤ q ∧ q ≤ 233 ∧ i < (j + 1)) m0 _ from by
        refine Fr_sI (Fr_sI (Fr_sI (Fr_sI (Fr_sI (Fr_sI (Fr_sI (Fr_mono hF (fun q i hq => ?_)) ?_ _) ?_ _) ?_ _) ?_ _) ?_ _) ?_ _) ?_ _ <;> omega) (fun x hx => by
        by_cases q : x = j
        · subst q
          refine ⟨?_, ?_, ?_, ?_, ?_, ?_, ?_⟩ <;> simp [gI_sI]
        · have hne : ¬ x = j := by omega
          simp only [gI_sI, hne, and_false, if_false]
          exact hv x (by omega))
    refine ⟨m', fun o => ?_, b2, b3⟩
    show f_X12_putsBack_2b (f_X12_putsBack_2 N) 225 (nI k) (nI j) m o = _
    unfold f_X12_putsBack_2b
    rw [if_neg (show ¬ (12 : Int32) ≤ nI (j) from nI_ge (a := j) (b := 12) (by omega) (by omega))]
    simp (config := {decide := true}) only [f_X12_putsBack_25, f_X12_putsBack_42, f_X12_putsBack_59, f_X12_putsBack_76, f_X12_putsBack_93, f_X12_putsBack_110, f_X12_putsBack_127, (show (12 : Int32) * nI (k) = nI (12 * k) by rw [show (12 : Int32) = nI 12 from rfl, pk_mul]), nI_add, ix_nI (show 12 * k + j < 2 ^ 31 by omega), ix_nI (show j < 2 ^ 31 by omega), hin1, hin2, shT_225 h, shR_225_52 h, shR_225_8 h, shT_257 h, shN_257 h, shT_227 h, shN_227 h, shR_225_53 h, shR_225_9 h, shT_258 h, shN_258 h, shT_228 h, shN_228 h, shR_225_54 h, shR_225_10 h, shT_259 h, shN_259 h, shT_229 h, shN_229 h, shR_225_55 h, shR_225_11 h, shT_260 h, shN_260 h, shT_230 h, shN_230 h, shR_225_56 h, shR_225_12 h, shT_261 h, shN_261 h, shT_231 h, shN_231 h, shR_225_57 h, shR_225_13 h, shT_262 h, shN_262 h, shT_232 h, shN_232 h, shR_225_58 h, shR_225_14 h, shT_263 h, shN_263 h, shT_233 h, shN_233 h, gI_sI, gT_sI, gN_sI, gR_sI, z0, z1, z2, z3, z4, z5, z6, nI_1, ne_eq, not_false_eq_true, and_self, and_true, true_and, and_false, false_and, true_or, or_true, false_or, or_false, not_true_eq_false, if_false, if_true]
    exact b1 o
theorem l_pb_135 {m0 : Mm} (h0 : Sh m0) {k : Nat} (hk : k ≤ 1) (r : Mm → Prop → Unit × Mm × Prop) (hr : ∀ m o, f_X12_putsBack_217 1000 225 (nI k) 0 m o = r m o) : ∀ (c N j : Nat) (m : Mm), j + c = 16 → c < N → Fr (fun q i => 234 ≤ q ∧ q ≤ 237 ∧ i < j) m0 m → (∀ x, x < j → gI m 234 x = gI m0 264 (16 * k + x) ∧ gI m 235 x = gI m0 265 (16 * k + x) ∧ gI m 236 x = gI m0 266 (16 * k + x) ∧ gI m 237 x = gI m0 267 (16 * k + x)) → ∃ m', (∀ o, f_X12_putsBack_135 N 225 (nI k) (nI j) m o = r m' o) ∧ Fr (fun q i => 234 ≤ q ∧ q ≤ 237 ∧ i < 16) m0 m' ∧ ∀ x, x < 16 → gI m' 234 x = gI m0 264 (16 * k + x) ∧ gI m' 235 x = gI m0 265 (16 * k + x) ∧ gI m' 236 x = gI m0 266 (16 * k + x) ∧ gI m' 237 x = gI m0 267 (16 * k + x) := by
  intro c
  induction c with
  | zero =>
    intro N j m hj hN hF hv
    obtain ⟨N, rfl⟩ : ∃ N1, N = N1 + 1 := ⟨N - 1, by omega⟩
    obtain rfl : j = 16 := by omega
    have h := Fr_Sh hF h0
    refine ⟨m, fun o => ?_, hF, hv⟩
    show f_X12_putsBack_135b (f_X12_putsBack_135 N) 225 (nI k) (nI 16) m o = _
    unfold f_X12_putsBack_135b
    rw [if_pos (by decide)]
    exact hr m o
  | succ c ih =>
    intro N j m hj hN hF hv
    obtain ⟨N, rfl⟩ : ∃ N1, N = N1 + 1 := ⟨N - 1, by omega⟩
    have h := Fr_Sh hF h0
    have hin1 : vp_in (nI (16 * k + j)) 32 := vp_in_nI (by omega) (by omega)
    have hin2 : vp_in (nI j) 16 := vp_in_nI (by omega) (by omega)
    have z0 : gI m 264 (16 * k + j) = gI m0 264 (16 * k + j) := Fr_at hF (by omega)
    have z1 : gI m 265 (16 * k + j) = gI m0 265 (16 * k + j) := Fr_at hF (by omega)
    have z2 : gI m 266 (16 * k + j) = gI m0 266 (16 * k + j) := Fr_at hF (by omega)
    have z3 : gI m 267 (16 * k + j) = gI m0 267 (16 * k + j) := Fr_at hF (by omega)
    obtain ⟨m', b1, b2, b3⟩ := ih N (j + 1) (sI (sI (sI (sI m 234 j (gI m0 264 (16 * k + j))) 235 j (gI m0 265 (16 * k + j))) 236 j (gI m0 266 (16 * k + j))) 237 j (gI m0 267 (16 * k + j))) (by omega) (by omega) (show Fr (fun q i => 234 ≤ q ∧ q ≤ 237 ∧ i < (j + 1)) m0 _ from by
        refine Fr_sI (Fr_sI (Fr_sI (Fr_sI (Fr_mono hF (fun q i hq => ?_)) ?_ _) ?_ _) ?_ _) ?_ _ <;> omega) (fun x hx => by
        by_cases q : x = j
        · subst q
          refine ⟨?_, ?_, ?_, ?_⟩ <;> simp [gI_sI]
        · have hne : ¬ x = j := by omega
          simp only [gI_sI, hne, and_false, if_false]
          exact hv x (by omega))
    refine ⟨m', fun o => ?_, b2, b3⟩
    show f_X12_putsBack_135b (f_X12_putsBack_135 N) 225 (nI k) (nI j) m o = _
    unfold f_X12_putsBack_135b
    rw [if_neg (show ¬ (16 : Int32) ≤ nI (j) from nI_ge (a := j) (b := 16) (by omega) (by omega))]
    simp (config := {decide := true}) only [f_X12_putsBack_158, f_X12_putsBack_175, f_X12_putsBack_192, f_X12_putsBack_209, (show (16 : Int32) * nI (k) = nI (16 * k) by rw [show (16 : Int32) = nI 16 from rfl, pk_mul]), nI_add, ix_nI (show 16 * k + j < 2 ^ 31 by omega), ix_nI (show j < 2 ^ 31 by omega), hin1, hin2, shT_225 h, shR_225_59 h, shR_225_15 h, shT_264 h, shN_264 h, shT_234 h, shN_234 h, shR_225_60 h, shR_225_16 h, shT_265 h, shN_265 h, shT_235 h, shN_235 h, shR_225_61 h, shR_225_17 h, shT_266 h, shN_266 h, shT_236 h, shN_236 h, shR_225_62 h, shR_225_18 h, shT_267 h, shN_267 h, shT_237 h, shN_237 h, gI_sI, gT_sI, gN_sI, gR_sI, z0, z1, z2, z3, nI_1, ne_eq, not_false_eq_true, and_self, and_true, true_and, and_false, false_and, true_or, or_true, false_or, or_false, not_true_eq_false, if_false, if_true]
    exact b1 o
theorem l_pb_217 {m0 : Mm} (h0 : Sh m0) {k : Nat} (hk : k ≤ 1) (r : Mm → Prop → Unit × Mm × Prop) (hr : ∀ m o, f_X12_putsBack_248 1000 225 (nI k) 0 m o = r m o) : ∀ (c N j : Nat) (m : Mm), j + c = 80 → c < N → Fr (fun q i => 238 ≤ q ∧ q ≤ 238 ∧ i < j) m0 m → (∀ x, x < j → gI m 238 x = gI m0 268 (80 * k + x)) → ∃ m', (∀ o, f_X12_putsBack_217 N 225 (nI k) (nI j) m o = r m' o) ∧ Fr (fun q i => 238 ≤ q ∧ q ≤ 238 ∧ i < 80) m0 m' ∧ ∀ x, x < 80 → gI m' 238 x = gI m0 268 (80 * k + x) := by
  intro c
  induction c with
  | zero =>
    intro N j m hj hN hF hv
    obtain ⟨N, rfl⟩ : ∃ N1, N = N1 + 1 := ⟨N - 1, by omega⟩
    obtain rfl : j = 80 := by omega
    have h := Fr_Sh hF h0
    refine ⟨m, fun o => ?_, hF, hv⟩
    show f_X12_putsBack_217b (f_X12_putsBack_217 N) 225 (nI k) (nI 80) m o = _
    unfold f_X12_putsBack_217b
    rw [if_pos (by decide)]
    exact hr m o
  | succ c ih =>
    intro N j m hj hN hF hv
    obtain ⟨N, rfl⟩ : ∃ N1, N = N1 + 1 := ⟨N - 1, by omega⟩
    have h := Fr_Sh hF h0
    have hin1 : vp_in (nI (80 * k + j)) 160 := vp_in_nI (by omega) (by omega)
    have hin2 : vp_in (nI j) 80 := vp_in_nI (by omega) (by omega)
    have z0 : gI m 268 (80 * k + j) = gI m0 268 (80 * k + j) := Fr_at hF (by omega)
    obtain ⟨m', b1, b2, b3⟩ := ih N (j + 1) (sI m 238 j (gI m0 268 (80 * k + j))) (by omega) (by omega) (show Fr (fun q i => 238 ≤ q ∧ q ≤ 238 ∧ i < (j + 1)) m0 _ from by
        refine Fr_sI (Fr_mono hF (fun q i hq => ?_)) ?_ _ <;> omega) (fun x hx => by
        by_cases q : x = j
        · subst q
          simp [gI_sI]
        · have hne : ¬ x = j := by omega
          simp only [gI_sI, hne, and_false, if_false]
          exact hv x (by omega))
    refine ⟨m', fun o => ?_, b2, b3⟩
    show f_X12_putsBack_217b (f_X12_putsBack_217 N) 225 (nI k) (nI j) m o = _
    unfold f_X12_putsBack_217b
    rw [if_neg (show ¬ (80 : Int32) ≤ nI (j) from nI_ge (a := j) (b := 80) (by omega) (by omega))]
    simp (config := {decide := true}) only [f_X12_putsBack_240, (show (80 : Int32) * nI (k) = nI (80 * k) by rw [show (80 : Int32) = nI 80 from rfl, pk_mul]), nI_add, ix_nI (show 80 * k + j < 2 ^ 31 by omega), ix_nI (show j < 2 ^ 31 by omega), hin1, hin2, shT_225 h, shR_225_63 h, shR_225_19 h, shT_268 h, shN_268 h, shT_238 h, shN_238 h, gI_sI, gT_sI, gN_sI, gR_sI, z0, nI_1, ne_eq, not_false_eq_true, and_self, and_true, true_and, and_false, false_and, true_or, or_true, false_or, or_false, not_true_eq_false, if_false, if_true]
    exact b1 o
theorem l_pb_248 {m0 : Mm} (h0 : Sh m0) {k : Nat} (hk : k ≤ 1) (r : Mm → Prop → Unit × Mm × Prop) (hr : ∀ m o, f_X12_putsBack_277 1000 225 (nI k) 0 m o = r m o) : ∀ (c N j : Nat) (m : Mm), j + c = 5 → c < N → Fr (fun q i => 239 ≤ q ∧ q ≤ 239 ∧ i < j) m0 m → (∀ x, x < j → gI m 239 x = gI m0 269 (5 * k + x)) → ∃ m', (∀ o, f_X12_putsBack_248 N 225 (nI k) (nI j) m o = r m' o) ∧ Fr (fun q i => 239 ≤ q ∧ q ≤ 239 ∧ i < 5) m0 m' ∧ ∀ x, x < 5 → gI m' 239 x = gI m0 269 (5 * k + x) := by
  intro c
  induction c with
  | zero =>
    intro N j m hj hN hF hv
    obtain ⟨N, rfl⟩ : ∃ N1, N = N1 + 1 := ⟨N - 1, by omega⟩
    obtain rfl : j = 5 := by omega
    have h := Fr_Sh hF h0
    refine ⟨m, fun o => ?_, hF, hv⟩
    show f_X12_putsBack_248b (f_X12_putsBack_248 N) 225 (nI k) (nI 5) m o = _
    unfold f_X12_putsBack_248b
    rw [if_pos (by decide)]
    exact hr m o
  | succ c ih =>
    intro N j m hj hN hF hv
    obtain ⟨N, rfl⟩ : ∃ N1, N = N1 + 1 := ⟨N - 1, by omega⟩
    have h := Fr_Sh hF h0
    have hin1 : vp_in (nI (5 * k + j)) 10 := vp_in_nI (by omega) (by omega)
    have hin2 : vp_in (nI j) 5 := vp_in_nI (by omega) (by omega)
    have z0 : gI m 269 (5 * k + j) = gI m0 269 (5 * k + j) := Fr_at hF (by omega)
    obtain ⟨m', b1, b2, b3⟩ := ih N (j + 1) (sI m 239 j (gI m0 269 (5 * k + j))) (by omega) (by omega) (show Fr (fun q i => 239 ≤ q ∧ q ≤ 239 ∧ i < (j + 1)) m0 _ from by
        refine Fr_sI (Fr_mono hF (fun q i hq => ?_)) ?_ _ <;> omega) (fun x hx => by
        by_cases q : x = j
        · subst q
          simp [gI_sI]
        · have hne : ¬ x = j := by omega
          simp only [gI_sI, hne, and_false, if_false]
          exact hv x (by omega))
    refine ⟨m', fun o => ?_, b2, b3⟩
    show f_X12_putsBack_248b (f_X12_putsBack_248 N) 225 (nI k) (nI j) m o = _
    unfold f_X12_putsBack_248b
    rw [if_neg (show ¬ (5 : Int32) ≤ nI (j) from nI_ge (a := j) (b := 5) (by omega) (by omega))]
    simp (config := {decide := true}) only [f_X12_putsBack_269, (show (5 : Int32) * nI (k) = nI (5 * k) by rw [show (5 : Int32) = nI 5 from rfl, pk_mul]), nI_add, ix_nI (show 5 * k + j < 2 ^ 31 by omega), ix_nI (show j < 2 ^ 31 by omega), hin1, hin2, shT_225 h, shR_225_64 h, shR_225_20 h, shT_269 h, shN_269 h, shT_239 h, shN_239 h, gI_sI, gT_sI, gN_sI, gR_sI, z0, nI_1, ne_eq, not_false_eq_true, and_self, and_true, true_and, and_false, false_and, true_or, or_true, false_or, or_false, not_true_eq_false, if_false, if_true]
    exact b1 o
theorem l_pb_277 {m0 : Mm} (h0 : Sh m0) {k : Nat} (hk : k ≤ 1) (r : Mm → Prop → Unit × Mm × Prop) (hr : ∀ m, Sh m → ∀ o, f_X12_putsBack_321 225 (nI k) (sI m 225 2 (gI m 271 (6 * k))) o = r m o) : ∀ (c N j : Nat) (m : Mm), j + c = 192 → c < N → Fr (fun q i => 240 ≤ q ∧ q ≤ 240 ∧ i < j) m0 m → (∀ x, x < j → gI m 240 x = gI m0 270 (192 * k + x)) → ∃ m', (∀ o, f_X12_putsBack_277 N 225 (nI k) (nI j) m o = r m' o) ∧ Fr (fun q i => 240 ≤ q ∧ q ≤ 240 ∧ i < 192) m0 m' ∧ ∀ x, x < 192 → gI m' 240 x = gI m0 270 (192 * k + x) := by
  intro c
  induction c with
  | zero =>
    intro N j m hj hN hF hv
    obtain ⟨N, rfl⟩ : ∃ N1, N = N1 + 1 := ⟨N - 1, by omega⟩
    obtain rfl : j = 192 := by omega
    have h := Fr_Sh hF h0
    refine ⟨m, fun o => ?_, hF, hv⟩
    show f_X12_putsBack_277b (f_X12_putsBack_277 N) 225 (nI k) (nI 192) m o = _
    unfold f_X12_putsBack_277b
    rw [if_pos (by decide)]
    have hin6 : vp_in (nI (6 * k)) 12 := vp_in_nI (by omega) (by omega)
    simp (config := {decide := true}) only [(show (6 : Int32) * nI (k) = nI (6 * k) by rw [show (6 : Int32) = nI 6 from rfl, pk_mul]), ix_nI (show 6 * k < 2 ^ 31 by omega), hin6, shT_225 h, shR_225_66 h, shT_271 h, shN_271 h, ne_eq, not_false_eq_true, and_self, and_true, true_and, and_false, false_and, true_or, or_true, false_or, or_false, not_true_eq_false, if_false, if_true]
    exact hr m h o
  | succ c ih =>
    intro N j m hj hN hF hv
    obtain ⟨N, rfl⟩ : ∃ N1, N = N1 + 1 := ⟨N - 1, by omega⟩
    have h := Fr_Sh hF h0
    have hin1 : vp_in (nI (192 * k + j)) 384 := vp_in_nI (by omega) (by omega)
    have hin2 : vp_in (nI j) 192 := vp_in_nI (by omega) (by omega)
    have z0 : gI m 270 (192 * k + j) = gI m0 270 (192 * k + j) := Fr_at hF (by omega)
    obtain ⟨m', b1, b2, b3⟩ := ih N (j + 1) (sI m 240 j (gI m0 270 (192 * k + j))) (by omega) (by omega) (show Fr (fun q i => 240 ≤ q ∧ q ≤ 240 ∧ i < (j + 1)) m0 _ from by
        refine Fr_sI (Fr_mono hF (fun q i hq => ?_)) ?_ _ <;> omega) (fun x hx => by
        by_cases q : x = j
        · subst q
          simp [gI_sI]
        · have hne : ¬ x = j := by omega
          simp only [gI_sI, hne, and_false, if_false]
          exact hv x (by omega))
    refine ⟨m', fun o => ?_, b2, b3⟩
    show f_X12_putsBack_277b (f_X12_putsBack_277 N) 225 (nI k) (nI j) m o = _
    unfold f_X12_putsBack_277b
    rw [if_neg (show ¬ (192 : Int32) ≤ nI (j) from nI_ge (a := j) (b := 192) (by omega) (by omega))]
    simp (config := {decide := true}) only [f_X12_putsBack_302, (show (192 : Int32) * nI (k) = nI (192 * k) by rw [show (192 : Int32) = nI 192 from rfl, pk_mul]), nI_add, ix_nI (show 192 * k + j < 2 ^ 31 by omega), ix_nI (show j < 2 ^ 31 by omega), hin1, hin2, shT_225 h, shR_225_65 h, shR_225_21 h, shT_270 h, shN_270 h, shT_240 h, shN_240 h, gI_sI, gT_sI, gN_sI, gR_sI, z0, nI_1, ne_eq, not_false_eq_true, and_self, and_true, true_and, and_false, false_and, true_or, or_true, false_or, or_false, not_true_eq_false, if_false, if_true]
    exact b1 o
