/-! ===== what pieces of the other's code mean, put together ===== -/
theorem RE_congr {D D' : Nat → Nat → Int32} {i j : Nat} {V : (Nat → Int32) → Option Int32} (h : RE D i j V) (hC : ∀ x, i ≤ x → x < j → D' 4 x = D 4 x ∧ D' 5 x = D 5 x) : RE D' i j V :=
  ⟨h.1, fun m hS hc => h.2 m hS (fun x a b => ⟨(hc x a b).1.trans (hC x a b).1, (hc x a b).2.trans (hC x a b).2⟩)⟩
theorem RE_num {D : Nat → Nat → Int32} {i : Nat} {v : Int32} (h1 : D 4 i = 0) (h2 : D 5 i = v) : RE D i (i + 1) (fun _ => some v) := by
  refine ⟨by omega, fun m h hc l hl to N n hj ht hn => ?_⟩
  obtain ⟨a, b⟩ := hc i (Nat.le_refl _) (by omega)
  rw [h1] at a
  rw [h2] at b
  have e : i + 1 - i = 1 := by omega
  rw [e] at hn ⊢
  have i1 : vp_in (nI i) 200 := vp_in_nI (by omega) (by omega)
  have i2 : vp_in (nI n) 240 := vp_in_nI (by omega) (by omega)
  refine ⟨sI (sI m 255 n 0) 254 n v, fun o => ?_, Fr_sI (P := fun q x => (q = 254 ∨ q = 255) ∧ n ≤ x) (Fr_sI (P := fun q x => (q = 254 ∨ q = 255) ∧ n ≤ x) (Fr_refl _ m) ⟨.inr rfl, Nat.le_refl _⟩ _) ⟨.inl rfl, Nat.le_refl _⟩ _, ?_⟩
  · show f_X12_works_5b (f_X12_works_5 N) 225 (nI to) (nI n) (nI i) m o = _
    unfold f_X12_works_5b
    rw [if_neg (nI_ge (show i < to by omega) (by omega))]
    simp (config := {decide := true}) only [shT_225 h, shR_225_27 h, shR_225_28 h, shR_225_47 h, shR_225_48 h, shT_245 h, shN_245 h, shT_246 h, shN_246 h, shT_254 h, shN_254 h, shT_255 h, shN_255 h, a, b, i1, i2, ix_nI (show i < 2 ^ 31 by omega), ix_nI (show n < 2 ^ 31 by omega), f_X12_works_81, f_X12_works_117, f_X12_works_118, f_X12_works_121, gT_sI, gN_sI, gR_sI, gI_sI, nI_1, ne_eq, not_false_eq_true, and_self, and_true, true_and, and_false, false_and, true_or, or_true, false_or, or_false, not_true_eq_false, if_false, if_true]
    rfl
  · refine ⟨fun u z => ?_, fun z => by cases z⟩
    cases z
    refine ⟨?_, ?_⟩
    · rw [gI_sI, if_neg (by omega), gI_sI, if_pos ⟨rfl, rfl⟩]
    · rw [gI_sI, if_pos ⟨rfl, rfl⟩]
theorem RE_let {D : Nat → Nat → Int32} {i k : Nat} (h1 : D 4 i = 1) (h2 : D 5 i = lch k) (hk : k < 10) : RE D i (i + 1) (fun l => some (l k)) := by
  refine ⟨by omega, fun m h hc l hl to N n hj ht hn => ?_⟩
  obtain ⟨a, b⟩ := hc i (Nat.le_refl _) (by omega)
  rw [h1] at a
  rw [h2] at b
  have e : i + 1 - i = 1 := by omega
  rw [e] at hn ⊢
  have i1 : vp_in (nI i) 200 := vp_in_nI (by omega) (by omega)
  have i2 : vp_in (nI n) 240 := vp_in_nI (by omega) (by omega)
  have hv := hl (sI m 255 n 0) (Fr_sI (P := fun q _ => q = 254 ∨ q = 255) (Fr_refl _ m) (.inr rfl) _) k hk
  refine ⟨sI (sI m 255 n 0) 254 n (l k), fun o => ?_, Fr_sI (P := fun q x => (q = 254 ∨ q = 255) ∧ n ≤ x) (Fr_sI (P := fun q x => (q = 254 ∨ q = 255) ∧ n ≤ x) (Fr_refl _ m) ⟨.inr rfl, Nat.le_refl _⟩ _) ⟨.inl rfl, Nat.le_refl _⟩ _, ?_⟩
  · show f_X12_works_5b (f_X12_works_5 N) 225 (nI to) (nI n) (nI i) m o = _
    unfold f_X12_works_5b
    rw [if_neg (nI_ge (show i < to by omega) (by omega))]
    have z01 : ((0 : Int32) &&& 1) = 0 := by decide
    simp (config := {decide := true}) only [shT_225 h, shR_225_27 h, shR_225_28 h, shR_225_47 h, shR_225_48 h, shT_245 h, shN_245 h, shT_246 h, shN_246 h, shT_254 h, shN_254 h, shT_255 h, shN_255 h, a, b, i1, i2, ix_nI (show i < 2 ^ 31 by omega), ix_nI (show n < 2 ^ 31 by omega), z01, f_X12_works_81, f_X12_works_117, f_X12_works_118, f_X12_works_121, gT_sI, gN_sI, gR_sI, gI_sI, hv, bnd, nI_1, ne_eq, not_false_eq_true, and_self, and_true, true_and, and_false, false_and, true_or, or_true, false_or, or_false, not_true_eq_false, if_false, if_true]
  · refine ⟨fun u z => ?_, fun z => by cases z⟩
    cases z
    refine ⟨?_, ?_⟩
    · rw [gI_sI, if_neg (by omega), gI_sI, if_pos ⟨rfl, rfl⟩]
    · rw [gI_sI, if_pos ⟨rfl, rfl⟩]
theorem e_worked {op : Nat} (hop : isBin op ∨ isCmp op) (a b : Int32) : ∃ v, (∀ m o, F_X12_worked (nI op) a b m o = (v, m, o)) ∧ (isBin op → ∀ u, opV op a b = some u → v = u) ∧ (isCmp op → v = b2i (opT op a b)) ∧ (opV op a b = none → isBin op → (op = 47 ∨ op = 37) ∧ b = 0) ∧ (isBin op → (op = 47 ∨ op = 37) → b = 0 → opV op a b = none) := by
  rcases hop with (rfl | rfl | rfl | rfl | rfl) | (rfl | rfl | rfl)
  · by_cases q : b = 0
    · refine ⟨0, fun m o => ?_, fun _ u z => ?_, fun z => by unfold isCmp at z; omega, fun _ _ => ⟨.inr rfl, q⟩, fun _ _ _ => ?_⟩
      · unfold F_X12_worked f_X12_worked_0 f_X12_worked_103
        rw [if_pos (by decide), if_pos q]
      · unfold opV at z
        rw [if_pos rfl, if_pos q] at z
        cases z
      · unfold opV
        rw [if_pos rfl, if_pos q]
    · refine ⟨irm a b, fun m o => ?_, fun _ u z => ?_, fun z => by unfold isCmp at z; omega, fun z => ?_, fun _ _ z => absurd z q⟩
      · unfold F_X12_worked f_X12_worked_0 f_X12_worked_103
        rw [if_pos (by decide), if_neg q, eq_true q, and_true]
      · unfold opV at z
        rw [if_pos rfl, if_neg q] at z
        cases z
        rfl
      · unfold opV at z
        rw [if_pos rfl, if_neg q] at z
        cases z
  · refine ⟨a * b, fun m o => ?_, fun _ u z => ?_, fun z => by unfold isCmp at z; omega, fun z => ?_, fun _ z => by omega⟩
    · unfold F_X12_worked f_X12_worked_0
      rw [if_neg (by decide), if_pos (by decide)]
    · unfold opV at z
      rw [if_neg (by omega), if_pos rfl] at z
      cases z
      rfl
    · unfold opV at z
      rw [if_neg (by omega), if_pos rfl] at z
      cases z
  · refine ⟨a + b, fun m o => ?_, fun _ u z => ?_, fun z => by unfold isCmp at z; omega, fun z => ?_, fun _ z => by omega⟩
    · unfold F_X12_worked f_X12_worked_0
      rw [if_neg (by decide), if_neg (by decide), if_pos (by decide)]
    · unfold opV at z
      rw [if_neg (by omega), if_neg (by omega), if_pos rfl] at z
      cases z
      rfl
    · unfold opV at z
      rw [if_neg (by omega), if_neg (by omega), if_pos rfl] at z
      cases z
  · refine ⟨a - b, fun m o => ?_, fun _ u z => ?_, fun z => by unfold isCmp at z; omega, fun z => ?_, fun _ z => by omega⟩
    · unfold F_X12_worked f_X12_worked_0
      rw [if_neg (by decide), if_neg (by decide), if_neg (by decide), if_pos (by decide)]
    · unfold opV at z
      rw [if_neg (by omega), if_neg (by omega), if_neg (by omega), if_pos rfl] at z
      cases z
      rfl
    · unfold opV at z
      rw [if_neg (by omega), if_neg (by omega), if_neg (by omega), if_pos rfl] at z
      cases z
  · by_cases q : b = 0
    · refine ⟨0, fun m o => ?_, fun _ u z => ?_, fun z => by unfold isCmp at z; omega, fun _ _ => ⟨.inl rfl, q⟩, fun _ _ _ => ?_⟩
      · unfold F_X12_worked f_X12_worked_0 f_X12_worked_91
        rw [if_neg (by decide), if_neg (by decide), if_neg (by decide), if_neg (by decide), if_pos (by decide), if_pos q]
      · unfold opV at z
        rw [if_neg (by omega), if_neg (by omega), if_neg (by omega), if_neg (by omega), if_pos q] at z
        cases z
      · unfold opV
        rw [if_neg (by omega), if_neg (by omega), if_neg (by omega), if_neg (by omega), if_pos q]
    · refine ⟨a / b, fun m o => ?_, fun _ u z => ?_, fun z => by unfold isCmp at z; omega, fun z => ?_, fun _ _ z => absurd z q⟩
      · unfold F_X12_worked f_X12_worked_0 f_X12_worked_91
        rw [if_neg (by decide), if_neg (by decide), if_neg (by decide), if_neg (by decide), if_pos (by decide), if_neg q, eq_true q, and_true]
      · unfold opV at z
        rw [if_neg (by omega), if_neg (by omega), if_neg (by omega), if_neg (by omega), if_neg q] at z
        cases z
        rfl
      · unfold opV at z
        rw [if_neg (by omega), if_neg (by omega), if_neg (by omega), if_neg (by omega), if_neg q] at z
        cases z
  · refine ⟨b2i (opT 60 a b), fun m o => ?_, fun z => by unfold isBin at z; omega, fun _ => rfl, fun _ z => by unfold isBin at z; omega, fun z => by unfold isBin at z; omega⟩
    have eT : opT 60 a b = decide (a < b) := rfl
    unfold F_X12_worked f_X12_worked_0 f_X12_worked_114 b2i
    rw [eT, if_neg (by decide), if_neg (by decide), if_neg (by decide), if_neg (by decide), if_neg (by decide), if_pos (by decide)]
    by_cases q : b ≤ a
    · rw [if_pos q, if_neg (by rw [decide_eq_true_eq]; exact fun z => (fa_of_lt z).2.1 q)]
    · rw [if_neg q, if_pos (by rw [decide_eq_true_eq]; exact fa_of_nle q)]
  · refine ⟨b2i (opT 62 a b), fun m o => ?_, fun z => by unfold isBin at z; omega, fun _ => rfl, fun _ z => by unfold isBin at z; omega, fun z => by unfold isBin at z; omega⟩
    have eT : opT 62 a b = decide (b < a) := rfl
    unfold F_X12_worked f_X12_worked_0 f_X12_worked_125 b2i
    rw [eT, if_neg (by decide), if_neg (by decide), if_neg (by decide), if_neg (by decide), if_neg (by decide), if_neg (by decide), if_pos (by decide)]
    by_cases q : a ≤ b
    · rw [if_pos q, if_neg (by rw [decide_eq_true_eq]; exact fun z => (fa_of_lt z).2.1 q)]
    · rw [if_neg q, if_pos (by rw [decide_eq_true_eq]; exact fa_of_nle q)]
  · refine ⟨b2i (opT 61 a b), fun m o => ?_, fun z => by unfold isBin at z; omega, fun _ => rfl, fun _ z => by unfold isBin at z; omega, fun z => by unfold isBin at z; omega⟩
    have eT : opT 61 a b = decide (a = b) := rfl
    unfold F_X12_worked f_X12_worked_0 f_X12_worked_136 b2i
    rw [eT, if_neg (by decide), if_neg (by decide), if_neg (by decide), if_neg (by decide), if_neg (by decide), if_neg (by decide), if_neg (by decide)]
    by_cases q : a = b
    · rw [if_pos q, if_pos (by rw [decide_eq_true_eq]; exact q)]
    · rw [if_neg q, if_neg (by rw [decide_eq_true_eq]; exact q)]
/-- an operation of two worths on the other side -/
theorem e_does2 {op n : Nat} (hop : isBin op ∨ isCmp op) (hn : n + 1 < 240) {m : Mm} (h : Sh m) : ∃ r v, (∀ o, F_X12_does 225 (nI op) (nI n) m o = ((), sI (sI m 255 n r) 254 n v, o)) ∧ (∀ x y, okV x (gI m 255 n) (gI m 254 n) → okV y (gI m 255 (n + 1)) (gI m 254 (n + 1)) → (isBin op → okV (x.bind (fun a => y.bind (fun b => opV op a b))) r v) ∧ (isCmp op → okV (x.bind (fun a => y.bind (fun b => some (b2i (opT op a b))))) r v)) := by
  obtain ⟨v, w1, w2, w3, w4, w5⟩ := e_worked hop (gI m 254 n) (gI m 254 (n + 1))
  have i1 : vp_in (nI n) 240 := vp_in_nI (by omega) (by omega)
  have i2 : vp_in (nI (n + 1)) 240 := vp_in_nI (by omega) (by omega)
  have n38 : ¬ nI op = 38 := by rcases hop with (rfl | rfl | rfl | rfl | rfl) | (rfl | rfl | rfl) <;> decide
  have n124 : ¬ nI op = 124 := by rcases hop with (rfl | rfl | rfl | rfl | rfl) | (rfl | rfl | rfl) <;> decide
  have c47 : (nI op = 47) = (op = 47) := by rcases hop with (rfl | rfl | rfl | rfl | rfl) | (rfl | rfl | rfl) <;> decide
  have c37 : (nI op = 37) = (op = 37) := by rcases hop with (rfl | rfl | rfl | rfl | rfl) | (rfl | rfl | rfl) <;> decide
  have z0 : ((0 : Int32) &&& 1) = 0 := by decide
  have z1 : ((1 : Int32) &&& 1) = 1 := by decide
  have g1 : ∀ r x, gI (sI m 255 n r) 254 x = gI m 254 x := fun r x => by rw [gI_sI, if_neg (by omega)]
  have key : ∀ o, F_X12_does 225 (nI op) (nI n) m o = ((), sI (sI m 255 n (if gI m 255 n = 0 then (if gI m 255 (n + 1) = 0 then (if (op = 47 ∨ op = 37) ∧ gI m 254 (n + 1) = 0 then 1 else 0) else 1) else 1)) 254 n v, o) := fun o => by
    simp (config := {decide := true}) only [F_X12_does, f_X12_does_0, n38, n124, c47, c37, nI_1, shT_225 h, shR_225_47 h, shR_225_48 h, shT_254 h, shN_254 h, shT_255 h, shN_255 h, i1, i2, ix_nI (show n < 2 ^ 31 by omega), ix_nI (show n + 1 < 2 ^ 31 by omega), f_X12_does_106, f_X12_does_115, f_X12_does_119, f_X12_does_120, f_X12_does_121, f_X12_does_142, f_X12_does_143, z0, z1, gT_sI, gN_sI, gR_sI, g1, w1, bnd, ne_eq, not_false_eq_true, and_self, and_true, true_and, and_false, false_and, true_or, or_true, false_or, or_false, not_true_eq_false, if_false, if_true]
    by_cases q1 : gI m 255 n = 0
    · by_cases q2 : gI m 255 (n + 1) = 0
      · by_cases q3 : op = 47
        · by_cases q4 : gI m 254 (n + 1) = 0
          · simp only [q1, q2, q3, q4, if_true, true_or, and_self]
          · simp only [q1, q2, q3, q4, if_true, if_false, and_false]
        · by_cases q3' : op = 37
          · by_cases q4 : gI m 254 (n + 1) = 0
            · simp only [q1, q2, q3, q3', q4, if_true, if_false, or_true, and_self, ite_self]
            · simp only [q1, q2, q3, q3', q4, if_true, if_false, and_false, ite_self]
          · simp only [q1, q2, q3, q3', if_true, if_false, or_self, false_and]
      · simp only [q1, q2, if_true, if_false]
    · simp only [q1, if_false]
  refine ⟨_, v, key, fun x y hx hy => ?_⟩
  cases x with
  | none =>
    have : ¬ gI m 255 n = 0 := by rw [hx.2 rfl]; decide
    simp only [if_neg this]
    exact ⟨fun _ => ⟨fun u z => (by cases z), fun _ => rfl⟩, fun _ => ⟨fun u z => (by cases z), fun _ => rfl⟩⟩
  | some a =>
    obtain ⟨hx1, hx2⟩ := hx.1 a rfl
    simp only [if_pos hx1]
    cases y with
    | none =>
      have : ¬ gI m 255 (n + 1) = 0 := by rw [hy.2 rfl]; decide
      simp only [if_neg this]
      exact ⟨fun _ => ⟨fun u z => (by cases z), fun _ => rfl⟩, fun _ => ⟨fun u z => (by cases z), fun _ => rfl⟩⟩
    | some b =>
      obtain ⟨hy1, hy2⟩ := hy.1 b rfl
      simp only [if_pos hy1]
      rw [hx2, hy2] at w2 w3 w4 w5
      rw [hy2]
      refine ⟨fun hb => ?_, fun hc => ?_⟩
      · show okV (opV op a b) _ v
        cases hv : opV op a b with
        | none =>
          obtain ⟨q1, q2⟩ := w4 hv hb
          rw [if_pos ⟨q1, q2⟩]
          exact ⟨fun u z => (by cases z), fun _ => rfl⟩
        | some u =>
          rw [if_neg (fun z => by rw [w5 hb z.1 z.2] at hv; cases hv)]
          exact ⟨fun u' z => by cases z; exact ⟨rfl, w2 hb u hv⟩, fun z => by cases z⟩
      · show okV (some (b2i (opT op a b))) _ v
        rw [if_neg (fun z => by rcases hc with rfl | rfl | rfl <;> omega)]
        exact ⟨fun u' z => by cases z; exact ⟨rfl, w3 hc⟩, fun z => by cases z⟩
/-- two worths, one behind the other -/
theorem RE_two {D : Nat → Nat → Int32} {i j k : Nat} {V V' : (Nat → Int32) → Option Int32} (hL : RE D i j V) (hR : RE D j k V') : i < j ∧ j < k ∧ ∀ m, Sh m → (∀ x, i ≤ x → x < k → gI m 245 x = D 4 x ∧ gI m 246 x = D 5 x) → ∀ l, LetM m l → ∀ (to N n : Nat), k ≤ to → to ≤ 200 → n + (k - i) ≤ 240 → ∃ m', (∀ o, f_X12_works_5 (N + (k - i)) 225 (nI to) (nI n) (nI i) m o = f_X12_works_5 N 225 (nI to) (nI (n + 1 + 1)) (nI k) m' o) ∧ Fr (fun q x => (q = 254 ∨ q = 255) ∧ n ≤ x) m m' ∧ okV (V l) (gI m' 255 n) (gI m' 254 n) ∧ okV (V' l) (gI m' 255 (n + 1)) (gI m' 254 (n + 1)) := by
  obtain ⟨hij, cL⟩ := hL
  obtain ⟨hjk, cR⟩ := hR
  refine ⟨hij, hjk, fun m h hc l hl to N n hk ht hn => ?_⟩
  obtain ⟨m1, a1, a2, a3⟩ := cL m h (fun x a b => hc x a (by omega)) l hl to (N + (k - j)) n (by omega) ht (by omega)
  rw [show N + (k - j) + (j - i) = N + (k - i) by omega] at a1
  obtain ⟨m2, b1, b2, b3⟩ := cR m1 (Fr_Sh a2 h) (fun x a b => by rw [Fr_at a2 (by omega), Fr_at a2 (by omega)]; exact hc x (by omega) b) l (LetM_Fr hl (Fr_mono a2 (fun q x hq => hq.1))) to N (n + 1) hk ht (by omega)
  refine ⟨m2, fun o => (a1 o).trans (b1 o), Fr_trans a2 (Fr_mono b2 (fun q x hq => ⟨hq.1, by omega⟩)), ?_, b3⟩
  rw [Fr_at b2 (by omega), Fr_at b2 (by omega)]
  exact a3
theorem RE_op {D : Nat → Nat → Int32} {i j k op : Nat} {V V' : (Nat → Int32) → Option Int32} (hL : RE D i j V) (hR : RE D j k V') (hop : isBin op ∨ isCmp op) (h1 : D 4 k = nI op) : (isBin op → RE D i (k + 1) (vBin op V V')) ∧ (isCmp op → RE D i (k + 1) (tV (tCmp op V V'))) := by
  obtain ⟨hij, hjk, hT⟩ := RE_two hL hR
  have key : ∀ (m : Mm), Sh m → (∀ x, i ≤ x → x < k + 1 → gI m 245 x = D 4 x ∧ gI m 246 x = D 5 x) → ∀ l, LetM m l → ∀ (to N n : Nat), k + 1 ≤ to → to ≤ 200 → n + (k + 1 - i) ≤ 240 → ∃ m', (∀ o, f_X12_works_5 (N + (k + 1 - i)) 225 (nI to) (nI n) (nI i) m o = f_X12_works_5 N 225 (nI to) (nI (n + 1)) (nI (k + 1)) m' o) ∧ Fr (fun q x => (q = 254 ∨ q = 255) ∧ n ≤ x) m m' ∧ (isBin op → okV (vBin op V V' l) (gI m' 255 n) (gI m' 254 n)) ∧ (isCmp op → okV (tV (tCmp op V V') l) (gI m' 255 n) (gI m' 254 n)) := fun m h hc l hl to N n hk ht hn => by
    obtain ⟨m1, a1, a2, a3, a4⟩ := hT m h (fun x a b => hc x a (by omega)) l hl to (N + 1) n (by omega) ht (by omega)
    have s1 := Fr_Sh a2 h
    obtain ⟨r, v, b1, b2⟩ := e_does2 hop (n := n) (by omega) s1
    obtain ⟨b3, b4⟩ := b2 _ _ a3 a4
    have hop' : gI m1 245 k = nI op := by
      rw [Fr_at a2 (by omega)]
      exact (hc k (by omega) (by omega)).1.trans h1
    have n2 : ¬ nI op ≤ 2 := by rcases hop with (rfl | rfl | rfl | rfl | rfl) | (rfl | rfl | rfl) <;> decide
    have i1 : vp_in (nI k) 200 := vp_in_nI (by omega) (by omega)
    refine ⟨sI (sI m1 255 n r) 254 n v, fun o => ?_, Fr_sI (P := fun q x => (q = 254 ∨ q = 255) ∧ n ≤ x) (Fr_sI (P := fun q x => (q = 254 ∨ q = 255) ∧ n ≤ x) a2 ⟨.inr rfl, Nat.le_refl _⟩ _) ⟨.inl rfl, Nat.le_refl _⟩ _, fun hb => ?_, fun hb => ?_⟩
    · rw [show N + (k + 1 - i) = N + 1 + (k - i) by omega, a1]
      show f_X12_works_5b (f_X12_works_5 N) 225 (nI to) (nI (n + 1 + 1)) (nI k) m1 o = _
      unfold f_X12_works_5b
      rw [if_neg (nI_ge (show k < to by omega) (by omega))]
      simp (config := {decide := true}) only [shT_225 s1, shR_225_27 s1, shT_245 s1, shN_245 s1, hop', n2, i1, ix_nI (show k < 2 ^ 31 by omega), pk_m1, nI_sub1 (show 0 < n + 1 by omega), show n + 1 - 1 = n by omega, b1, bnd, f_X12_works_39, f_X12_works_121, nI_1, ne_eq, not_false_eq_true, and_self, and_true, true_and, and_false, false_and, true_or, or_true, false_or, or_false, not_true_eq_false, if_false, if_true]
    · rw [gI_sI, if_neg (by omega), gI_sI, if_pos ⟨rfl, rfl⟩, gI_sI, if_pos ⟨rfl, rfl⟩]
      exact b3 hb
    · rw [gI_sI, if_neg (by omega), gI_sI, if_pos ⟨rfl, rfl⟩, gI_sI, if_pos ⟨rfl, rfl⟩]
      have e : tV (tCmp op V V') l = (V l).bind (fun a => (V' l).bind (fun b => some (b2i (opT op a b)))) := by
        unfold tV tCmp
        cases V l with
        | none => rfl
        | some a => cases V' l <;> rfl
      rw [e]
      exact b4 hb
  refine ⟨fun hb => ⟨by omega, fun m h hc l hl to N n hk ht hn => ?_⟩, fun hb => ⟨by omega, fun m h hc l hl to N n hk ht hn => ?_⟩⟩
  · obtain ⟨m', a1, a2, a3, -⟩ := key m h hc l hl to N n hk ht hn
    exact ⟨m', a1, a2, a3 hb⟩
  · obtain ⟨m', a1, a2, -, a3⟩ := key m h hc l hl to N n hk ht hn
    exact ⟨m', a1, a2, a3 hb⟩
theorem RE_not {D : Nat → Nat → Int32} {i j : Nat} {T : (Nat → Int32) → Option Bool} (hT : RE D i j (tV T)) (h1 : D 4 j = 2) : RE D i (j + 1) (tV (tNot T)) := by
  obtain ⟨hij, hT⟩ := hT
  refine ⟨by omega, fun m h hc l hl to N n hk ht hn => ?_⟩
  obtain ⟨m1, a1, a2, a3⟩ := hT m h (fun x a b => hc x a (by omega)) l hl to (N + 1) n (by omega) ht (by omega)
  have s1 := Fr_Sh a2 h
  have hop' : gI m1 245 j = 2 := by
    rw [Fr_at a2 (by omega)]
    exact (hc j (by omega) (by omega)).1.trans h1
  have i1 : vp_in (nI j) 200 := vp_in_nI (by omega) (by omega)
  have i2 : vp_in (nI n) 240 := vp_in_nI (by omega) (by omega)
  refine ⟨sI m1 254 n (1 - gI m1 254 n), fun o => ?_, Fr_sI (P := fun q x => (q = 254 ∨ q = 255) ∧ n ≤ x) a2 ⟨.inl rfl, Nat.le_refl _⟩ _, ?_⟩
  · rw [show N + (j + 1 - i) = N + 1 + (j - i) by omega, a1]
    show f_X12_works_5b (f_X12_works_5 N) 225 (nI to) (nI (n + 1)) (nI j) m1 o = _
    unfold f_X12_works_5b
    rw [if_neg (nI_ge (show j < to by omega) (by omega))]
    simp (config := {decide := true}) only [shT_225 s1, shR_225_27 s1, shR_225_47 s1, shT_245 s1, shN_245 s1, shT_254 s1, shN_254 s1, hop', i1, i2, ix_nI (show j < 2 ^ 31 by omega), ix_nI (show n < 2 ^ 31 by omega), nI_sub1 (show 0 < n + 1 by omega), show n + 1 - 1 = n by omega, f_X12_works_71, f_X12_works_121, nI_1, ne_eq, not_false_eq_true, and_self, and_true, true_and, and_false, false_and, true_or, or_true, false_or, or_false, not_true_eq_false, if_false, if_true]
  · rw [gI_sI, if_neg (by omega), gI_sI, if_pos ⟨rfl, rfl⟩]
    unfold tV tNot at *
    cases hb : T l with
    | none =>
      rw [hb] at a3
      exact ⟨fun u z => (by cases z), fun _ => a3.2 rfl⟩
    | some b =>
      rw [hb] at a3
      obtain ⟨c1, c2⟩ := a3.1 _ rfl
      refine ⟨fun u z => ?_, fun z => by cases z⟩
      cases z
      rw [c2]
      exact ⟨c1, by cases b <;> decide⟩
theorem RE_andor {D : Nat → Nat → Int32} {i j k op : Nat} {A B : (Nat → Int32) → Option Bool} (hL : RE D i j (tV A)) (hR : RE D j k (tV B)) (hop : op = 38 ∨ op = 124) (h1 : D 4 k = nI op) : RE D i (k + 1) (tV (if op = 38 then tAnd A B else tOr A B)) := by
  obtain ⟨hij, hjk, hT⟩ := RE_two hL hR
  refine ⟨by omega, fun m h hc l hl to N n hk ht hn => ?_⟩
  obtain ⟨m1, a1, a2, a3, a4⟩ := hT m h (fun x a b => hc x a (by omega)) l hl to (N + 1) n (by omega) ht (by omega)
  have s1 := Fr_Sh a2 h
  have hop' : gI m1 245 k = nI op := by
    rw [Fr_at a2 (by omega)]
    exact (hc k (by omega) (by omega)).1.trans h1
  have n2 : ¬ nI op ≤ 2 := by rcases hop with rfl | rfl <;> decide
  have i0 : vp_in (nI k) 200 := vp_in_nI (by omega) (by omega)
  have i1 : vp_in (nI n) 240 := vp_in_nI (by omega) (by omega)
  have i2 : vp_in (nI (n + 1)) 240 := vp_in_nI (by omega) (by omega)
  have g1 : ∀ r x, gI (sI m1 254 n r) 255 x = gI m1 255 x := fun r x => by rw [gI_sI, if_neg (by omega)]
  -- what does() leaves
  have dz : ∃ m', (∀ o, F_X12_does 225 (nI op) (nI n) m1 o = ((), m', o)) ∧ Fr (fun q x => (q = 254 ∨ q = 255) ∧ n ≤ x) m1 m' ∧ okV (tV (if op = 38 then tAnd A B else tOr A B) l) (gI m' 255 n) (gI m' 254 n) := by
    unfold tV at a3 a4 ⊢
    cases hA : A l with
    | none =>
      rw [hA] at a3
      have r1 : ¬ gI m1 255 n = 0 := by rw [a3.2 rfl]; decide
      refine ⟨m1, fun o => ?_, Fr_refl _ _, ?_⟩
      · rcases hop with rfl | rfl
        · have e : nI 38 = 38 := rfl
          simp (config := {decide := true}) only [F_X12_does, f_X12_does_0, f_X12_does_16, f_X12_does_45, e, shT_225 s1, shR_225_48 s1, shT_255 s1, shN_255 s1, i1, ix_nI (show n < 2 ^ 31 by omega), r1, ne_eq, not_false_eq_true, and_self, and_true, true_and, and_false, false_and, true_or, or_true, false_or, or_false, not_true_eq_false, if_false, if_true]
        · have e : nI 124 = 124 := rfl
          simp (config := {decide := true}) only [F_X12_does, f_X12_does_0, f_X12_does_16, f_X12_does_45, e, shT_225 s1, shR_225_48 s1, shT_255 s1, shN_255 s1, i1, ix_nI (show n < 2 ^ 31 by omega), r1, ne_eq, not_false_eq_true, and_self, and_true, true_and, and_false, false_and, true_or, or_true, false_or, or_false, not_true_eq_false, if_false, if_true]
      · have e : (if op = 38 then tAnd A B else tOr A B) l = none := by
          split
          · unfold tAnd; rw [hA]; rfl
          · unfold tOr; rw [hA]; rfl
        rw [e]
        exact ⟨fun u z => (by cases z), fun _ => a3.2 rfl⟩
    | some a =>
      rw [hA] at a3
      obtain ⟨x1, x2⟩ := a3.1 _ rfl
      have cpy : ∀ m2, m2 = sI (sI m1 254 n (gI m1 254 (n + 1))) 255 n (gI m1 255 (n + 1) &&& 1) → Fr (fun q x => (q = 254 ∨ q = 255) ∧ n ≤ x) m1 m2 ∧ okV ((B l).map b2i) (gI m2 255 n) (gI m2 254 n) := fun m2 e => by
        subst e
        refine ⟨Fr_sI (P := fun q x => (q = 254 ∨ q = 255) ∧ n ≤ x) (Fr_sI (P := fun q x => (q = 254 ∨ q = 255) ∧ n ≤ x) (Fr_refl _ _) ⟨.inl rfl, Nat.le_refl _⟩ _) ⟨.inr rfl, Nat.le_refl _⟩ _, ?_⟩
        rw [gI_sI, if_pos ⟨rfl, rfl⟩, gI_sI, if_neg (by omega), gI_sI, if_pos ⟨rfl, rfl⟩]
        cases hB : B l with
        | none =>
          rw [hB] at a4
          exact ⟨fun u z => (by cases z), fun _ => by rw [a4.2 rfl]; decide⟩
        | some b =>
          rw [hB] at a4
          obtain ⟨y1, y2⟩ := a4.1 _ rfl
          exact ⟨fun u z => by cases z; exact ⟨by rw [y1]; decide, y2⟩, fun z => by cases z⟩
      rcases hop with rfl | rfl
      · have e : nI 38 = 38 := rfl
        rw [if_pos rfl]
        cases a with
        | true =>
          have x2 : gI m1 254 n = 1 := x2
          obtain ⟨c1, c2⟩ := cpy _ rfl
          refine ⟨_, fun o => ?_, c1, ?_⟩
          · simp (config := {decide := true}) only [F_X12_does, f_X12_does_0, f_X12_does_16, f_X12_does_42, f_X12_does_58, f_X12_does_70, e, shT_225 s1, shR_225_47 s1, shR_225_48 s1, shT_254 s1, shN_254 s1, shT_255 s1, shN_255 s1, i1, i2, ix_nI (show n < 2 ^ 31 by omega), ix_nI (show n + 1 < 2 ^ 31 by omega), nI_1, x1, x2, gT_sI, gN_sI, gR_sI, g1, ne_eq, not_false_eq_true, and_self, and_true, true_and, and_false, false_and, true_or, or_true, false_or, or_false, not_true_eq_false, if_false, if_true]
          · have e2 : tAnd A B l = B l := by unfold tAnd; rw [hA]; rfl
            rw [e2]
            exact c2
        | false =>
          have x2 : gI m1 254 n = 0 := x2
          refine ⟨m1, fun o => ?_, Fr_refl _ _, ?_⟩
          · simp (config := {decide := true}) only [F_X12_does, f_X12_does_0, f_X12_does_16, f_X12_does_42, f_X12_does_45, e, shT_225 s1, shR_225_47 s1, shR_225_48 s1, shT_254 s1, shN_254 s1, shT_255 s1, shN_255 s1, i1, i2, ix_nI (show n < 2 ^ 31 by omega), ix_nI (show n + 1 < 2 ^ 31 by omega), nI_1, x1, x2, ne_eq, not_false_eq_true, and_self, and_true, true_and, and_false, false_and, true_or, or_true, false_or, or_false, not_true_eq_false, if_false, if_true]
          · have e2 : tAnd A B l = some false := by unfold tAnd; rw [hA]; rfl
            rw [e2]
            exact ⟨fun u z => by cases z; exact ⟨x1, x2⟩, fun z => by cases z⟩
      · have e : nI 124 = 124 := rfl
        rw [if_neg (by omega)]
        cases a with
        | false =>
          have x2 : gI m1 254 n = 0 := x2
          obtain ⟨c1, c2⟩ := cpy _ rfl
          refine ⟨_, fun o => ?_, c1, ?_⟩
          · simp (config := {decide := true}) only [F_X12_does, f_X12_does_0, f_X12_does_16, f_X12_does_42, f_X12_does_58, f_X12_does_70, e, shT_225 s1, shR_225_47 s1, shR_225_48 s1, shT_254 s1, shN_254 s1, shT_255 s1, shN_255 s1, i1, i2, ix_nI (show n < 2 ^ 31 by omega), ix_nI (show n + 1 < 2 ^ 31 by omega), nI_1, x1, x2, gT_sI, gN_sI, gR_sI, g1, ne_eq, not_false_eq_true, and_self, and_true, true_and, and_false, false_and, true_or, or_true, false_or, or_false, not_true_eq_false, if_false, if_true]
          · have e2 : tOr A B l = B l := by unfold tOr; rw [hA]; rfl
            rw [e2]
            exact c2
        | true =>
          have x2 : gI m1 254 n = 1 := x2
          refine ⟨m1, fun o => ?_, Fr_refl _ _, ?_⟩
          · simp (config := {decide := true}) only [F_X12_does, f_X12_does_0, f_X12_does_16, f_X12_does_42, f_X12_does_45, e, shT_225 s1, shR_225_47 s1, shR_225_48 s1, shT_254 s1, shN_254 s1, shT_255 s1, shN_255 s1, i1, i2, ix_nI (show n < 2 ^ 31 by omega), ix_nI (show n + 1 < 2 ^ 31 by omega), nI_1, x1, x2, ne_eq, not_false_eq_true, and_self, and_true, true_and, and_false, false_and, true_or, or_true, false_or, or_false, not_true_eq_false, if_false, if_true]
          · have e2 : tOr A B l = some true := by unfold tOr; rw [hA]; rfl
            rw [e2]
            exact ⟨fun u z => by cases z; exact ⟨x1, x2⟩, fun z => by cases z⟩
  obtain ⟨m2, b1, b2, b3⟩ := dz
  refine ⟨m2, fun o => ?_, Fr_trans a2 b2, b3⟩
  rw [show N + (k + 1 - i) = N + 1 + (k - i) by omega, a1]
  show f_X12_works_5b (f_X12_works_5 N) 225 (nI to) (nI (n + 1 + 1)) (nI k) m1 o = _
  unfold f_X12_works_5b
  rw [if_neg (nI_ge (show k < to by omega) (by omega))]
  simp (config := {decide := true}) only [shT_225 s1, shR_225_27 s1, shT_245 s1, shN_245 s1, hop', n2, i0, ix_nI (show k < 2 ^ 31 by omega), pk_m1, nI_sub1 (show 0 < n + 1 by omega), show n + 1 - 1 = n by omega, b1, bnd, f_X12_works_39, f_X12_works_121, nI_1, ne_eq, not_false_eq_true, and_self, and_true, true_and, and_false, false_and, true_or, or_true, false_or, or_false, not_true_eq_false, if_false, if_true]
