/-! ===== the cheapest row that wins ===== -/
def bst (W : Nat → Prop) (R0 lim : Nat) : Prop := R0 < lim ∧ W R0 ∧ ∀ R, R < lim → W R → PN R0 < PN R ∨ (PN R0 = PN R ∧ R0 ≤ R)
theorem bst_one {W : Nat → Prop} {R R' lim : Nat} (h : bst W R lim) (h' : bst W R' lim) : R = R' := by
  have h1 := h.2.2 R' h'.1 h'.2.1
  have h2 := h'.2.2 R h.1 h.2.1
  omega
def dgC (m : Mm) (R p : Nat) : Prop := ∀ j, j < p → gI m 196 j = dgI (nI R) p j
theorem l_chR {w nd col p : Nat} (hp : p ≤ 4) {QC : Mm → Prop} (hQ : ∀ m, QC m → Sh m) (hww : isW w) {W : Nat → Prop} (HR : ∀ m R, QC m → R < 4 ^ p → ∃ m', (∀ o, F_X0_writeRow 194 (nI R) m o = (nI (PN R), m', o)) ∧ dgC m' R p ∧ QC m') (HW : ∀ m R, QC m → R < 4 ^ p → dgC m R p → ∃ m', (∀ o, F_X0_wins 194 2 w (nI col) (nI nd) m o = (cI (W R), m', o)) ∧ dgC m' R p ∧ QC m') {P : Nat} (hP : P ≤ 3 * p) (K : Nat → Nat → Nat → Int32 → Int32 → Int32 → Int32 → Mm → Prop → Int32 × Mm × Prop) : ∀ (k N i : Nat) (m : Mm), QC m → i + k = 4 ^ p → k < N → (∀ R, R < i → PN R = P → ¬ W R) → ∃ m', QC m' ∧ ((∃ R, R < 4 ^ p ∧ PN R = P ∧ W R ∧ (∀ R', R' < R → PN R' = P → ¬ W R') ∧ (∀ o, f_X0_cheapest_34 K N 194 2 w (nI col) (nI nd) (nI (4 ^ p)) (nI P) (nI i) m o = (nI P, m', o)) ∧ dgC m' R p) ∨ ((∀ R, R < 4 ^ p → PN R = P → ¬ W R) ∧ ∀ o, f_X0_cheapest_34 K N 194 2 w (nI col) (nI nd) (nI (4 ^ p)) (nI P) (nI i) m o = K 194 2 w (nI col) (nI nd) (nI (4 ^ p)) (nI (P + 1)) m' o)) := by
  have h256 := rows_le hp
  have n9 : ¬ w = 0 := by rcases hww with z | z <;> omega
  intro k
  induction k with
  | zero =>
    intro N i m hm hi hN hno
    obtain ⟨N, rfl⟩ : ∃ N1, N = N1 + 1 := ⟨N - 1, by omega⟩
    obtain rfl : i = 4 ^ p := by omega
    refine ⟨m, hm, .inr ⟨hno, fun o => ?_⟩⟩
    show f_X0_cheapest_34b K (f_X0_cheapest_34 K N) 194 2 w (nI col) (nI nd) (nI (4 ^ p)) (nI P) (nI (4 ^ p)) m o = _
    unfold f_X0_cheapest_34b
    rw [if_pos (Int32.le_refl _), nI_1]
  | succ k ih =>
    intro N i m hm hi hN hno
    obtain ⟨N, rfl⟩ : ∃ N1, N = N1 + 1 := ⟨N - 1, by omega⟩
    have hle : ¬ nI (4 ^ p) ≤ nI i := nI_ge (by omega) (by omega)
    have h := hQ m hm
    obtain ⟨m1, a1, a2, a3⟩ := HR m i hm (by omega)
    have h1 := hQ m1 a3
    obtain ⟨w0, -⟩ := w_sh h1 hww
    have pi : PN i ≤ 3 * p := PN_le hp (by omega)
    have eP : (nI (PN i) = nI P) = (PN i = P) := propext (nI_eq (by omega) (by omega))
    have pre : ∀ o, f_X0_cheapest_34b K (f_X0_cheapest_34 K N) 194 2 w (nI col) (nI nd) (nI (4 ^ p)) (nI P) (nI i) m o = f_X0_cheapest_47 K (f_X0_cheapest_34 K N) 194 2 w (nI col) (nI nd) (nI (4 ^ p)) (nI P) (nI i) (nI (PN i)) m1 o := fun o => by
      unfold f_X0_cheapest_34b
      rw [if_neg hle]
      simp (config := {decide := true}) only [bnd, shT_194 h, a1, ne_eq, not_false_eq_true, and_self, and_true, true_and, and_false, false_and, true_or, or_true, false_or, or_false, not_true_eq_false, if_false, if_true]
    have nxt : ∀ m2, QC m2 → ¬ (PN i = P ∧ W i) → (∀ o, f_X0_cheapest_34b K (f_X0_cheapest_34 K N) 194 2 w (nI col) (nI nd) (nI (4 ^ p)) (nI P) (nI i) m o = f_X0_cheapest_34 K N 194 2 w (nI col) (nI nd) (nI (4 ^ p)) (nI P) (nI (i + 1)) m2 o) → ∃ m', QC m' ∧ ((∃ R, R < 4 ^ p ∧ PN R = P ∧ W R ∧ (∀ R', R' < R → PN R' = P → ¬ W R') ∧ (∀ o, f_X0_cheapest_34 K (N + 1) 194 2 w (nI col) (nI nd) (nI (4 ^ p)) (nI P) (nI i) m o = (nI P, m', o)) ∧ dgC m' R p) ∨ ((∀ R, R < 4 ^ p → PN R = P → ¬ W R) ∧ ∀ o, f_X0_cheapest_34 K (N + 1) 194 2 w (nI col) (nI nd) (nI (4 ^ p)) (nI P) (nI i) m o = K 194 2 w (nI col) (nI nd) (nI (4 ^ p)) (nI (P + 1)) m' o)) := fun m2 hm2 hni he => by
      obtain ⟨m3, c1, c2⟩ := ih N (i + 1) m2 hm2 (by omega) (by omega) (fun R hR e => by
        by_cases q : R = i
        · subst q; exact fun z => hni ⟨e, z⟩
        · exact hno R (by omega) e)
      refine ⟨m3, c1, ?_⟩
      rcases c2 with ⟨R, r1, r2, r3, r4, r5, r6⟩ | ⟨r1, r2⟩
      · exact .inl ⟨R, r1, r2, r3, r4, fun o => (he o).trans (r5 o), r6⟩
      · exact .inr ⟨r1, fun o => (he o).trans (r2 o)⟩
    by_cases q : PN i = P
    · obtain ⟨m2, b1, b2, b3⟩ := HW m1 i a3 (by omega) a2
      have pre2 : ∀ o, f_X0_cheapest_34b K (f_X0_cheapest_34 K N) 194 2 w (nI col) (nI nd) (nI (4 ^ p)) (nI P) (nI i) m o = f_X0_cheapest_61 K (f_X0_cheapest_34 K N) 194 2 w (nI col) (nI nd) (nI (4 ^ p)) (nI P) (nI i) (cI (W i)) m2 o := fun o => by
        rw [pre]
        unfold f_X0_cheapest_47
        rw [if_pos (eP.mpr q)]
        simp (config := {decide := true}) only [bnd, shT_194 h1, shT_2 h1, w0, n9, b1, ne_eq, not_false_eq_true, and_self, and_true, true_and, and_false, false_and, true_or, or_true, false_or, or_false, not_true_eq_false, if_false, if_true]
      by_cases qW : W i
      · have ct : ¬ cI (W i) = 0 := fun z => absurd ((cI_t qW).symm.trans z) (by decide)
        refine ⟨m2, b3, .inl ⟨i, by omega, q, qW, hno, fun o => ?_, b2⟩⟩
        show f_X0_cheapest_34b K (f_X0_cheapest_34 K N) 194 2 w (nI col) (nI nd) (nI (4 ^ p)) (nI P) (nI i) m o = _
        rw [pre2]
        unfold f_X0_cheapest_61
        rw [if_neg ct]
      · refine nxt m2 b3 (fun z => qW z.2) (fun o => ?_)
        rw [pre2]
        unfold f_X0_cheapest_61 f_X0_cheapest_67
        rw [if_pos (cI_f qW), nI_1]
    · refine nxt m1 a3 (fun z => q z.1) (fun o => ?_)
      rw [pre]
      unfold f_X0_cheapest_47 f_X0_cheapest_67
      rw [if_neg (fun z => q (eP.mp z)), nI_1]
theorem l_chP {w nd col p : Nat} (hp : p ≤ 4) {QC : Mm → Prop} (hQ : ∀ m, QC m → Sh m) (hQ3 : ∀ m, QC m → gI m 194 3 = nI p) (hww : isW w) {W : Nat → Prop} (HR : ∀ m R, QC m → R < 4 ^ p → ∃ m', (∀ o, F_X0_writeRow 194 (nI R) m o = (nI (PN R), m', o)) ∧ dgC m' R p ∧ QC m') (HW : ∀ m R, QC m → R < 4 ^ p → dgC m R p → ∃ m', (∀ o, F_X0_wins 194 2 w (nI col) (nI nd) m o = (cI (W R), m', o)) ∧ dgC m' R p ∧ QC m') : ∀ (k N P : Nat) (m : Mm), QC m → P + k = 3 * p + 1 → k < N → (∀ R, R < 4 ^ p → PN R < P → ¬ W R) → ∃ m' v, (∀ o, f_X0_cheapest_20 N 194 2 w (nI col) (nI nd) (nI (4 ^ p)) (nI P) m o = (v, m', o)) ∧ QC m' ∧ ((v = -1 ∧ ∀ R, R < 4 ^ p → ¬ W R) ∨ ∃ R, bst W R (4 ^ p) ∧ v = nI (PN R) ∧ dgC m' R p) := by
  have h256 := rows_le hp
  have e3 : (3 : Int32) * nI p = nI (3 * p) := by rw [show (3 : Int32) = nI 3 from rfl, pk_mul]
  intro k
  induction k with
  | zero =>
    intro N P m hm hi hN hno
    obtain ⟨N, rfl⟩ : ∃ N1, N = N1 + 1 := ⟨N - 1, by omega⟩
    have h := hQ m hm
    have h3 := hQ3 m hm
    have hlt : nI (3 * p) < nI P := nI_lt (by omega) (by omega)
    refine ⟨m, -1, fun o => ?_, hm, .inl ⟨rfl, fun R hR => hno R hR (by have := PN_le hp hR; omega)⟩⟩
    show f_X0_cheapest_20b (f_X0_cheapest_20 N) 194 2 w (nI col) (nI nd) (nI (4 ^ p)) (nI P) m o = _
    unfold f_X0_cheapest_20b
    simp (config := {decide := true}) only [shT_194 h, h3, e3, hlt, ne_eq, not_false_eq_true, and_self, and_true, true_and, and_false, false_and, true_or, or_true, false_or, or_false, not_true_eq_false, if_false, if_true]
  | succ k ih =>
    intro N P m hm hi hN hno
    obtain ⟨N, rfl⟩ : ∃ N1, N = N1 + 1 := ⟨N - 1, by omega⟩
    have h := hQ m hm
    have h3 := hQ3 m hm
    have hlt : ¬ nI (3 * p) < nI P := nI_nlt (by omega) (by omega)
    have pre : ∀ o, f_X0_cheapest_20b (f_X0_cheapest_20 N) 194 2 w (nI col) (nI nd) (nI (4 ^ p)) (nI P) m o = f_X0_cheapest_34 (f_X0_cheapest_20 N) 1000 194 2 w (nI col) (nI nd) (nI (4 ^ p)) (nI P) 0 m o := fun o => by
      unfold f_X0_cheapest_20b
      simp (config := {decide := true}) only [shT_194 h, h3, e3, hlt, ne_eq, not_false_eq_true, and_self, and_true, true_and, and_false, false_and, true_or, or_true, false_or, or_false, not_true_eq_false, if_false, if_true]
    obtain ⟨m1, a1, a2⟩ := l_chR (nd := nd) (col := col) hp hQ hww HR HW (show P ≤ 3 * p by omega) (f_X0_cheapest_20 N) (4 ^ p) 1000 0 m hm (by omega) (by omega) (fun R hR => by omega)
    rw [nI_0] at a2
    rcases a2 with ⟨R, r1, r2, r3, r4, r5, r6⟩ | ⟨r1, r2⟩
    · refine ⟨m1, nI P, fun o => ?_, a1, .inr ⟨R, ⟨r1, r3, fun R' hR' w' => ?_⟩, by rw [r2], r6⟩⟩
      · show f_X0_cheapest_20b (f_X0_cheapest_20 N) 194 2 w (nI col) (nI nd) (nI (4 ^ p)) (nI P) m o = _
        rw [pre]; exact r5 o
      · by_cases q : PN R' < P
        · exact absurd w' (hno R' hR' q)
        · by_cases q2 : PN R' = P
          · refine .inr ⟨by omega, ?_⟩
            by_cases q3 : R' < R
            · exact absurd w' (r4 R' q3 q2)
            · omega
          · exact .inl (by omega)
    · obtain ⟨m2, v, b1, b2, b3⟩ := ih N (P + 1) m1 a1 (by omega) (by omega) (fun R hR hlt => by
        by_cases q : PN R = P
        · exact r1 R hR q
        · exact hno R hR (by omega))
      refine ⟨m2, v, fun o => ?_, b2, b3⟩
      show f_X0_cheapest_20b (f_X0_cheapest_20 N) 194 2 w (nI col) (nI nd) (nI (4 ^ p)) (nI P) m o = _
      rw [pre, r2]; exact b1 o
/-! the other side -/
def bsI (W : Nat → Prop) (be : Int32) (i : Nat) : Prop := (be = -1 ∧ ∀ R, R < i → ¬ W R) ∨ ∃ R, be = nI R ∧ bst W R i
def enM (y be : Int32) (m : Mm) (o : Prop) : Int32 × Mm × Prop := if be = -1 then (-2, m, o) else if y = 4 then bnd (F_X12_spreads 225 be m o) (fun _ m1 o1 => f_X12_campaign_235 225 y be m1 o1) else f_X12_campaign_235 225 y be m o
theorem l_bestM {nd col p : Nat} (hp : p ≤ 4) (y : Int32) {QM : Mm → Prop} (hQ : ∀ m, QM m → Sh m) (hQ3 : ∀ m, QM m → gI m 225 69 = nI p) {W : Nat → Prop} (HT : ∀ m R (be : Int32) (K : Nat → Int32 → Int32 → Int32 → Int32 → Int32 → Mm → Prop → Int32 × Mm × Prop), QM m → R < 4 ^ p → ∃ m', (∀ o, f_X12_campaign_172 K 225 (nI col) (nI nd) y be (nI R) m o = f_X12_campaign_200 K 225 (nI col) (nI nd) y be (nI R) (cI (W R)) m' o) ∧ QM m') : ∀ (k N i : Nat) (be : Int32) (m : Mm), QM m → bsI W be i → i + k = 4 ^ p → k < N → ∃ m' be', (∀ o, f_X12_campaign_137 N 225 (nI col) (nI nd) y be (nI i) m o = enM y be' m' o) ∧ QM m' ∧ bsI W be' (4 ^ p) := by
  have h256 := rows_le hp
  intro k
  induction k with
  | zero =>
    intro N i be m hm hb hi hN
    obtain ⟨N, rfl⟩ : ∃ N1, N = N1 + 1 := ⟨N - 1, by omega⟩
    obtain rfl : i = 4 ^ p := by omega
    have h := hQ m hm
    refine ⟨m, be, fun o => ?_, hm, hb⟩
    show f_X12_campaign_137b (f_X12_campaign_137 N) 225 (nI col) (nI nd) y be (nI (4 ^ p)) m o = _
    unfold f_X12_campaign_137b enM
    rw [hQ3 m hm, rows_n hp, if_pos (Int32.le_refl _)]
    simp (config := {decide := true}) only [shT_225 h, ne_eq, not_false_eq_true, and_self, and_true, true_and, and_false, false_and, true_or, or_true, false_or, or_false, not_true_eq_false, if_false, if_true]
  | succ k ih =>
    intro N i be m hm hb hi hN
    obtain ⟨N, rfl⟩ : ∃ N1, N = N1 + 1 := ⟨N - 1, by omega⟩
    have h := hQ m hm
    have hle : ¬ nI (4 ^ p) ≤ nI i := nI_ge (by omega) (by omega)
    have h3 := hQ3 m hm
    have rn := rows_n hp
    have keep : ∀ be' m1, QM m1 → bsI W be' (i + 1) → (∀ o, f_X12_campaign_137b (f_X12_campaign_137 N) 225 (nI col) (nI nd) y be (nI i) m o = f_X12_campaign_137 N 225 (nI col) (nI nd) y be' (nI (i + 1)) m1 o) → ∃ m' be', (∀ o, f_X12_campaign_137 (N + 1) 225 (nI col) (nI nd) y be (nI i) m o = enM y be' m' o) ∧ QM m' ∧ bsI W be' (4 ^ p) := fun be' m1 z1 z2 z3 => by
      obtain ⟨m2, b2, c1, c2⟩ := ih N (i + 1) be' m1 z1 z2 (by omega) (by omega)
      exact ⟨m2, b2, fun o => (z3 o).trans (c1 o), c2⟩
    have tried : (∀ o, f_X12_campaign_137b (f_X12_campaign_137 N) 225 (nI col) (nI nd) y be (nI i) m o = f_X12_campaign_172 (f_X12_campaign_137 N) 225 (nI col) (nI nd) y be (nI i) m o) → (W i → bst W i (i + 1)) → (¬ W i → bsI W be (i + 1)) → ∃ m' be', (∀ o, f_X12_campaign_137 (N + 1) 225 (nI col) (nI nd) y be (nI i) m o = enM y be' m' o) ∧ QM m' ∧ bsI W be' (4 ^ p) := fun z1 z2 z3 => by
      obtain ⟨m1, a1, a2⟩ := HT m i be (f_X12_campaign_137 N) hm (by omega)
      by_cases q : W i
      · have ct : ¬ cI (W i) = 0 := fun z => absurd ((cI_t q).symm.trans z) (by decide)
        refine keep (nI i) m1 a2 (.inr ⟨i, rfl, z2 q⟩) (fun o => ?_)
        rw [z1, a1]
        unfold f_X12_campaign_200 f_X12_campaign_209
        rw [if_neg ct, nI_1]
      · refine keep be m1 a2 (z3 q) (fun o => ?_)
        rw [z1, a1]
        unfold f_X12_campaign_200 f_X12_campaign_209
        rw [if_pos (cI_f q), nI_1]
    rcases hb with ⟨rfl, hno⟩ | ⟨R, rfl, hb⟩
    · refine tried (fun o => ?_) (fun w => ⟨by omega, w, fun R hR w' => ?_⟩) (fun nw => .inl ⟨rfl, fun R hR => ?_⟩)
      · unfold f_X12_campaign_137b
        rw [h3, rn, if_neg hle, if_pos rfl]
        simp (config := {decide := true}) only [shT_225 h, ne_eq, not_false_eq_true, and_self, and_true, true_and, and_false, false_and, true_or, or_true, false_or, or_false, not_true_eq_false, if_false, if_true]
      · by_cases q : R = i
        · subst q; exact .inr ⟨rfl, Nat.le_refl _⟩
        · exact absurd w' (hno R (by omega))
      · by_cases q : R = i
        · subst q; exact nw
        · exact hno R (by omega)
    · have hRi := hb.1
      have nb : ¬ nI R = -1 := nI_ne_m1 (by omega)
      have p1 : PN R ≤ 3 * p := PN_le hp (by omega)
      have p2 : PN i ≤ 3 * p := PN_le hp (by omega)
      have el : (nI (PN i) < nI (PN R)) = (PN i < PN R) := propext (nI_ltI (by omega) (by omega))
      have pre : ∀ o, f_X12_campaign_137b (f_X12_campaign_137 N) 225 (nI col) (nI nd) y (nI R) (nI i) m o = if PN i < PN R then f_X12_campaign_172 (f_X12_campaign_137 N) 225 (nI col) (nI nd) y (nI R) (nI i) m o else f_X12_campaign_137 N 225 (nI col) (nI nd) y (nI R) (nI (i + 1)) m o := fun o => by
        unfold f_X12_campaign_137b
        rw [h3, rn, if_neg hle, if_neg nb]
        simp (config := {decide := true}) only [f_X12_campaign_161, f_X12_campaign_166, f_X12_campaign_209, bnd, e_pence (show i < 2 ^ 31 by omega), e_pence (show R < 2 ^ 31 by omega), shT_225 h, el, nI_1, ne_eq, not_false_eq_true, and_self, and_true, true_and, and_false, false_and, true_or, or_true, false_or, or_false, not_true_eq_false, if_false, if_true]
      by_cases q : PN i < PN R
      · refine tried (fun o => by rw [pre, if_pos q]) (fun w => ⟨by omega, w, fun R' hR' w' => ?_⟩) (fun nw => .inr ⟨R, rfl, by omega, hb.2.1, fun R' hR' w' => ?_⟩)
        · by_cases z : R' = i
          · subst z; exact .inr ⟨rfl, Nat.le_refl _⟩
          · have := hb.2.2 R' (by omega) w'
            exact .inl (by omega)
        · by_cases z : R' = i
          · subst z; exact absurd w' nw
          · exact hb.2.2 R' (by omega) w'
      · refine keep (nI R) m hm (.inr ⟨R, rfl, by omega, hb.2.1, fun R' hR' w' => ?_⟩) (fun o => by rw [pre, if_neg q])
        by_cases z : R' = i
        · subst z
          by_cases z2 : PN R < PN R'
          · exact .inl z2
          · exact .inr ⟨by omega, by omega⟩
        · exact hb.2.2 R' (by omega) w'
