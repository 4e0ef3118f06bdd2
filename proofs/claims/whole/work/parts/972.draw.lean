/-! ===== draw ===== -/
theorem up_self {a : Nat → Nat → Int32} {j i : Nat} {v : Int32} (h : a j i = v) : up a j i v = a := by
  funext x y
  unfold up
  by_cases q : x = j ∧ y = i
  · rw [if_pos q, q.1, q.2, h]
  · rw [if_neg q]
theorem irm_nI {a d : Nat} (ha : a < 2 ^ 31) (h0 : 0 < d) (hd : d < 2 ^ 31) : irm (nI a) (nI d) = nI (a % d) := pk_rem ha h0 hd
def nxX (d X : Nat) : Nat := if d = 1 then (if X < 9 then X + 1 else 9) else if d = 3 then X - 1 else X
def nxY (d Y : Nat) : Nat := if d = 0 then (if Y < 9 then Y + 1 else 9) else if d = 2 then Y - 1 else Y
theorem nx_9 {d X : Nat} (h : X ≤ 9) : nxX d X ≤ 9 ∧ nxY d X ≤ 9 := by
  unfold nxX nxY
  constructor <;> (repeat' split) <;> omega
def mv (a : Nat → Nat → Int32) (e X Y : Nat) : Nat → Nat → Int32 := up (up a (31 + 2 * e) 0 (nI X)) (31 + 2 * e) 1 (nI Y)
theorem e_step {m : Mm} (h : Sh m) {p e : Nat} (hp : isMd p) (he : e < 16) {a : Nat → Nat → Int32} (hM : Md m p a) {X Y d : Nat} (hX : X ≤ 9) (hY : Y ≤ 9) (ex : a (31 + 2 * e) 0 = nI X) (ey : a (31 + 2 * e) 1 = nI Y) (hd : d < 4) : ∃ m', (∀ o, F_X1_step (p + 31 + 2 * e) (nI d) m o = ((), m', o)) ∧ Md m' p (mv a e (nxX d X) (nxY d Y)) ∧ Fr (fun q _ => q = p + 31 + 2 * e) m m' := by
  obtain ⟨-, v2, -⟩ := md_cow h hp he
  have gx : gI m (p + 31 + 2 * e) 0 = nI X := (Md_at hM (j := 31 + 2 * e) (by omega) (by omega) (by omega)).trans ex
  have gy : gI m (p + 31 + 2 * e) 1 = nI Y := (Md_at hM (j := 31 + 2 * e) (by omega) (by omega) (by omega)).trans ey
  have inc : ∀ Z, Z ≤ 9 → (if nI Z + 1 < (9 : Int32) then nI Z + 1 else (9 : Int32)) = nI (if Z < 9 then Z + 1 else 9) := fun Z hZ => by
    rw [nI_1]
    have e1 : (nI (Z + 1) < (9 : Int32)) = (Z + 1 < 9) := propext (nI_ltI (a := Z + 1) (b := 9) (by omega) (by omega))
    simp only [e1]
    by_cases q : Z + 1 < 9
    · rw [if_pos q, if_pos (by omega)]
    · rw [if_neg q]
      by_cases q2 : Z < 9
      · rw [if_pos q2, show Z + 1 = 9 by omega]; rfl
      · rw [if_neg q2]; rfl
  have dcr : ∀ Z, Z ≤ 9 → (if (0 : Int32) < nI Z - 1 then nI Z - 1 else (0 : Int32)) = nI (Z - 1) := fun Z hZ => by
    by_cases q : Z = 0
    · subst q; decide
    · rw [nI_sub1 (by omega)]
      have e1 : ((0 : Int32) < nI (Z - 1)) = (0 < Z - 1) := propext (nI_ltI (a := 0) (b := Z - 1) (by omega) (by omega))
      simp only [e1]
      by_cases q2 : 0 < Z - 1
      · rw [if_pos q2]
      · rw [if_neg q2, show Z - 1 = 0 by omega]; rfl
  have hx : up a (31 + 2 * e) 0 (nI X) = a := up_self ex
  have hy : ∀ v, up (up a (31 + 2 * e) 0 v) (31 + 2 * e) 1 (nI Y) = up a (31 + 2 * e) 0 v := fun v => up_self (by rw [up_ne _ _ (by omega)]; exact ey)
  have : d = 0 ∨ d = 1 ∨ d = 2 ∨ d = 3 := by omega
  rcases this with rfl | rfl | rfl | rfl
  · refine ⟨sI m (p + 31 + 2 * e) 1 (nI (nxY 0 Y)), fun o => ?_, ?_, Fr_sI (Fr_refl _ m) (by rfl) _⟩
    · have : nI 0 = (0 : Int32) := rfl
      simp (config := {decide := true}) only [f_X1_step_81, f_X1_step_19, f_X1_step_42, f_X1_step_64, f_X1_step_0, F_X1_step, this, v2, gx, gy, inc Y hY, nxY, ne_eq, not_false_eq_true, and_self, and_true, true_and, and_false, false_and, true_or, or_true, false_or, or_false, not_true_eq_false, if_false, if_true]
    · unfold mv
      rw [show nxX 0 X = X from rfl, hx]
      exact Md_up' hM 1 _ (by omega)
  · refine ⟨sI m (p + 31 + 2 * e) 0 (nI (nxX 1 X)), fun o => ?_, ?_, Fr_sI (Fr_refl _ m) (by rfl) _⟩
    · have : nI 1 = (1 : Int32) := rfl
      simp (config := {decide := true}) only [f_X1_step_81, f_X1_step_19, f_X1_step_42, f_X1_step_64, f_X1_step_0, F_X1_step, this, v2, gx, gy, inc X hX, nxX, ne_eq, not_false_eq_true, and_self, and_true, true_and, and_false, false_and, true_or, or_true, false_or, or_false, not_true_eq_false, if_false, if_true]
    · unfold mv
      rw [show nxY 1 Y = Y from rfl, hy]
      exact Md_up' hM 0 _ (by omega)
  · refine ⟨sI m (p + 31 + 2 * e) 1 (nI (nxY 2 Y)), fun o => ?_, ?_, Fr_sI (Fr_refl _ m) (by rfl) _⟩
    · have : nI 2 = (2 : Int32) := rfl
      simp (config := {decide := true}) only [f_X1_step_81, f_X1_step_19, f_X1_step_42, f_X1_step_64, f_X1_step_0, F_X1_step, this, v2, gx, gy, dcr Y hY, nxY, ne_eq, not_false_eq_true, and_self, and_true, true_and, and_false, false_and, true_or, or_true, false_or, or_false, not_true_eq_false, if_false, if_true]
    · unfold mv
      rw [show nxX 2 X = X from rfl, hx]
      exact Md_up' hM 1 _ (by omega)
  · refine ⟨sI m (p + 31 + 2 * e) 0 (nI (nxX 3 X)), fun o => ?_, ?_, Fr_sI (Fr_refl _ m) (by rfl) _⟩
    · have : nI 3 = (3 : Int32) := rfl
      simp (config := {decide := true}) only [f_X1_step_81, f_X1_step_19, f_X1_step_42, f_X1_step_64, f_X1_step_0, F_X1_step, this, v2, gx, gy, dcr X hX, nxX, ne_eq, not_false_eq_true, and_self, and_true, true_and, and_false, false_and, true_or, or_true, false_or, or_false, not_true_eq_false, if_false, if_true]
    · unfold mv
      rw [show nxY 3 Y = Y from rfl, hy]
      exact Md_up' hM 0 _ (by omega)
/-- X ahead of a day, and the cow that goes -/
def nxL (x : Nat) : Nat := (25173 * x + 13849) % 65536
def mvA (a : Nat → Nat → Int32) (c : Nat) : Nat → Nat → Int32 := if nxL (ix (a 0 11)) % 16 < c then mv (up a 0 11 (nI (nxL (ix (a 0 11))))) (nxL (ix (a 0 11)) % 16) (nxX (nxL (ix (a 0 11)) / 16 % 4) (ix (a (31 + 2 * (nxL (ix (a 0 11)) % 16)) 0))) (nxY (nxL (ix (a 0 11)) / 16 % 4) (ix (a (31 + 2 * (nxL (ix (a 0 11)) % 16)) 1))) else up a 0 11 (nI (nxL (ix (a 0 11))))
theorem WfA_luck {a : Nat → Nat → Int32} {n c : Nat} (hW : WfA a n c) {x : Nat} (hx : x < 65536) : WfA (up a 0 11 (nI x)) n c := by
  obtain ⟨⟨⟨w1, w2⟩, w3, w4, w5, w6⟩, w7, w8, w9, w10⟩ := hW
  have v0 : ∀ i, i ≠ 11 → up a 0 11 (nI x) 0 i = a 0 i := fun i hi => up_ne _ _ (by omega)
  have ne : ∀ j, j ≠ 0 → up a 0 11 (nI x) j = a j := fun j hj => funext (fun i => up_ne _ _ (by omega))
  refine ⟨⟨⟨w1, w2⟩, by rw [v0 6 (by omega)]; exact w3, by rw [v0 7 (by omega)]; exact w4, by rw [v0 8 (by omega), v0 9 (by omega)]; exact w5, ⟨x, hx, up_same _ _ _ _⟩⟩, fun s hs => by rw [ne _ (by omega)]; exact w7 s hs, ?_, fun i hi => by rw [ne _ (by omega), ne _ (by omega)]; exact w9 i hi, fun s hs i h1 h2 => by rw [ne _ (by omega)]; exact w10 s hs i h1 h2⟩
  rw [hsum_congr (g := fun s => a (7 + 2 * s) 3) (fun s hs => by rw [ne _ (by omega)])]
  exact w8
theorem WfA_mv {a : Nat → Nat → Int32} {n c e X Y : Nat} (hW : WfA a n c) (he : e < c) (hX : X ≤ 9) (hY : Y ≤ 9) : WfA (mv a e X Y) n c := by
  have hn := hW.1.1.1
  obtain ⟨w0, w7, w8, w9, w10⟩ := hW
  have ne : ∀ j, j ≠ 31 + 2 * e → mv a e X Y j = a j := fun j hj => funext (fun i => by unfold mv; rw [up_ne _ _ (by omega), up_ne _ _ (by omega)])
  refine ⟨by rw [ne _ (by omega)]; exact w0, fun s hs => by rw [ne _ (by omega)]; exact w7 s hs, ?_, fun i hi => ?_, fun s hs i h1 h2 => by rw [ne _ (by omega)]; exact w10 s hs i h1 h2⟩
  · rw [hsum_congr (g := fun s => a (7 + 2 * s) 3) (fun s hs => by rw [ne _ (by omega)])]
    exact w8
  · rw [ne (32 + 2 * i) (by omega)]
    by_cases q : i = e
    · subst q
      obtain ⟨q0, q1, q2, q3, q4, q5⟩ := w9 i hi
      have nf : ∀ f, 2 ≤ f → mv a i X Y (31 + 2 * i) f = a (31 + 2 * i) f := fun f hf => by unfold mv; rw [up_ne _ _ (by omega), up_ne _ _ (by omega)]
      refine ⟨⟨X, hX, ?_⟩, ⟨Y, hY, ?_⟩, by rw [nf 2 (by omega)]; exact q2, by rw [nf 3 (by omega)]; exact q3, by rw [nf 4 (by omega)]; exact q4, q5⟩
      · unfold mv
        rw [up_ne _ _ (by omega), up_same]
      · unfold mv
        rw [up_same]
    · rw [ne _ (by omega)]
      exact w9 i hi
theorem WfA_mvA {a : Nat → Nat → Int32} {n c : Nat} (hW : WfA a n c) : WfA (mvA a c) n c := by
  have hL : nxL (ix (a 0 11)) < 65536 := Nat.mod_lt _ (by omega)
  unfold mvA
  by_cases q : nxL (ix (a 0 11)) % 16 < c
  · rw [if_pos q]
    obtain ⟨⟨X, hX, ex⟩, ⟨Y, hY, ey⟩, -⟩ := hW.2.2.2.1 _ q
    rw [ex, ey, ix_nI (by omega), ix_nI (by omega)]
    exact WfA_mv (WfA_luck hW hL) q (nx_9 hX).1 (nx_9 hY).2
  · rw [if_neg q]
    exact WfA_luck hW hL
theorem e_moveBy {m : Mm} (h : Sh m) {p : Nat} (hp : isMd p) {a : Nat → Nat → Int32} {n c : Nat} (hM : Md m p a) (hW : WfA a n c) : ∃ m', (∀ o, F_X5_moveByChance p m o = ((), m', o)) ∧ Md m' p (mvA a c) ∧ Fr (fun q _ => inM p q) m m' := by
  have hc := hW.1.1.2
  obtain ⟨x, hx, ex⟩ := hW.1.2.2.2.2
  obtain ⟨t1, -, -, -, t5, t6, t7, -⟩ := md_top h hp
  have g11 : gI m p 11 = nI x := (hM 0 11 (by omega) (by omega)).trans ex
  have g7 : gI m p 7 = nI c := (hM 0 7 (by omega) (by omega)).trans hW.1.2.2.1
  have e1 : irm (((25173 : Int32) * nI x) + (13849 : Int32)) (65536 : Int32) = nI (nxL x) := by
    rw [(show (25173 : Int32) * nI (x) = nI (25173 * x) by rw [show (25173 : Int32) = nI 25173 from rfl, pk_mul]), show (13849 : Int32) = nI 13849 from rfl, nI_add]
    exact irm_nI (d := 65536) (by omega) (by omega) (by omega)
  have hL : nxL x < 65536 := Nat.mod_lt _ (by omega)
  have e2 : irm (nI (nxL x)) (16 : Int32) = nI (nxL x % 16) := irm_nI (d := 16) (by omega) (by omega) (by omega)
  have e3 : nI (nxL x) / (16 : Int32) = nI (nxL x / 16) := pk_div (d := 16) (by omega) (by omega) (by omega)
  have e4 : irm (nI (nxL x / 16)) (4 : Int32) = nI (nxL x / 16 % 4) := irm_nI (d := 4) (by omega) (by omega) (by omega)
  have d1 : ((65536 : Int32) = 0) = False := by decide
  have d2 : ((16 : Int32) = 0) = False := by decide
  have d3 : ((4 : Int32) = 0) = False := by decide
  have M1 := Md_up' hM (q := p) (j := 0) 11 (nI (nxL x)) rfl
  have iM : inM p p := by unfold inM; omega
  have F1 : Fr (fun q _ => inM p q) m (sI m p 11 (nI (nxL x))) := Fr_sI (Fr_refl _ m) (by exact iM) _
  have h1 : Sh (sI m p 11 (nI (nxL x))) := h
  have ix1 : ix (a 0 11) = x := by rw [ex]; exact ix_nI (by omega)
  have n2 : ¬ p + 2 = 0 := by omega
  unfold mvA
  rw [ix1]
  by_cases q : nxL x % 16 < c
  · rw [if_pos q]
    obtain ⟨⟨X, hX, eX⟩, ⟨Y, hY, eY⟩, -⟩ := hW.2.2.2.1 _ q
    have eX' : up a 0 11 (nI (nxL x)) (31 + 2 * (nxL x % 16)) 0 = nI X := by rw [up_ne _ _ (by omega)]; exact eX
    have eY' : up a 0 11 (nI (nxL x)) (31 + 2 * (nxL x % 16)) 1 = nI Y := by rw [up_ne _ _ (by omega)]; exact eY
    rw [eX, eY, ix_nI (by omega), ix_nI (by omega)]
    obtain ⟨m2, b1, b2, b3⟩ := e_step h1 hp (e := nxL x % 16) (by omega) M1 (d := nxL x / 16 % 4) hX hY eX' eY' (by omega)
    have hle : ¬ nI c ≤ nI (nxL x % 16) := nI_ge q (by omega)
    obtain ⟨v1, v2, -⟩ := md_cow h hp (show nxL x % 16 < 16 by omega)
    have n3 : ¬ p + 31 + 2 * (nxL x % 16) = 0 := by omega
    have hin : vp_in (nI (nxL x % 16)) 16 := vp_in_nI (by omega) (by omega)
    refine ⟨m2, fun o => ?_, b2, Fr_trans F1 (Fr_mono b3 (fun q i hq => by unfold inM; omega))⟩
    simp (config := {decide := true}) only [f_X5_moveByChance_53, f_X5_moveByChance_19, f_X5_moveByChance_0, F_X5_moveByChance, bnd, t1, t5, t6, t7, g11, g7, e1, e2, e3, e4, d1, d2, d3, gI_sI, gT_sI, gR_sI, gN_sI, hle, n2, n3, v1, v2, hin, ix_nI (show nxL x % 16 < 2 ^ 31 by omega), b1, ne_eq, not_false_eq_true, and_self, and_true, true_and, and_false, false_and, true_or, or_true, false_or, or_false, not_true_eq_false, if_false, if_true]
  · rw [if_neg q]
    have hle : nI c ≤ nI (nxL x % 16) := nI_le (by omega) (by omega)
    refine ⟨sI m p 11 (nI (nxL x)), fun o => ?_, M1, F1⟩
    simp (config := {decide := true}) only [f_X5_moveByChance_53, f_X5_moveByChance_19, f_X5_moveByChance_0, F_X5_moveByChance, t1, g11, g7, e1, e2, d1, d2, gI_sI, gT_sI, hle, ne_eq, not_false_eq_true, and_self, and_true, true_and, and_false, false_and, true_or, or_true, false_or, or_false, not_true_eq_false, if_false, if_true]
/-! the other side -/
theorem MM_luck {m : Mm} {a : Nat → Nat → Int32} {n c : Nat} {d : Nat → Int32} (h : MM m a n c d) (v : Int32) : MM (sI m 225 5 v) (up a 0 11 v) n c d := by
  obtain ⟨⟨h1, h2, h3, h4⟩, h5⟩ := h
  have er : rws (sI m 225 5 v) 227 = rws m 227 := by
    funext f i
    unfold rws
    rw [gI_sI, if_neg (by omega)]
  have ne : ∀ j, j ≠ 0 → up a 0 11 v j = a j := fun j hj => funext (fun i => up_ne _ _ (by omega))
  have v0 : ∀ i, i ≠ 11 → up a 0 11 v 0 i = a 0 i := fun i hi => up_ne _ _ (by omega)
  refine ⟨?_, ?_⟩
  · rw [er]
    refine ⟨fun s hs => by rw [ne _ (by omega)]; exact h1 s hs, fun i hi => by rw [ne _ (by omega), ne _ (by omega)]; exact h2 i hi, fun j hj => by rw [ne _ (by omega)]; exact h3 j hj, fun s hs i hi => by rw [ne _ (by omega)]; exact h4 s hs i hi⟩
  · obtain ⟨n0, n1, n2, n3, n4, n5⟩ := h5
    unfold eN
    rw [v0 6 (by omega), v0 7 (by omega), v0 8 (by omega), v0 9 (by omega), v0 10 (by omega), up_same]
    exact ⟨n0, n1, n2, n3, n4, rfl⟩
theorem MM_Q {m : Mm} {a : Nat → Nat → Int32} {n c : Nat} {d : Nat → Int32} (h : MM m a n c d) {e : Nat} (he : e < c) (hn : n ≤ 12) (hc : c ≤ 16) (X Y : Nat) : MM (sI m 234 e (10 * nI Y + nI X)) (mv a e X Y) n c d := by
  obtain ⟨⟨h1, h2, h3, h4⟩, h5⟩ := h
  have er : rws (sI m 234 e (10 * nI Y + nI X)) 227 = up (rws m 227) 7 e (10 * nI Y + nI X) := rws_sI m 7 e _
  have ec : cnum (sI m 234 e (10 * nI Y + nI X)) = cnum m := cnum_sI m 7 e _
  have ne : ∀ j, j ≠ 31 + 2 * e → mv a e X Y j = a j := fun j hj => funext (fun i => by unfold mv; rw [up_ne _ _ (by omega), up_ne _ _ (by omega)])
  refine ⟨?_, ?_⟩
  · rw [er]
    refine ⟨fun t ht => ?_, fun j hj => ?_, fun j hj => ?_, fun t ht j hj => ?_⟩
    · have := h1 t ht
      unfold eS at this ⊢
      have e1 : ∀ g, g ≤ 6 → ∀ y, up (rws m 227) 7 e (10 * nI Y + nI X) g y = rws m 227 g y := fun g hg y => up_ne _ _ (by omega)
      simp only [e1 0 (by omega), e1 1 (by omega), e1 2 (by omega), e1 3 (by omega), e1 4 (by omega), e1 5 (by omega), e1 6 (by omega), ne (7 + 2 * t) (by omega)]
      exact this
    · have := h2 j hj
      unfold eC at this ⊢
      have e1 : ∀ g, g ≠ 7 → ∀ y, up (rws m 227) 7 e (10 * nI Y + nI X) g y = rws m 227 g y := fun g hg y => up_ne _ _ (by omega)
      simp only [e1 8 (by omega), e1 9 (by omega), e1 10 (by omega), e1 11 (by omega), ne (32 + 2 * j) (by omega)]
      obtain ⟨q1, q2, q3, q4, q5⟩ := this
      by_cases q : j = e
      · subst q
        have nf : ∀ f, 2 ≤ f → mv a j X Y (31 + 2 * j) f = a (31 + 2 * j) f := fun f hf => by unfold mv; rw [up_ne _ _ (by omega), up_ne _ _ (by omega)]
        refine ⟨?_, by rw [nf 2 (by omega)]; exact q2, by rw [nf 3 (by omega)]; exact q3, by rw [nf 4 (by omega)]; exact q4, q5⟩
        have e1 : up (rws m 227) 7 j (10 * nI Y + nI X) 7 (16 * 0 + j) = 10 * nI Y + nI X := by unfold up; rw [if_pos ⟨rfl, by omega⟩]
        have e2 : mv a j X Y (31 + 2 * j) 1 = nI Y := by unfold mv; rw [up_same]
        have e3 : mv a j X Y (31 + 2 * j) 0 = nI X := by unfold mv; rw [up_ne _ _ (by omega), up_same]
        rw [e1, e2, e3]
      · rw [ne _ (by omega), up_ne _ _ (by omega)]
        exact ⟨q1, q2, q3, q4, q5⟩
    · rw [up_ne _ _ (by omega), ne _ (by omega)]
      exact h3 j hj
    · rw [up_ne _ _ (by omega), ne _ (by omega)]
      exact h4 t ht j hj
  · rw [ec, ne _ (by omega)]
    exact h5
theorem side_t {Z : Nat} (h : Z ≤ 9) : (0 ≤ nI Z ∧ nI Z ≤ (9 : Int32)) = True := eq_true ⟨nI_pos' (by omega), nI_le (a := Z) (b := 9) h (by omega)⟩
theorem side_10 : (0 ≤ nI 10 ∧ nI 10 ≤ (9 : Int32)) = False := by decide
theorem side_m1 : (0 ≤ (-1 : Int32) ∧ (-1 : Int32) ≤ (9 : Int32)) = False := by decide
theorem nI_m1 {Z : Nat} (h : 0 < Z) : nI Z + (-1) = nI (Z - 1) := by
  rw [show Z = (Z - 1) + 1 by omega, pk_m1, Nat.add_sub_cancel]
/-- the new square is told, if it is one -/
theorem wan_66 {m : Mm} (h : Sh m) {e : Nat} (he : e < 16) (x y0 y1 : Int32) (o : Prop) : f_X12_wanders_66 225 (nI e) x y1 y0 m o = ((), @ite _ ((0 ≤ x ∧ x ≤ 9) ∧ (0 ≤ y0 + y1 ∧ y0 + y1 ≤ 9)) (Classical.propDecidable _) (sI m 234 e (10 * (y0 + y1) + x)) m, o) := by
  have hin : vp_in (nI e) 16 := vp_in_nI (by omega) (by omega)
  unfold f_X12_wanders_66 f_X12_wanders_73 f_X12_wanders_81 f_X12_wanders_97 bnd
  simp only [e_isSideM, bI_0]
  generalize y0 + y1 = y
  by_cases q1 : 0 ≤ x ∧ x ≤ 9
  · by_cases q2 : 0 ≤ y ∧ y ≤ 9
    · rw [if_neg (not_not_intro q1), if_neg (not_not_intro q2), if_pos ⟨q1, q2⟩]
      simp (config := {decide := true}) only [shT_225 h, shR_225_15 h, shT_234 h, shN_234 h, hin, ix_nI (show e < 2 ^ 31 by omega), ne_eq, not_false_eq_true, and_self, and_true, true_and, and_false, false_and, true_or, or_true, false_or, or_false, not_true_eq_false, if_false, if_true]
    · rw [if_neg (not_not_intro q1), if_pos q2, if_neg (fun z => q2 z.2)]
  · rw [if_pos q1, if_neg (fun z => q1 z.1)]
theorem wan_37 {m : Mm} (h : Sh m) {e X Y : Nat} (he : e < 16) (hX : X ≤ 9) (hY : Y ≤ 9) (c0 : gI m 234 e = 10 * nI Y + nI X) (d dx dy : Int32) (hd : (d = 0 ∧ dy = 1) ∨ (d = 2 ∧ dy = -1) ∨ (¬ d = 0 ∧ ¬ d = 2 ∧ dy = 0)) (o : Prop) : f_X12_wanders_37 225 (nI e) d dx (nI X) m o = f_X12_wanders_66 225 (nI e) (nI X + dx) dy (nI Y) m o := by
  have hin : vp_in (nI e) 16 := vp_in_nI (by omega) (by omega)
  have s1 := sq_div hX hY
  have ob : ∀ o : Prop, ((o ∧ (gT m 225 = 12 ∧ gR m 225 15 ≠ 0)) ∧ (gT m (gR m 225 15) = 20 ∧ vp_in (nI e) (gN m (gR m 225 15)))) = o := fun o => by simp (config := {decide := true}) only [shT_225 h, shR_225_15 h, shT_234 h, shN_234 h, hin, ne_eq, not_false_eq_true, and_self, and_true, true_and, and_false, false_and, true_or, or_true, false_or, or_false, not_true_eq_false, if_false, if_true]
  unfold f_X12_wanders_37
  rw [ob, shR_225_15 h, ix_nI (show e < 2 ^ 31 by omega), c0, s1]
  rcases hd with ⟨e1, e2⟩ | ⟨e1, e2⟩ | ⟨e1, e3, e2⟩
  · rw [if_pos e1, e2]
  · rw [if_neg (by rw [e1]; decide), if_pos e1, e2]
  · rw [if_neg e1, if_neg e3, e2]
theorem wan_all {m : Mm} (h : Sh m) {c e X Y : Nat} (hc : c ≤ 16) (q : e < c) (g3 : gI m 225 3 = nI c) (hX : X ≤ 9) (hY : Y ≤ 9) (c0 : gI m 234 e = 10 * nI Y + nI X) (d dx dy : Int32) (hx : (d = 1 ∧ dx = 1) ∨ (d = 3 ∧ dx = -1) ∨ (¬ d = 1 ∧ ¬ d = 3 ∧ dx = 0)) (hd : (d = 0 ∧ dy = 1) ∨ (d = 2 ∧ dy = -1) ∨ (¬ d = 0 ∧ ¬ d = 2 ∧ dy = 0)) (o : Prop) : F_X12_wanders 225 (nI e) d m o = ((), @ite _ ((0 ≤ nI X + dx ∧ nI X + dx ≤ 9) ∧ (0 ≤ nI Y + dy ∧ nI Y + dy ≤ 9)) (Classical.propDecidable _) (sI m 234 e (10 * (nI Y + dy) + (nI X + dx))) m, o) := by
  have hin : vp_in (nI e) 16 := vp_in_nI (by omega) (by omega)
  have ra : 0 ≤ nI e ∧ nI e ≤ nI c - 1 := (rng_n (by omega)).mpr ⟨e, q, rfl⟩
  have s2 := sq_rem hX hY
  have ob : ∀ o : Prop, ((o ∧ (gT m 225 = 12 ∧ gR m 225 15 ≠ 0)) ∧ (gT m (gR m 225 15) = 20 ∧ vp_in (nI e) (gN m (gR m 225 15)))) = o := fun o => by simp (config := {decide := true}) only [shT_225 h, shR_225_15 h, shT_234 h, shN_234 h, hin, ne_eq, not_false_eq_true, and_self, and_true, true_and, and_false, false_and, true_or, or_true, false_or, or_false, not_true_eq_false, if_false, if_true]
  have st : ∀ (y : Int32) o, ¬ y = 0 → f_X12_wanders_5 225 (nI e) d y m o = f_X12_wanders_37 225 (nI e) d dx (nI X) m o := fun y o hy => by
    unfold f_X12_wanders_5
    rw [if_neg hy, ob, shR_225_15 h, ix_nI (show e < 2 ^ 31 by omega), c0, s2]
    rcases hx with ⟨e1, e2⟩ | ⟨e1, e2⟩ | ⟨e1, e3, e2⟩
    · rw [if_pos e1, e2]
    · rw [if_neg (by rw [e1]; decide), if_pos e1, e2]
    · rw [if_neg e1, if_neg e3, e2]
  unfold F_X12_wanders f_X12_wanders_0 bnd
  rw [e_isCowM _ h]
  show f_X12_wanders_5 225 (nI e) d (bI (0 ≤ nI e ∧ nI e ≤ gI m 225 3 - 1)) m (o ∧ gT m 225 = 12) = _
  rw [st _ _ (by rw [bI_0, g3]; exact not_not_intro ra), wan_37 h (by omega) hX hY c0 d dx dy hd, wan_66 h (by omega)]
  simp only [shT_225 h, and_true]
theorem e_wanders {m : Mm} (h : Sh m) {a : Nat → Nat → Int32} {n c : Nat} {dd : Nat → Int32} (hE : MM m a n c dd) (hW : WfA a n c) {e d : Nat} (he : e < 16) (hd : d < 4) : ∃ m', (∀ o, F_X12_wanders 225 (nI e) (nI d) m o = ((), m', o)) ∧ MM m' (if e < c then mv a e (nxX d (ix (a (31 + 2 * e) 0))) (nxY d (ix (a (31 + 2 * e) 1))) else a) n c dd ∧ Fr (fun q _ => q = 234) m m' := by
  have hn := hW.1.1.1
  have hc := hW.1.1.2
  have g3 : gI m 225 3 = nI c := hE.2.2.1.trans hW.1.2.2.1
  by_cases q : e < c
  · rw [if_pos q]
    obtain ⟨⟨X, hX, eX⟩, ⟨Y, hY, eY⟩, -⟩ := hW.2.2.2.1 _ q
    rw [eX, eY, ix_nI (by omega), ix_nI (by omega)]
    have c0 := (MM_C hE q).1
    rw [eX, eY] at c0
    have W := fun d dx dy hx hd o => wan_all h hc q g3 hX hY c0 d dx dy hx hd o
    have no : ∀ (P : Prop) (a b : Mm), P → @ite _ P (Classical.propDecidable _) a b = a := fun P a b hP => if_pos hP
    have nn : ∀ (P : Prop) (a b : Mm), ¬ P → @ite _ P (Classical.propDecidable _) a b = b := fun P a b hP => if_neg hP
    have tt : ∀ {Z : Nat}, Z ≤ 9 → (0 ≤ nI Z ∧ nI Z ≤ (9 : Int32)) := fun hZ => of_eq_true (side_t hZ)
    have add0 : ∀ Z : Int32, Z + 0 = Z := fun Z => Int32.add_zero Z
    have same : mv a e X Y = a := by
      unfold mv
      rw [up_self eX, up_self eY]
    have fr : ∀ v, Fr (fun q _ => q = 234) m (sI m 234 e v) := fun v => Fr_sI (Fr_refl _ m) (by rfl) _
    have : d = 0 ∨ d = 1 ∨ d = 2 ∨ d = 3 := by omega
    rcases this with rfl | rfl | rfl | rfl
    · have k1 : nxX 0 X = X := by unfold nxX; rw [if_neg (by omega), if_neg (by omega)]
      rw [k1]
      by_cases z : Y < 9
      · have k2 : nxY 0 Y = Y + 1 := by unfold nxY; rw [if_pos rfl, if_pos z]
        rw [k2]
        exact ⟨_, fun o => by rw [show nI 0 = (0 : Int32) from rfl, W 0 0 1 (.inr (.inr ⟨by decide, by decide, rfl⟩)) (.inl ⟨rfl, rfl⟩), add0, nI_1, no _ _ _ ⟨tt hX, tt (by omega)⟩], MM_Q hE q hn hc X (Y + 1), fr _⟩
      · obtain rfl : Y = 9 := by omega
        have k2 : nxY 0 9 = 9 := by decide
        rw [k2, same]
        exact ⟨m, fun o => by rw [show nI 0 = (0 : Int32) from rfl, W 0 0 1 (.inr (.inr ⟨by decide, by decide, rfl⟩)) (.inl ⟨rfl, rfl⟩), nn _ _ _ (fun y => absurd y.2 (by decide))], hE, Fr_refl _ m⟩
    · have k1 : nxY 1 Y = Y := by unfold nxY; rw [if_neg (by omega), if_neg (by omega)]
      rw [k1]
      by_cases z : X < 9
      · have k2 : nxX 1 X = X + 1 := by unfold nxX; rw [if_pos rfl, if_pos z]
        rw [k2]
        exact ⟨_, fun o => by rw [show nI 1 = (1 : Int32) from rfl, W 1 1 0 (.inl ⟨rfl, rfl⟩) (.inr (.inr ⟨by decide, by decide, rfl⟩)), add0, nI_1, no _ _ _ ⟨tt (by omega), tt hY⟩], MM_Q hE q hn hc (X + 1) Y, fr _⟩
      · obtain rfl : X = 9 := by omega
        have k2 : nxX 1 9 = 9 := by decide
        rw [k2, same]
        exact ⟨m, fun o => by rw [show nI 1 = (1 : Int32) from rfl, W 1 1 0 (.inl ⟨rfl, rfl⟩) (.inr (.inr ⟨by decide, by decide, rfl⟩)), nn _ _ _ (fun y => absurd y.1 (by decide))], hE, Fr_refl _ m⟩
    · have k1 : nxX 2 X = X := by unfold nxX; rw [if_neg (by omega), if_neg (by omega)]
      rw [k1]
      by_cases z : 0 < Y
      · have k2 : nxY 2 Y = Y - 1 := by unfold nxY; rw [if_neg (by omega), if_pos rfl]
        rw [k2]
        exact ⟨_, fun o => by rw [show nI 2 = (2 : Int32) from rfl, W 2 0 (-1) (.inr (.inr ⟨by decide, by decide, rfl⟩)) (.inr (.inl ⟨rfl, rfl⟩)), add0, nI_m1 z, no _ _ _ ⟨tt hX, tt (by omega)⟩], MM_Q hE q hn hc X (Y - 1), fr _⟩
      · obtain rfl : Y = 0 := by omega
        have k2 : nxY 2 0 = 0 := by decide
        rw [k2, same]
        exact ⟨m, fun o => by rw [show nI 2 = (2 : Int32) from rfl, W 2 0 (-1) (.inr (.inr ⟨by decide, by decide, rfl⟩)) (.inr (.inl ⟨rfl, rfl⟩)), nn _ _ _ (fun y => absurd y.2 (by decide))], hE, Fr_refl _ m⟩
    · have k1 : nxY 3 Y = Y := by unfold nxY; rw [if_neg (by omega), if_neg (by omega)]
      rw [k1]
      by_cases z : 0 < X
      · have k2 : nxX 3 X = X - 1 := by unfold nxX; rw [if_neg (by omega), if_pos rfl]
        rw [k2]
        exact ⟨_, fun o => by rw [show nI 3 = (3 : Int32) from rfl, W 3 (-1) 0 (.inr (.inl ⟨rfl, rfl⟩)) (.inr (.inr ⟨by decide, by decide, rfl⟩)), add0, nI_m1 z, no _ _ _ ⟨tt (by omega), tt hY⟩], MM_Q hE q hn hc (X - 1) Y, fr _⟩
      · obtain rfl : X = 0 := by omega
        have k2 : nxX 3 0 = 0 := by decide
        rw [k2, same]
        exact ⟨m, fun o => by rw [show nI 3 = (3 : Int32) from rfl, W 3 (-1) 0 (.inr (.inl ⟨rfl, rfl⟩)) (.inr (.inr ⟨by decide, by decide, rfl⟩)), nn _ _ _ (fun y => absurd y.1 (by decide))], hE, Fr_refl _ m⟩
  · rw [if_neg q]
    have ra : (0 ≤ nI e ∧ nI e ≤ nI c - 1) = False := eq_false (fun z => by
      obtain ⟨s, hs, es⟩ := (rng_n (by omega)).mp z
      have := (nI_eq (by omega) (by omega)).mp es
      omega)
    refine ⟨m, fun o => ?_, hE, Fr_refl _ m⟩
    unfold F_X12_wanders f_X12_wanders_0 bnd
    rw [e_isCowM _ h]
    show f_X12_wanders_5 225 (nI e) (nI d) (bI (0 ≤ nI e ∧ nI e ≤ gI m 225 3 - 1)) m (o ∧ gT m 225 = 12) = _
    unfold f_X12_wanders_5
    rw [if_pos (by rw [bI_0, g3, ra]; exact not_false)]
    simp only [shT_225 h, and_true]
def drI (E G : (Nat → Int32) → Int32) (n c : Nat) : Nat → (Nat → Nat → Int32) × Int32 → (Nat → Nat → Int32) × Int32
  | 0, z => z
  | k + 1, z => drI E G n c k (dayA E G n c (mvA z.1 c), z.2 + dayH E n c (mvA z.1 c))
theorem WfA_drI (E : (Nat → Int32) → Int32) {G : (Nat → Int32) → Int32} (hG : ∀ l, ∃ v, v ≤ 99 ∧ G l = nI v) {n c : Nat} : ∀ (k : Nat) (z : (Nat → Nat → Int32) × Int32), WfA z.1 n c → WfA (drI E G n c k z).1 n c
  | 0, _, hW => hW
  | k + 1, z, hW => WfA_drI E hG k _ (WfA_day E hG (WfA_mvA hW)).1
theorem l_draw {C : Nat → Nat → Int32} {nl : Nat} {T : Nat → (Nat → Int32) → Option Bool} {V : Nat → (Nat → Int32) → Option Int32} (hL : LwF C nl T V) (hmk : ∀ j, j < 10 → C 8 j = 0 ∨ C 8 j = -1) (hdE : dep (C 8) (Ev C nl T V)) {w : Nat} {n c nd : Nat} (hnd : nd ≤ 20) : ∀ (k N i : Nat) (z : (Nat → Nat → Int32) × Int32) (m : Mm), Sh m → gR m 1 9 = w → lawAt m w C nl → Md m 2 z.1 → WfA z.1 n c → i + k = nd → k < N → ∃ m', (∀ o, f_X11_draw_16 N 1 (nI nd) z.2 (nI i) m o = ((drI (Ev C nl T V) (Gv C nl T V) n c k z).2, m', o)) ∧ Md m' 2 (drI (Ev C nl T V) (Gv C nl T V) n c k z).1 ∧ Fr (dyC 2 w) m m' := by
  intro k
  induction k with
  | zero =>
    intro N i z m h hr hA hM hW hi hN
    obtain ⟨N, rfl⟩ : ∃ N1, N = N1 + 1 := ⟨N - 1, by omega⟩
    have hle : nI nd ≤ nI i := nI_le (by omega) (by omega)
    refine ⟨m, fun o => ?_, hM, Fr_refl _ m⟩
    show f_X11_draw_16b (f_X11_draw_16 N) 1 (nI nd) z.2 (nI i) m o = _
    unfold f_X11_draw_16b
    rw [if_pos hle]
    rfl
  | succ k ih =>
    intro N i z m h hr hA hM hW hi hN
    obtain ⟨N, rfl⟩ : ∃ N1, N = N1 + 1 := ⟨N - 1, by omega⟩
    have hn := hW.1.1.1
    have hc := hW.1.1.2
    have hle : ¬ nI nd ≤ nI i := nI_ge (by omega) (by omega)
    have hw := hA.1
    obtain ⟨m1, a1, a2, a3⟩ := e_moveBy h (p := 2) (.inl rfl) hM hW
    have h1 := Fr_Sh a3 h
    have W1 := WfA_mvA hW
    obtain ⟨m2, b1, b2, b3⟩ := e_forget h1 (p := 2) (.inl rfl)
    have h2 := Fr_Sh b2 h1
    have hM2 : Md m2 2 (mvA z.1 c) := Md_frame a2 (fun q i hq => Fr_at b2 (by unfold inM at hq; omega))
    have F2 : Fr (dyC 2 w) m m2 := Fr_trans (Fr_mono a3 (fun q i hq => by unfold inM at hq; exact .inr ⟨by omega, by omega⟩)) (Fr_mono b2 (fun q i hq => .inr ⟨by omega, by omega⟩))
    have hA2 : lawAt m2 w C nl := lawAt_Fr hA F2 (fun q x hq => by unfold dyC lwP; rcases hw with z | z <;> omega)
    obtain ⟨m3, c1, c2, c3, -, c5⟩ := e_passDay hL hmk hdE (p := 2) (.inl rfl) h2 hA2 hM2 W1 (sta_refl _ _ _) (b3 _ _ _ _ _ hn hc)
    have h3 := Fr_Sh c5 h2
    have hA3 : lawAt m3 w C nl := lawAt_Fr hA2 c5 (fun q x hq => by unfold dyC lwP; rcases hw with z | z <;> omega)
    have r1 : gR m1 1 9 = w := (Fr_R a3 1 9).trans hr
    have r2 : gR m2 1 9 = w := (Fr_R b2 1 9).trans r1
    obtain ⟨m4, d1, d2, d3⟩ := ih N (i + 1) (dayA (Ev C nl T V) (Gv C nl T V) n c (mvA z.1 c), z.2 + dayH (Ev C nl T V) n c (mvA z.1 c)) m3 h3 ((Fr_R c5 1 9).trans r2) hA3 c2 (WfA_day _ (Gv_nI C nl T V) W1).1 (by omega) (by omega)
    have n9 : ¬ w = 0 := by rcases hw with z | z <;> omega
    obtain ⟨w0, -⟩ := w_sh h2 hw
    refine ⟨m4, fun o => ?_, d2, Fr_trans (Fr_trans F2 c5) d3⟩
    show f_X11_draw_16b (f_X11_draw_16 N) 1 (nI nd) z.2 (nI i) m o = _
    unfold f_X11_draw_16b
    rw [if_neg hle]
    simp (config := {decide := true}) only [f_X11_draw_28, f_X11_draw_35, f_X11_draw_47, bnd, shT_1 h, shR_1_0 h, shT_2 h, shT_1 h1, shR_1_0 h1, shT_2 h1, shT_1 h2, shR_1_0 h2, shT_2 h2, r2, w0, n9, a1, b1, c1, nI_1, ne_eq, not_false_eq_true, and_self, and_true, true_and, and_false, false_and, true_or, or_true, false_or, or_false, not_true_eq_false, if_false, if_true]
    exact d1 o
theorem l_drawM {C D : Nat → Nat → Int32} {nl : Nat} {T : Nat → (Nat → Int32) → Option Bool} {V : Nat → (Nat → Int32) → Option Int32} (hL : LwM (C 3) D nl T V) {n c nd : Nat} {d : Nat → Int32} (hnd : nd ≤ 20) : ∀ (k N i : Nat) (z : (Nat → Nat → Int32) × Int32) (m : Mm), Sh m → lawM m D nl → MM m z.1 n c d → WfA z.1 n c → gI m 225 51 = z.2 → i + k = nd → k < N → ∃ m', (∀ o, f_X12_draw_16 N 225 (nI nd) (nI i) m o = ((drI (Ev C nl T V) (Gv C nl T V) n c k z).2, m', o)) ∧ MM m' (drI (Ev C nl T V) (Gv C nl T V) n c k z).1 n c d ∧ Fr (fun q x => dyM q x ∨ (q = 225 ∧ x = 5)) m m' := by
  intro k
  induction k with
  | zero =>
    intro N i z m h hA hE hW h51 hi hN
    obtain ⟨N, rfl⟩ : ∃ N1, N = N1 + 1 := ⟨N - 1, by omega⟩
    have hle : nI nd ≤ nI i := nI_le (by omega) (by omega)
    refine ⟨m, fun o => ?_, hE, Fr_refl _ m⟩
    show f_X12_draw_16b (f_X12_draw_16 N) 225 (nI nd) (nI i) m o = _
    simp (config := {decide := true}) only [f_X12_draw_16b, hle, h51, shT_225 h, drI, ne_eq, not_false_eq_true, and_self, and_true, true_and, and_false, false_and, true_or, or_true, false_or, or_false, not_true_eq_false, if_false, if_true]
  | succ k ih =>
    intro N i z m h hA hE hW h51 hi hN
    obtain ⟨N, rfl⟩ : ∃ N1, N = N1 + 1 := ⟨N - 1, by omega⟩
    have hle : ¬ nI nd ≤ nI i := nI_ge (by omega) (by omega)
    obtain ⟨x, hx, ex⟩ := hW.1.2.2.2.2
    have g5 : gI m 225 5 = nI x := hE.2.2.2.2.2.2.trans ex
    have e1 : irm (((25173 : Int32) * nI x) + (13849 : Int32)) (65536 : Int32) = nI (nxL x) := by
      rw [(show (25173 : Int32) * nI (x) = nI (25173 * x) by rw [show (25173 : Int32) = nI 25173 from rfl, pk_mul]), show (13849 : Int32) = nI 13849 from rfl, nI_add]
      exact irm_nI (d := 65536) (by omega) (by omega) (by omega)
    have hLx : nxL x < 65536 := Nat.mod_lt _ (by omega)
    have e2 : irm (nI (nxL x)) (16 : Int32) = nI (nxL x % 16) := irm_nI (d := 16) (by omega) (by omega) (by omega)
    have e3 : nI (nxL x) / (16 : Int32) = nI (nxL x / 16) := pk_div (d := 16) (by omega) (by omega) (by omega)
    have e4 : irm (nI (nxL x / 16)) (4 : Int32) = nI (nxL x / 16 % 4) := irm_nI (d := 4) (by omega) (by omega) (by omega)
    have d1 : ((65536 : Int32) = 0) = False := by decide
    have d2 : ((16 : Int32) = 0) = False := by decide
    have d3 : ((4 : Int32) = 0) = False := by decide
    have ix1 : ix (z.1 0 11) = x := by rw [ex]; exact ix_nI (by omega)
    have h1 : Sh (sI m 225 5 (nI (nxL x))) := h
    have E1 := MM_luck hE (nI (nxL x))
    have F1 : Fr (fun q x => dyM q x ∨ (q = 225 ∧ x = 5)) m (sI m 225 5 (nI (nxL x))) := Fr_sI (Fr_refl _ m) (.inr ⟨rfl, rfl⟩) _
    obtain ⟨m2, b1, b2, b3⟩ := e_wanders h1 E1 (WfA_luck hW hLx) (e := nxL x % 16) (d := nxL x / 16 % 4) (by omega) (by omega)
    have h2 := Fr_Sh b3 h1
    have eM : (if nxL x % 16 < c then mv (up z.1 0 11 (nI (nxL x))) (nxL x % 16) (nxX (nxL x / 16 % 4) (ix (up z.1 0 11 (nI (nxL x)) (31 + 2 * (nxL x % 16)) 0))) (nxY (nxL x / 16 % 4) (ix (up z.1 0 11 (nI (nxL x)) (31 + 2 * (nxL x % 16)) 1))) else up z.1 0 11 (nI (nxL x))) = mvA z.1 c := by
      unfold mvA
      rw [ix1, up_ne (x := 31 + 2 * (nxL x % 16)) (y := 0) _ _ (by omega), up_ne (x := 31 + 2 * (nxL x % 16)) (y := 1) _ _ (by omega)]
    rw [eM] at b2
    have F2 : Fr (fun q x => dyM q x ∨ (q = 225 ∧ x = 5)) m m2 := Fr_trans F1 (Fr_mono b3 (fun q x hq => .inl (by unfold dyM; omega)))
    have W1 := WfA_mvA hW
    have hA2 := lawM_Fr hA F2 (fun q x hq => by unfold dyM lmP; omega)
    obtain ⟨m3, c1, c2, c3, c4, c5, c6⟩ := e_dayOne (V := V) hL h2 hA2 b2 W1
    have h3 := Fr_Sh c6 h2
    have g51 : gI m2 225 51 = z.2 := by
      rw [Fr_at b3 (by omega), gI_sI, if_neg (by omega)]
      exact h51
    obtain ⟨m4, f1, f2, f3⟩ := ih N (i + 1) (dayA (Ev C nl T V) (Gv C nl T V) n c (mvA z.1 c), z.2 + dayH (Ev C nl T V) n c (mvA z.1 c)) m3 h3 (lawM_Fr hA2 c6 (fun q x hq => by unfold dyM lmP; omega)) c2 (WfA_day _ (Gv_nI C nl T V) W1).1 (by rw [c3, g51]) (by omega) (by omega)
    refine ⟨m4, fun o => ?_, f2, Fr_trans (Fr_trans F2 (Fr_mono c6 (fun q x hq => .inl hq))) f3⟩
    show f_X12_draw_16b (f_X12_draw_16 N) 225 (nI nd) (nI i) m o = _
    simp (config := {decide := true}) only [f_X12_draw_16b, f_X12_draw_40, f_X12_draw_60, f_X12_draw_64, bnd, hle, shT_225 h, shT_225 h2, gI_sI, gT_sI, g5, e1, e2, e3, e4, d1, d2, d3, b1, c1, nI_1, ne_eq, not_false_eq_true, and_self, and_true, true_and, and_false, false_and, true_or, or_true, false_or, or_false, not_true_eq_false, if_false, if_true]
    exact f1 o
theorem p_draw : Pr_draw Rel := fun x => PrI_ex (fun m hR => by
  have h := hR.1
  by_cases qa : 1 ≤ x ∧ x ≤ 20
  · have ra : (1 ≤ x ∧ x ≤ 20) = True := eq_true qa
    obtain ⟨nd, hnd, rfl⟩ := rng_in (N := 20) (by decide) ⟨Int32.le_trans (by decide) qa.1, qa.2⟩
    obtain ⟨a, n, c, C, D, nl, T, V, ⟨hM, hW, hE⟩, l1, l2, l3, l4, l5, l6⟩ := Rel_all hR
    have hw : isW (gR m 1 9) := l1.1
    obtain ⟨m2, b1, b2, F2⟩ := l_draw l3 l5 l6 hnd nd 1000 0 (a, 0) m h rfl l1 hM hW (by omega) (by omega)
    rw [nI_0] at b1
    have h2 := Fr_Sh F2 h
    have hE2 : MM (sI m2 225 51 0) a n c d0 := MM_frame hE (fun q i hq => by
      rw [gI_sI, if_neg (by omega)]
      exact Fr_at F2 (by unfold dyC lwP; rcases hw with z | z <;> omega))
    have h2' : Sh (sI m2 225 51 0) := h2
    have lM2 : lawM (sI m2 225 51 0) D nl := lawM_Fr (lawM_Fr l2 F2 (fun q i hq => by unfold dyC lwP; rcases hw with z | z <;> omega)) (Fr_sI (Fr_refl (fun q x => q = 225 ∧ x = 51) m2) ⟨rfl, rfl⟩ 0) (fun q i hq => by omega)
    obtain ⟨m3, c1, c2, c3⟩ := l_drawM l4 hnd nd 1000 0 (a, 0) (sI m2 225 51 0) h2' lM2 hE2 hW rfl (by omega) (by omega)
    rw [nI_0] at c1
    have F3 : Fr (fun q x => dyM q x ∨ (q = 225 ∧ x = 5)) m2 m3 := Fr_trans (Fr_sI (Fr_refl _ m2) (.inl (by unfold dyM; omega)) 0) c3
    refine ⟨(drI (Ev C nl T V) (Gv C nl T V) n c nd (a, 0)).2, m2, m3, fun o => ?_, h2, fun o => ?_, Rel_ghost hR (Fr_Sh F3 h2) ⟨(Fr_R F3 1 9).trans (Fr_R F2 1 9), (Fr_R F3 1 10).trans (Fr_R F2 1 10)⟩ (fun q i hq => ?_) (Md_frame b2 (fun q i hq => Fr_at F3 (by unfold dyM lmP; unfold inM at hq; omega))) (WfA_drI (Ev C nl T V) (Gv_nI C nl T V) nd (a, 0) hW) c2⟩
    · simp (config := {decide := true}) only [f_X11_draw_47, f_X11_draw_35, f_X11_draw_28, f_X11_draw_7, f_X11_draw_0, F_X11_draw, bnd, e_isWithin, ra, bI_0, b1, ne_eq, not_false_eq_true, and_self, and_true, true_and, and_false, false_and, true_or, or_true, false_or, or_false, not_true_eq_false, if_false, if_true]
    · simp (config := {decide := true}) only [f_X12_draw_64, f_X12_draw_60, f_X12_draw_40, f_X12_draw_14, f_X12_draw_4, f_X12_draw_0, F_X12_draw, bnd, e_areDaysM, ra, bI_0, shT_225 h2, c1, ne_eq, not_false_eq_true, and_self, and_true, true_and, and_false, false_and, true_or, or_true, false_or, or_false, not_true_eq_false, if_false, if_true]
    · rw [Fr_at F3 (by unfold dyM lmP; unfold keepP inKept inTape inLaw at hq; omega)]
      refine Fr_at F2 ?_
      unfold dyC lwP
      unfold keepP inKept inTape inLaw at hq
      rcases hw with z | z <;> rw [z] <;> omega
  · have ra : (1 ≤ x ∧ x ≤ 20) = False := eq_false qa
    refine ⟨-1, m, m, fun o => ?_, h, fun o => ?_, hR⟩
    · simp (config := {decide := true}) only [f_X11_draw_47, f_X11_draw_35, f_X11_draw_28, f_X11_draw_7, f_X11_draw_0, F_X11_draw, bnd, e_isWithin, ra, bI_0, ne_eq, not_false_eq_true, and_self, and_true, true_and, and_false, false_and, true_or, or_true, false_or, or_false, not_true_eq_false, if_false, if_true]
    · simp (config := {decide := true}) only [f_X12_draw_64, f_X12_draw_60, f_X12_draw_40, f_X12_draw_14, f_X12_draw_4, f_X12_draw_0, F_X12_draw, bnd, e_areDaysM, ra, bI_0, ne_eq, not_false_eq_true, and_self, and_true, true_and, and_false, false_and, true_or, or_true, false_or, or_false, not_true_eq_false, if_false, if_true])
