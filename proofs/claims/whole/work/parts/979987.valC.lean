theorem bS_r {α β : Type} (p : Nat) (v : α) (f : Nat → α → PRs β) : bS (Sum.inr (p, v)) f = f p v := rfl
theorem bS_l {α β : Type} (e : Nat × Nat) (f : Nat → α → PRs β) : bS (Sum.inl e) f = .inl e := rfl
/-- a pending sign: none, or its left side lies in the code from i to j -/
def PnK (C : Nat → Nat → Int32) (i j D : Nat) (M : Option (Nat × VE)) : Prop := match M with
  | none => i = j
  | some q => ECx C i j D q.2 ∧ isBin q.1
def lo (M : Option (Nat × VE)) : Int32 := match M with
  | none => 0
  | some q => nI q.1
def pn (M : Option (Nat × VE)) : Nat := match M with
  | none => 0
  | some _ => 1
theorem PnK_congr {C C' : Nat → Nat → Int32} {i j D : Nat} {M : Option (Nat × VE)} (h : PnK C i j D M) (hC : ∀ x, i ≤ x → x < j → C' 1 x = C 1 x ∧ C' 2 x = C 2 x) : PnK C' i j D M := by
  cases M with
  | none => exact h
  | some q => exact ⟨ECx_congr h.1 hC, h.2⟩
theorem e_pend {m : Mm} {w n : Nat} {s : Nat → Nat} {a zm z z1 d D : Nat} {M : Option (Nat × VE)} {V : VE} (h : CS m w n s a z1) (hM : PnK (rwC m w) zm z D M) (hV : ECx (rwC m w) z z1 d V) (hd : d + 1 ≤ D) (hD : 2 ≤ D) (hz : z1 + pn M ≤ 200) : ∃ m1, ((lo M = 0 ∧ m1 = m) ∨ (¬ lo M = 0 ∧ ∀ o, F_X3_add w (lo M) 0 m o = ((), m1, o))) ∧ Fr (cfP w z1) m m1 ∧ (∀ i, gI m1 193 i = gI m 193 i) ∧ gI m1 w 9 = nI (z1 + pn M) ∧ ECx (rwC m1 w) zm (z1 + pn M) D (jV M V) ∧ ∀ x, x < z1 → rwC m1 w 1 x = rwC m w 1 x ∧ rwC m1 w 2 x = rwC m w 2 x := by
  cases M with
  | none =>
    have hM : zm = z := hM
    subst hM
    exact ⟨m, .inl ⟨rfl, rfl⟩, Fr_refl _ _, fun _ => rfl, h.2.2.1, ECx_mono hV (by omega), fun x _ => ⟨rfl, rfl⟩⟩
  | some q =>
    obtain ⟨hL, hop⟩ : ECx (rwC m w) zm z D q.2 ∧ isBin q.1 := hM
    have hz : z1 + 1 ≤ 200 := hz
    obtain ⟨m', u1, u2, u3, u4, u5, u6, u7⟩ := e_put h (by omega) (nI q.1) 0
    have hne := isBin_ne hop
    have zz := hL.1.1
    have zz1 := hV.1.1
    refine ⟨m', .inr ⟨fun y => absurd ((nI_eq (b := 0) (by omega) (by omega)).mp y) (by omega), u1⟩, u2, u3, u4, ?_, u7⟩
    exact ECx_bin (ECx_congr hL (fun x _ b => u7 x (by omega))) (ECx_congr hV (fun x _ b => u7 x b)) (Nat.le_refl _) hd hD hop u5
theorem l_exprC {rc : Nat → Nat → Int32 → Mm → Prop → Int32 × Mm × Prop} {w n : Nat} {s : Nat → Nat} {r : Nat} {rcs : Option (Nat → PRs VE)} (hpr : prO n rcs) (dep : Int32) (hf : ∀ m a z, CS m w n s a z → SimE (rc 3 193 dep) m w z a (2 * r + 1) (sFc s rcs a)) {m0 : Mm} {z0 a0 : Nat} (hz0 : z0 ≤ a0) : ∀ (k N : Nat) (A M : Option (Nat × VE)) (a z zm : Nat) (m : Mm), k ≤ 200 → n < a + k → k < N → CS m w n s a z → Fr (cfP w z0) m0 m → z0 ≤ zm → zm ≤ z → PnK (rwC m w) z0 zm (2 * r + 3) A → PnK (rwC m w) zm z (2 * r + 2) M → z + pn A + pn M + a0 ≤ z0 + a →
    (∀ e, sEl s rcs k A M a = .inl e → ∃ m', (∀ o, f_X4_expression_7 rc N 193 dep (lo A) (lo M) (nI (200 - k)) m o = (0, m', o)) ∧ CFl m0 w z0 m' e) ∧ (∀ q, sEl s rcs k A M a = .inr q → ∃ m' z', (∀ o, f_X4_expression_7 rc N 193 dep (lo A) (lo M) (nI (200 - k)) m o = (1, m', o)) ∧ COk m0 w z0 a0 m' q.1 z' ∧ ECx (rwC m' w) z0 z' (2 * r + 3) q.2) := by
  intro k
  induction k with
  | zero =>
    intro N A M a z zm m hk hna hN h
    exact absurd h.2.2.2.2 (by omega)
  | succ k ih =>
    intro N A M a z zm m hk hna hN h hF hzm hzz hA hM hcnt
    obtain ⟨N, rfl⟩ : ∃ N1, N = N1 + 1 := ⟨N - 1, by omega⟩
    obtain ⟨hB, h3, h9, hza, han⟩ := id h
    have hSh := hB.1
    have hw := hB.2.1
    have hn200 := hB.2.2.2.2.1
    obtain ⟨w1, w2, w3, w4⟩ := w_ne hw
    obtain ⟨f1, f2⟩ := hf m a z h
    have base : ∀ o, f_X4_expression_7 rc (N + 1) 193 dep (lo A) (lo M) (nI (200 - (k + 1))) m o = bnd (rc 3 193 dep m o) (fun v1 m1 o1 => f_X4_expression_20 rc (f_X4_expression_7 rc N) 193 dep (lo A) (lo M) (nI (200 - (k + 1))) v1 m1 o1) := fun o => by
      show f_X4_expression_7b rc (f_X4_expression_7 rc N) 193 dep (lo A) (lo M) (nI (200 - (k + 1))) m o = _
      unfold f_X4_expression_7b
      rw [if_neg (show ¬ (200 : Int32) ≤ nI (200 - (k + 1)) from nI_ge (b := 200) (by omega) (by omega))]
      simp (config := {decide := true}) only [shT_193 hSh, ne_eq, not_false_eq_true, and_self, and_true, true_and, and_false, false_and, true_or, or_true, false_or, or_false, not_true_eq_false, if_false, if_true]
    unfold sEl
    cases hfa : sFc s rcs a with
    | inl e =>
      obtain ⟨m', a1, a2⟩ := f1 e hfa
      refine ⟨fun e' y => ?_, fun q y => (by cases y)⟩
      have y : (Sum.inl e : PRs VE) = .inl e' := y
      cases y
      refine ⟨m', fun o => ?_, CFl_pre hF (by omega) a2⟩
      rw [base, a1, bnd_mk]
      unfold f_X4_expression_20 f_X4_expression_135
      rw [if_pos rfl]
    | inr qq =>
      obtain ⟨p, V⟩ := qq
      obtain ⟨m1, z1, a1, a2, a3⟩ := f2 (p, V) hfa
      have hpn : a < p ∧ p ≤ n := sFc_prog hB.2.2.2.2.2.2 hpr han (p, V) hfa
      have h1 := CS_of h a2 hpn.2
      obtain ⟨o1, o2, o3, o4, o5⟩ := id a2
      have o5 : z1 + a ≤ z + p := o5
      have rows1 : ∀ x, x < z → rwC m1 w 1 x = rwC m w 1 x ∧ rwC m1 w 2 x = rwC m w 2 x := fun x hx => ⟨Fr_at o1 (by unfold cfP; omega), Fr_at o1 (by unfold cfP; omega)⟩
      -- the pending multiplication
      obtain ⟨m2, b1, b2, b3, b4, b5, b6⟩ := e_pend h1 (PnK_congr hM (fun x _ b => rows1 x b)) a3 (show 2 * r + 1 + 1 ≤ 2 * r + 2 by omega) (by omega) (by omega)
      have F2 : Fr (cfP w z0) m0 m2 := Fr_trans hF (Fr_trans (Fr_mono o1 (fun q i y => cfP_le (by omega) y)) (Fr_mono b2 (fun q i y => cfP_le (by omega) y)))
      have h2 : CS m2 w n s p (z1 + pn M) := ⟨CB_Fr h1.1 b2, by rw [b3]; exact h1.2.1, b4, by omega, hpn.2⟩
      have hSh2 := h2.1.1
      have step1 : ∀ o, f_X4_expression_7 rc (N + 1) 193 dep (lo A) (lo M) (nI (200 - (k + 1))) m o = f_X4_expression_40 rc (f_X4_expression_7 rc N) 193 dep (lo A) (nI (200 - (k + 1))) (sgv n s p) m2 o := fun o => by
        rw [base, a1, bnd_mk]
        unfold f_X4_expression_20
        rw [if_neg (by decide)]
        have hr1 : gR m1 193 1 = w := h1.1.2.2.1
        obtain ⟨tw1, -⟩ := w_sh h1.1.1 hw
        have hS1 := h1.1.1
        rcases b1 with ⟨y, rfl⟩ | ⟨y, y2⟩
        · rw [if_pos y]
          unfold f_X4_expression_36
          rw [e_sign h2.1 hpn.2 h2.2.1, bnd_mk]
          simp (config := {decide := true}) only [shT_193 hS1, ne_eq, not_false_eq_true, and_self, and_true, true_and, and_false, false_and, true_or, or_true, false_or, or_false, not_true_eq_false, if_false, if_true]
        · rw [if_neg y, hr1, y2, bnd_mk]
          unfold f_X4_expression_36
          rw [e_sign h2.1 hpn.2 h2.2.1, bnd_mk]
          simp (config := {decide := true}) only [shT_193 hS1, shT_193 hSh2, tw1, w4, ne_eq, not_false_eq_true, and_self, and_true, true_and, and_false, false_and, true_or, or_true, false_or, or_false, not_true_eq_false, if_false, if_true]
      have hsp : ∀ {ch : Nat}, 0 < ch → ch < 256 → (sgv n s p = nI ch) = (s p = ch) := fun a b => sg_eq h2.1 p a b
      have g42 : (sgv n s p = 42) = (s p = 42) := hsp (ch := 42) (by omega) (by omega)
      have g47 : (sgv n s p = 47) = (s p = 47) := hsp (ch := 47) (by omega) (by omega)
      have g37 : (sgv n s p = 37) = (s p = 37) := hsp (ch := 37) (by omega) (by omega)
      have g43 : (sgv n s p = 43) = (s p = 43) := hsp (ch := 43) (by omega) (by omega)
      have g45 : (sgv n s p = 45) = (s p = 45) := hsp (ch := 45) (by omega) (by omega)
      have rows2 : ∀ x, x < z1 → rwC m2 w 1 x = rwC m1 w 1 x ∧ rwC m2 w 2 x = rwC m1 w 2 x := b6
      have hA2 : PnK (rwC m2 w) z0 zm (2 * r + 3) A := PnK_congr hA (fun x _ b => ⟨(rows2 x (by omega)).1.trans (rows1 x (by omega)).1, (rows2 x (by omega)).2.trans (rows1 x (by omega)).2⟩)
      rw [bS_r]
      by_cases ct : isTm (s p)
      · rw [iT_pos ct]
        have hpn' : p < n := lt_of_sg hB.2.2.2.2.2.2 (by unfold isTm at ct; omega)
        have hsv : sgv n s p = nI (s p) := if_pos hpn'
        have hop : isBin (s p) := by unfold isTm at ct; unfold isBin; omega
        have h2' := CS_at h2 hpn'
        have step2 : ∀ o, f_X4_expression_40 rc (f_X4_expression_7 rc N) 193 dep (lo A) (nI (200 - (k + 1))) (sgv n s p) m2 o = f_X4_expression_7 rc N 193 dep (lo A) (nI (s p)) (nI (200 - k)) (sI m2 193 3 (nI (p + 1))) o := fun o => by
          have e63 : ∀ o, f_X4_expression_63 rc (f_X4_expression_7 rc N) 193 dep (lo A) (nI (200 - (k + 1))) (sgv n s p) m2 o = f_X4_expression_7 rc N 193 dep (lo A) (nI (s p)) (nI (200 - k)) (sI m2 193 3 (nI (p + 1))) o := fun o => by
            unfold f_X4_expression_63 f_X4_expression_68
            rw [if_neg (by decide)]
            unfold f_X4_expression_81
            rw [if_neg (by decide)]
            unfold f_X4_expression_119 f_X4_expression_129
            rw [h2.2.1, nI_1, nI_1, show 200 - (k + 1) + 1 = 200 - k by omega, hsv]
            simp (config := {decide := true}) only [shT_193 hSh2, ne_eq, not_false_eq_true, and_self, and_true, true_and, and_false, false_and, true_or, or_true, false_or, or_false, not_true_eq_false, if_false, if_true]
          unfold f_X4_expression_40
          simp only [g42, g47, g37, e63]
          rcases ct with y | y | y
          · rw [if_pos y]
          · rw [if_neg (by omega), if_pos y]
          · rw [if_neg (by omega), if_neg (by omega), if_pos y]
        obtain ⟨j1, j2⟩ := ih N A (some (s p, jV M V)) (p + 1) (z1 + pn M) zm (sI m2 193 3 (nI (p + 1))) (by omega) (by omega) (by omega) h2' (Fr_trans F2 (Fr_at3 _)) hzm (by omega) (by rw [rwC_at _ hw]; exact hA2) (by rw [rwC_at _ hw]; exact ⟨b5, hop⟩) (by show z1 + pn M + pn A + 1 + a0 ≤ z0 + (p + 1); omega)
        refine ⟨fun e y => ?_, fun q y => ?_⟩
        · obtain ⟨m', c1, c2⟩ := j1 e y
          exact ⟨m', fun o => by rw [step1, step2]; exact c1 o, c2⟩
        · obtain ⟨m', z', c1, c2, c3⟩ := j2 q y
          exact ⟨m', z', fun o => by rw [step1, step2]; exact c1 o, c2, c3⟩
      · rw [iT_neg ct]
        -- the pending addition
        obtain ⟨m3, d1, d2, d3, d4, d5, d6⟩ := e_pend h2 hA2 b5 (show 2 * r + 2 + 1 ≤ 2 * r + 3 by omega) (by omega) (by omega)
        have F3 : Fr (cfP w z0) m0 m3 := Fr_trans F2 (Fr_mono d2 (fun q i y => cfP_le (by omega) y))
        have h3' : CS m3 w n s p (z1 + pn M + pn A) := ⟨CB_Fr h2.1 d2, by rw [d3]; exact h2.2.1, d4, by omega, hpn.2⟩
        have hSh3 := h3'.1.1
        have step2 : ∀ o, f_X4_expression_40 rc (f_X4_expression_7 rc N) 193 dep (lo A) (nI (200 - (k + 1))) (sgv n s p) m2 o = f_X4_expression_100 rc (f_X4_expression_7 rc N) 193 dep 0 (nI (200 - (k + 1))) (sgv n s p) m3 o := fun o => by
          have nt : ¬ s p = 42 ∧ ¬ s p = 47 ∧ ¬ s p = 37 := by unfold isTm at ct; omega
          unfold f_X4_expression_40
          simp only [g42, g47, g37]
          rw [if_neg nt.1, if_neg nt.2.1, if_neg nt.2.2]
          unfold f_X4_expression_68
          rw [if_pos rfl]
          unfold f_X4_expression_81
          rw [if_pos rfl]
          have hr2 : gR m2 193 1 = w := h2.1.2.2.1
          obtain ⟨tw2, -⟩ := w_sh hSh2 hw
          rcases d1 with ⟨y, rfl⟩ | ⟨y, y2⟩
          · rw [if_pos y]
          · rw [if_neg y, hr2, y2, bnd_mk]
            simp (config := {decide := true}) only [shT_193 hSh2, tw2, w4, ne_eq, not_false_eq_true, and_self, and_true, true_and, and_false, false_and, true_or, or_true, false_or, or_false, not_true_eq_false, if_false, if_true]
        by_cases cp : isPl (s p)
        · rw [iT_pos cp]
          have hpn' : p < n := lt_of_sg hB.2.2.2.2.2.2 (by unfold isPl at cp; omega)
          have hsv : sgv n s p = nI (s p) := if_pos hpn'
          have hop : isBin (s p) := by unfold isPl at cp; unfold isBin; omega
          have h3a := CS_at h3' hpn'
          have step3 : ∀ o, f_X4_expression_100 rc (f_X4_expression_7 rc N) 193 dep 0 (nI (200 - (k + 1))) (sgv n s p) m3 o = f_X4_expression_7 rc N 193 dep (nI (s p)) 0 (nI (200 - k)) (sI m3 193 3 (nI (p + 1))) o := fun o => by
            have e116 : ∀ o, f_X4_expression_116 rc (f_X4_expression_7 rc N) 193 dep 0 (nI (200 - (k + 1))) (sgv n s p) m3 o = f_X4_expression_7 rc N 193 dep (nI (s p)) 0 (nI (200 - k)) (sI m3 193 3 (nI (p + 1))) o := fun o => by
              unfold f_X4_expression_116 f_X4_expression_119 f_X4_expression_129
              rw [h3'.2.1, nI_1, nI_1, show 200 - (k + 1) + 1 = 200 - k by omega, hsv]
              simp (config := {decide := true}) only [shT_193 hSh3, ne_eq, not_false_eq_true, and_self, and_true, true_and, and_false, false_and, true_or, or_true, false_or, or_false, not_true_eq_false, if_false, if_true]
            unfold f_X4_expression_100
            simp only [g43, g45, e116]
            rcases cp with y | y
            · rw [if_pos y]
            · rw [if_neg (by omega), if_pos y]
          obtain ⟨j1, j2⟩ := ih N (some (s p, jV A (jV M V))) none (p + 1) (z1 + pn M + pn A) (z1 + pn M + pn A) (sI m3 193 3 (nI (p + 1))) (by omega) (by omega) (by omega) h3a (Fr_trans F3 (Fr_at3 _)) (by omega) (Nat.le_refl _) (by rw [rwC_at _ hw]; exact ⟨d5, hop⟩) (show z1 + pn M + pn A = z1 + pn M + pn A from rfl) (by show z1 + pn M + pn A + 1 + 0 + a0 ≤ z0 + (p + 1); omega)
          refine ⟨fun e y => ?_, fun q y => ?_⟩
          · obtain ⟨m', c1, c2⟩ := j1 e y
            exact ⟨m', fun o => by rw [step1, step2, step3]; exact c1 o, c2⟩
          · obtain ⟨m', z', c1, c2, c3⟩ := j2 q y
            exact ⟨m', z', fun o => by rw [step1, step2, step3]; exact c1 o, c2, c3⟩
        · rw [iT_neg cp]
          refine ⟨fun e y => (by cases y), fun q y => ?_⟩
          cases y
          refine ⟨m3, z1 + pn M + pn A, fun o => ?_, ⟨F3, h3'.2.1, d4, by omega, by simp only; omega⟩, d5⟩
          rw [step1, step2]
          unfold f_X4_expression_100
          simp only [g43, g45]
          rw [if_neg (by unfold isPl at cp; omega), if_neg (by unfold isPl at cp; omega)]
theorem e_exprC {rc : Nat → Nat → Int32 → Mm → Prop → Int32 × Mm × Prop} {w n : Nat} {s : Nat → Nat} {r : Nat} {rcs : Option (Nat → PRs VE)} (hpr : prO n rcs) (dep : Int32) (hf : ∀ m a z, CS m w n s a z → SimE (rc 3 193 dep) m w z a (2 * r + 1) (sFc s rcs a)) {m : Mm} {a z : Nat} (ha : 0 < a) (h : CS m w n s a z) : SimE (G_X4_expression rc 193 dep) m w z a (2 * r + 3) (sEl s rcs 200 none none a) := by
  have hn200 := h.1.2.2.2.2.1
  exact l_exprC hpr dep hf (m0 := m) (z0 := z) (a0 := a) h.2.2.2.1 200 1000 none none a z z m (Nat.le_refl _) (by omega) (by omega) h (Fr_refl _ _) (Nat.le_refl _) (Nat.le_refl _) rfl rfl (by show z + 0 + 0 + a ≤ z + a; omega)
