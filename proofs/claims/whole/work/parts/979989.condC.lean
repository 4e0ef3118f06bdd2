/-! ===== a condition, and a piece, read by the class ===== -/
theorem l_condC {rc : Nat → Nat → Int32 → Mm → Prop → Int32 × Mm × Prop} {w n : Nat} {s : Nat → Nat} {f : Nat → PRs VC} (hpr : ∀ a, a ≤ n → prg n a (f a)) (dep : Int32) (hf : ∀ m a z, 0 < a → CS m w n s a z → SimC (rc 1 193 dep) m w z a (f a)) {m0 : Mm} {z0 a0 : Nat} (hz0 : z0 ≤ a0) : ∀ (k N : Nat) (O A : Option VC) (a z zp : Nat) (m : Mm), k ≤ 200 → n < a + k → k < N → 0 < a → CS m w n s a z → Fr (cfP w z0) m0 m → PK 124 (rwC m w) z0 zp O → PK 38 (rwC m w) zp z A → z + a0 ≤ z0 + a →
    (∀ e, sCl s f k O A a = .inl e → ∃ m', (∀ o, f_X4_condition_13 rc N 193 dep (nI z0) (nI zp) (nI (200 - k)) m o = (0, m', o)) ∧ CFl m0 w z0 m' e) ∧ (∀ q, sCl s f k O A a = .inr q → ∃ m' z', (∀ o, f_X4_condition_13 rc N 193 dep (nI z0) (nI zp) (nI (200 - k)) m o = (1, m', o)) ∧ COk m0 w z0 a0 m' q.1 z' ∧ CCx (rwC m' w) z0 z' q.2) := by
  intro k
  induction k with
  | zero =>
    intro N O A a z zp m hk hna hN ha0 h
    exact absurd h.2.2.2.2 (by omega)
  | succ k ih =>
    intro N O A a z zp m hk hna hN ha0 h hF hO hA hcnt
    obtain ⟨N, rfl⟩ : ∃ N1, N = N1 + 1 := ⟨N - 1, by omega⟩
    obtain ⟨hB, h3, h9, hza, han⟩ := id h
    have hSh := hB.1
    have hw := hB.2.1
    have hn200 := hB.2.2.2.2.1
    obtain ⟨w1, w2, w3, w4⟩ := w_ne hw
    have hzp := PK_le hO
    have hzz := PK_le hA
    obtain ⟨f1, f2⟩ := hf m a z ha0 h
    have base : ∀ o, f_X4_condition_13 rc (N + 1) 193 dep (nI z0) (nI zp) (nI (200 - (k + 1))) m o = bnd (rc 1 193 dep m o) (fun v1 m1 o1 => f_X4_condition_26 rc (f_X4_condition_13 rc N) 193 dep (nI z0) (nI zp) (nI (200 - (k + 1))) v1 m1 o1) := fun o => by
      show f_X4_condition_13b rc (f_X4_condition_13 rc N) 193 dep (nI z0) (nI zp) (nI (200 - (k + 1))) m o = _
      unfold f_X4_condition_13b
      rw [if_neg (show ¬ (200 : Int32) ≤ nI (200 - (k + 1)) from nI_ge (b := 200) (by omega) (by omega))]
      simp (config := {decide := true}) only [shT_193 hSh, ne_eq, not_false_eq_true, and_self, and_true, true_and, and_false, false_and, true_or, or_true, false_or, or_false, not_true_eq_false, if_false, if_true]
    unfold sCl
    cases hfa : f a with
    | inl e =>
      obtain ⟨m', a1, a2⟩ := f1 e hfa
      rw [bS_l]
      refine ⟨fun e' y => ?_, fun q y => (by cases y)⟩
      cases y
      refine ⟨m', fun o => ?_, CFl_pre hF (by omega) a2⟩
      rw [base, a1, bnd_mk]
      unfold f_X4_condition_26
      rw [if_pos rfl]
    | inr qq =>
      obtain ⟨p, T⟩ := qq
      obtain ⟨m1, z1, a1, a2, a3⟩ := f2 (p, T) hfa
      have hpn : a < p ∧ p ≤ n := hpr a han (p, T) hfa
      have h1 := CS_of h a2 hpn.2
      have h1 : CS m1 w n s p z1 := h1
      have a3 : CCx (rwC m1 w) z z1 T := a3
      obtain ⟨o1, o2, o3, o4, o5⟩ := id a2
      have o5 : z1 + a ≤ z + p := o5
      have hSh1 := h1.1.1
      have hr1 : gR m1 193 1 = w := h1.1.2.2.1
      obtain ⟨tw1, -⟩ := w_sh hSh1 hw
      have rows1 : ∀ x, x < z → rwC m1 w 1 x = rwC m w 1 x ∧ rwC m1 w 2 x = rwC m w 2 x := fun x hx => ⟨Fr_at o1 (by unfold cfP; omega), Fr_at o1 (by unfold cfP; omega)⟩
      have F1 : Fr (cfP w z0) m0 m1 := Fr_trans hF (Fr_mono o1 (fun q i y => cfP_le (by omega) y))
      have hO1 : PK 124 (rwC m1 w) z0 zp O := PK_congr hO (fun x _ b => rows1 x (by omega))
      have hA1 : PK 38 (rwC m1 w) zp z A := PK_congr hA (fun x _ b => rows1 x b)
      have step1 : ∀ o, f_X4_condition_13 rc (N + 1) 193 dep (nI z0) (nI zp) (nI (200 - (k + 1))) m o = f_X4_condition_35 rc (f_X4_condition_13 rc N) 193 dep (nI z0) (nI zp) (nI (200 - (k + 1))) (sgv n s p) m1 o := fun o => by
        rw [base, a1, bnd_mk]
        unfold f_X4_condition_26
        rw [if_neg (by decide), e_sign h1.1 hpn.2 h1.2.1, bnd_mk]
        simp (config := {decide := true}) only [shT_193 hSh1, ne_eq, not_false_eq_true, and_self, and_true, true_and, and_false, false_and, true_or, or_true, false_or, or_false, not_true_eq_false, if_false, if_true]
      have hsp : ∀ {ch : Nat}, 0 < ch → ch < 256 → (sgv n s p = nI ch) = (s p = ch) := fun a b => sg_eq h1.1 p a b
      have g38 : (sgv n s p = 38) = (s p = 38) := hsp (ch := 38) (by omega) (by omega)
      have g124 : (sgv n s p = 124) = (s p = 124) := hsp (ch := 124) (by omega) (by omega)
      rw [bS_r]
      by_cases c38 : s p = 38
      · rw [iT_pos c38]
        have hpn' : p < n := lt_of_sg hB.2.2.2.2.2.2 (by omega)
        have cv : sgv n s p = 38 := by rw [g38]; exact c38
        have h2 := CS_at h1 hpn'
        obtain ⟨m2, u1, u2, u3, u4, u5, u6, u7⟩ := e_put h2 (by omega) 38 (-1)
        have F2 : Fr (cfP w z0) m0 m2 := Fr_trans F1 (Fr_trans (Fr_at3 _) (Fr_mono u2 (fun q i y => cfP_le (by omega) y)))
        have rows2 : ∀ x, x < z1 → rwC m2 w 1 x = rwC m1 w 1 x ∧ rwC m2 w 2 x = rwC m1 w 2 x := fun x hx => by
          have := u7 x hx
          rw [rwC_at _ hw] at this
          exact this
        have h2' : CS m2 w n s (p + 1) (z1 + 1) := ⟨CB_Fr h2.1 u2, by rw [u3]; exact h2.2.1, u4, by omega, hpn'⟩
        have step2 : ∀ o, f_X4_condition_35 rc (f_X4_condition_13 rc N) 193 dep (nI z0) (nI zp) (nI (200 - (k + 1))) (sgv n s p) m1 o = f_X4_condition_13 rc N 193 dep (nI z0) (nI zp) (nI (200 - k)) m2 o := fun o => by
          have hr2 : gR (sI m1 193 3 (nI (p + 1))) 193 1 = w := hr1
          unfold f_X4_condition_35
          rw [if_pos cv]
          unfold f_X4_condition_54
          rw [if_pos cv]
          unfold f_X4_condition_80
          rw [h1.2.1, nI_1]
          unfold f_X4_condition_90
          rw [hr2, cv, u1, bnd_mk]
          unfold f_X4_condition_100
          rw [if_neg (by decide)]
          unfold f_X4_condition_118
          rw [nI_1, show 200 - (k + 1) + 1 = 200 - k by omega]
          simp (config := {decide := true}) only [gT_sI, gR_sI, shT_193 hSh1, tw1, w4, ne_eq, not_false_eq_true, and_self, and_true, true_and, and_false, false_and, true_or, or_true, false_or, or_false, not_true_eq_false, if_false, if_true]
        obtain ⟨j1, j2⟩ := ih N O (some (jA A T)) (p + 1) (z1 + 1) zp m2 (by omega) (by omega) (by omega) (by omega) h2' F2 (PK_congr hO1 (fun x _ b => rows2 x (by omega))) (by
          rw [jA_jC]
          exact PK_ext (.inl rfl) hA1 a3 (fun x _ b => rows2 x b) u5 u6) (by omega)
        refine ⟨fun e y => ?_, fun q y => ?_⟩
        · obtain ⟨m', c1, c2⟩ := j1 e y
          exact ⟨m', fun o => by rw [step1, step2]; exact c1 o, c2⟩
        · obtain ⟨m', z', c1, c2, c3⟩ := j2 q y
          exact ⟨m', z', fun o => by rw [step1, step2]; exact c1 o, c2, c3⟩
      · rw [iT_neg c38]
        have cv : ¬ sgv n s p = 38 := by rw [g38]; exact c38
        -- the waiting & land
        obtain ⟨m2, l1, l2, l3, l4, l5⟩ := e_land h1 (i := zp) (op := 38) (by omega) (by omega)
        have F2 : Fr (cfP w z0) m0 m2 := Fr_trans F1 (Fr_mono l2 (fun q i y => cfP_le (by omega) y))
        have hT1 : CCx (rwC m2 w) zp z1 (jA A T) := by
          rw [jA_jC]
          exact PK_end (.inl rfl) hA1 a3 (by omega) l4
        have hO2 : PK 124 (rwC m2 w) z0 zp O := PK_congr hO1 (fun x _ b => l5 x b)
        have hSh2 := l3.1.1
        have hr2 : gR m2 193 1 = w := l3.1.2.2.1
        obtain ⟨tw2, -⟩ := w_sh hSh2 hw
        have step2 : ∀ o, f_X4_condition_35 rc (f_X4_condition_13 rc N) 193 dep (nI z0) (nI zp) (nI (200 - (k + 1))) (sgv n s p) m1 o = f_X4_condition_54 rc (f_X4_condition_13 rc N) 193 dep (nI z0) (nI zp) (nI (200 - (k + 1))) (sgv n s p) m2 o := fun o => by
          have l1 : ∀ o, F_X3_landJumps w (nI zp) 38 m1 o = ((), m2, o) := l1
          unfold f_X4_condition_35
          rw [if_neg cv, hr1, l1, bnd_mk]
          simp (config := {decide := true}) only [shT_193 hSh1, tw1, w4, ne_eq, not_false_eq_true, and_self, and_true, true_and, and_false, false_and, true_or, or_true, false_or, or_false, not_true_eq_false, if_false, if_true]
        by_cases c124 : s p = 124
        · rw [iT_pos c124]
          have hpn' : p < n := lt_of_sg hB.2.2.2.2.2.2 (by omega)
          have cv2 : sgv n s p = 124 := by rw [g124]; exact c124
          have h3a := CS_at l3 hpn'
          obtain ⟨m3, u1, u2, u3, u4, u5, u6, u7⟩ := e_put h3a (by omega) 124 (-1)
          have F3 : Fr (cfP w z0) m0 m3 := Fr_trans F2 (Fr_trans (Fr_at3 _) (Fr_mono u2 (fun q i y => cfP_le (by omega) y)))
          have rows3 : ∀ x, x < z1 → rwC m3 w 1 x = rwC m2 w 1 x ∧ rwC m3 w 2 x = rwC m2 w 2 x := fun x hx => by
            have := u7 x hx
            rw [rwC_at _ hw] at this
            exact this
          have h3' : CS m3 w n s (p + 1) (z1 + 1) := ⟨CB_Fr h3a.1 u2, by rw [u3]; exact h3a.2.1, u4, by omega, hpn'⟩
          have tw3 := (w_sh h3'.1.1 hw).1
          have hSh3 := h3'.1.1
          have step3 : ∀ o, f_X4_condition_54 rc (f_X4_condition_13 rc N) 193 dep (nI z0) (nI zp) (nI (200 - (k + 1))) (sgv n s p) m2 o = f_X4_condition_13 rc N 193 dep (nI z0) (nI (z1 + 1)) (nI (200 - k)) m3 o := fun o => by
            have hr3 : gR (sI m2 193 3 (nI (p + 1))) 193 1 = w := hr2
            have hr4 : gR m3 193 1 = w := h3'.1.2.2.1
            unfold f_X4_condition_54
            rw [if_neg cv, if_pos cv2]
            unfold f_X4_condition_80
            rw [l3.2.1, nI_1]
            unfold f_X4_condition_90
            rw [hr3, cv2, u1, bnd_mk]
            unfold f_X4_condition_100
            rw [if_pos rfl]
            unfold f_X4_condition_118
            rw [nI_1, show 200 - (k + 1) + 1 = 200 - k by omega, hr4, u4]
            simp (config := {decide := true}) only [gT_sI, gR_sI, shT_193 hSh2, shT_193 hSh3, tw2, tw3, w4, ne_eq, not_false_eq_true, and_self, and_true, true_and, and_false, false_and, true_or, or_true, false_or, or_false, not_true_eq_false, if_false, if_true]
          obtain ⟨j1, j2⟩ := ih N (some (jO O (jA A T))) none (p + 1) (z1 + 1) (z1 + 1) m3 (by omega) (by omega) (by omega) (by omega) h3' F3 (by
            rw [jO_jC]
            exact PK_ext (.inr rfl) hO2 hT1 (fun x _ b => rows3 x b) u5 u6) (show z1 + 1 = z1 + 1 from rfl) (by omega)
          refine ⟨fun e y => ?_, fun q y => ?_⟩
          · obtain ⟨m', c1, c2⟩ := j1 e y
            exact ⟨m', fun o => by rw [step1, step2, step3]; exact c1 o, c2⟩
          · obtain ⟨m', z', c1, c2, c3⟩ := j2 q y
            exact ⟨m', z', fun o => by rw [step1, step2, step3]; exact c1 o, c2, c3⟩
        · rw [iT_neg c124]
          have cv2 : ¬ sgv n s p = 124 := by rw [g124]; exact c124
          obtain ⟨m3, k1, k2, k3, k4, k5⟩ := e_land l3 (i := z0) (op := 124) (by omega) (by omega)
          refine ⟨fun e y => (by cases y), fun q y => ?_⟩
          cases y
          refine ⟨m3, z1, fun o => ?_, ⟨Fr_trans F2 k2, k3.2.1, k3.2.2.1, by omega, by simp only; omega⟩, ?_⟩
          · have k1 : ∀ o, F_X3_landJumps w (nI z0) 124 m2 o = ((), m3, o) := k1
            rw [step1, step2]
            unfold f_X4_condition_54
            rw [if_neg cv, if_neg cv2, hr2, k1, bnd_mk]
            unfold f_X4_condition_78
            simp (config := {decide := true}) only [shT_193 hSh2, tw2, w4, ne_eq, not_false_eq_true, and_self, and_true, true_and, and_false, false_and, true_or, or_true, false_or, or_false, not_true_eq_false, if_false, if_true]
          · rw [jO_jC]
            exact PK_end (.inr rfl) hO2 hT1 (by omega) k4
theorem e_condC {rc : Nat → Nat → Int32 → Mm → Prop → Int32 × Mm × Prop} {w n : Nat} {s : Nat → Nat} {f : Nat → PRs VC} (hpr : ∀ a, a ≤ n → prg n a (f a)) (dep : Int32) (hf : ∀ m a z, 0 < a → CS m w n s a z → SimC (rc 1 193 dep) m w z a (f a)) {m : Mm} {a z : Nat} (ha : 0 < a) (h : CS m w n s a z) : SimC (G_X4_condition rc 193 dep) m w z a (sCl s f 200 none none a) := by
  have hn200 := h.1.2.2.2.2.1
  have hSh := h.1.1
  have hw := h.1.2.1
  obtain ⟨w1, w2, w3, w4⟩ := w_ne hw
  obtain ⟨tw, -⟩ := w_sh hSh hw
  have hl := l_condC hpr dep hf (m0 := m) (z0 := z) (a0 := a) h.2.2.2.1 200 1000 none none a z z m (Nat.le_refl _) (by omega) (by omega) ha h (Fr_refl _ _) rfl rfl (by omega)
  have base : ∀ o, G_X4_condition rc 193 dep m o = f_X4_condition_13 rc 1000 193 dep (nI z) (nI z) (nI (200 - 200)) m o := fun o => by
    unfold G_X4_condition f_X4_condition_0
    rw [h.1.2.2.1, h.2.2.1]
    simp (config := {decide := true}) only [shT_193 hSh, tw, w4, ne_eq, not_false_eq_true, and_self, and_true, true_and, and_false, false_and, true_or, or_true, false_or, or_false, not_true_eq_false, if_false, if_true]
    rfl
  refine ⟨fun e y => ?_, fun q y => ?_⟩
  · obtain ⟨m', c1, c2⟩ := hl.1 e y
    exact ⟨m', fun o => by rw [base]; exact c1 o, c2⟩
  · obtain ⟨m', z', c1, c2, c3⟩ := hl.2 q y
    exact ⟨m', z', fun o => by rw [base]; exact c1 o, c2, c3⟩
theorem CFl_add {m m1 m' : Mm} {w n : Nat} {s : Nat → Nat} {z : Nat} {e : Nat × Nat} (hB : CB m w n s) (h : CFl m w z m1 e) (op arg : Int32) : ∃ m', (∀ o, F_X3_add w op arg m1 o = ((), m', o)) ∧ CFl m w z m' e := by
  obtain ⟨h1, h2, h3, z', h4, h5, h6⟩ := h
  obtain ⟨m', a1, a2, a3, z2, a4, a5, a6⟩ := e_add0 (Fr_Sh h1 hB.1) hB.2.1 h4 h5 h6 op arg
  exact ⟨m', a1, Fr_trans h1 a2, by rw [a3]; exact h2, by rw [a3]; exact h3, z2, a4, a5, a6⟩
theorem e_pieceC {rc : Nat → Nat → Int32 → Mm → Prop → Int32 × Mm × Prop} {w n : Nat} {s : Nat → Nat} {r : Nat} (hr : r ≤ 6) {rcs : Option (Nat → PRs VC)} (h0 : r = 0 → rcs = none) (hE : ∀ m a z, 0 < a → CS m w n s a z → SimE (rc 2 193 (nI (6 - r))) m w z a (2 * r + 3) (sE s r a)) (hN : 0 < r → ∃ f, rcs = some f ∧ (∀ a, a ≤ n → prg n a (f a)) ∧ (∀ m a z, 0 < a → CS m w n s a z → SimC (rc 1 193 (nI (6 - r + 1))) m w z a (f a)) ∧ ∀ m a z, 0 < a → CS m w n s a z → SimC (rc 0 193 (nI (6 - r + 1))) m w z a (sCl s f 200 none none a)) {m : Mm} {a z : Nat} (ha : 0 < a) (h : CS m w n s a z) : SimC (G_X4_piece rc 193 (nI (6 - r))) m w z a (sPc s r rcs a) := by
  obtain ⟨hB, h3, h9, hza, han⟩ := id h
  have hSh := hB.1
  have hw := hB.2.1
  have hn200 := hB.2.2.2.2.1
  have hz0 := hB.2.2.2.2.2.2
  obtain ⟨w1, w2, w3, w4⟩ := w_ne hw
  obtain ⟨tw, -⟩ := w_sh hSh hw
  have e33 : (sgv n s a = 33) = (s a = 33) := sg_eq hB a (ch := 33) (by omega) (by omega)
  have e40 : (sgv n s a = 40) = (s a = 40) := sg_eq hB a (ch := 40) (by omega) (by omega)
  have base : ∀ o, G_X4_piece rc 193 (nI (6 - r)) m o = f_X4_piece_4 rc 193 (nI (6 - r)) (sgv n s a) m o := fun o => by
    unfold G_X4_piece f_X4_piece_0
    rw [e_sign hB han h3, bnd_mk]
    simp (config := {decide := true}) only [shT_193 hSh, ne_eq, not_false_eq_true, and_self, and_true, true_and, and_false, false_and, true_or, or_true, false_or, or_false, not_true_eq_false, if_false, if_true]
  have deep : r = 0 → ∀ o, f_X4_piece_17 rc 193 (nI (6 - r)) (sgv n s a) m o = (0, sI m 193 4 (nI 5), o) := fun r0 o => by
    have l6 : ¬ nI (6 - r) < 6 := by rw [r0]; decide
    unfold f_X4_piece_17
    rw [if_neg l6, e_fail hSh, bnd_mk]
    unfold f_X4_piece_28
    simp (config := {decide := true}) only [shT_193 hSh, ne_eq, not_false_eq_true, and_self, and_true, true_and, and_false, false_and, true_or, or_true, false_or, or_false, not_true_eq_false, if_false, if_true]
    rfl
  have nest : 0 < r → ∀ o, f_X4_piece_17 rc 193 (nI (6 - r)) (sgv n s a) m o = f_X4_piece_39 rc 193 (nI (6 - r)) (sgv n s a) (sI m 193 3 (nI (a + 1))) o := fun r0 o => by
    have l6 : nI (6 - r) < 6 := nI_lt (b := 6) (by omega) (by omega)
    unfold f_X4_piece_17
    rw [if_pos l6, h3, nI_1]
    simp (config := {decide := true}) only [shT_193 hSh, ne_eq, not_false_eq_true, and_self, and_true, true_and, and_false, false_and, true_or, or_true, false_or, or_false, not_true_eq_false, if_false, if_true]
  have hS1 : Sh (sI m 193 3 (nI (a + 1))) := Sh_sI hSh _ _ _
  by_cases c33 : s a = 33
  · have cv : sgv n s a = 33 := by rw [e33]; exact c33
    have han' : a < n := lt_of_sg hz0 (by omega)
    have b4 : ∀ o, G_X4_piece rc 193 (nI (6 - r)) m o = f_X4_piece_17 rc 193 (nI (6 - r)) (sgv n s a) m o := fun o => by
      rw [base]
      unfold f_X4_piece_4
      rw [if_pos cv]
    by_cases r0 : r = 0
    · obtain rfl := h0 r0
      have eS : sPc s r none a = .inl (5, a) := by unfold sPc; rw [iT_pos c33]
      rw [eS]
      refine ⟨fun e y => ?_, fun q y => (by cases y)⟩
      cases y
      exact ⟨_, fun o => by rw [b4, deep r0], CFl_here h 5⟩
    · obtain ⟨f, rfl, hp, hf, -⟩ := hN (by omega)
      have eS : sPc s r (some f) a = bS (f (a + 1)) (fun p T => .inr (p, tNot T)) := by unfold sPc; rw [iT_pos c33]
      have h1 := CS_at h han'
      obtain ⟨f1, f2⟩ := hf _ _ _ (Nat.succ_pos a) h1
      have base2 : ∀ o, G_X4_piece rc 193 (nI (6 - r)) m o = bnd (rc 1 193 (nI (6 - r + 1)) (sI m 193 3 (nI (a + 1))) o) (fun v1 m1 o1 => f_X4_piece_77 rc 193 v1 m1 o1) := fun o => by
        rw [b4, nest (by omega)]
        unfold f_X4_piece_39
        rw [if_neg (by rw [cv]; decide), nI_1]
        simp (config := {decide := true}) only [shT_193 hS1, ne_eq, not_false_eq_true, and_self, and_true, true_and, and_false, false_and, true_or, or_true, false_or, or_false, not_true_eq_false, if_false, if_true]
      rw [eS]
      cases hfa : f (a + 1) with
      | inl e =>
        obtain ⟨m', a1, a2⟩ := f1 e hfa
        rw [bS_l]
        refine ⟨fun e' y => ?_, fun q y => (by cases y)⟩
        cases y
        obtain ⟨m2, b1, b2⟩ := CFl_add (m' := m) h1.1 a2 33 0
        refine ⟨m2, fun o => ?_, CFl_pre (Fr_at3 _) (Nat.le_refl _) b2⟩
        have hS' := Fr_Sh a2.1 h1.1.1
        have hr' : gR m' 193 1 = w := by rw [Fr_R a2.1]; exact h1.1.2.2.1
        obtain ⟨tw', -⟩ := w_sh hS' hw
        rw [base2, a1, bnd_mk]
        unfold f_X4_piece_77
        rw [hr', b1, bnd_mk]
        unfold f_X4_piece_88
        simp (config := {decide := true}) only [shT_193 hS', tw', w4, ne_eq, not_false_eq_true, and_self, and_true, true_and, and_false, false_and, true_or, or_true, false_or, or_false, not_true_eq_false, if_false, if_true]
      | inr q =>
        obtain ⟨p, T⟩ := q
        obtain ⟨m', z', a1, a2, a3⟩ := f2 (p, T) hfa
        have hpn : a + 1 < p ∧ p ≤ n := hp (a + 1) han' (p, T) hfa
        have h2 : CS m' w n s p z' := CS_of h1 a2 hpn.2
        have a3 : CCx (rwC m' w) z z' T := a3
        obtain ⟨o1, o2, o3, o4, o5⟩ := id a2
        have o5 : z' + (a + 1) ≤ z + p := o5
        obtain ⟨m2, u1, u2, u3, u4, u5, u6, u7⟩ := e_put h2 (by omega) 33 0
        rw [bS_r]
        refine ⟨fun e y => (by cases y), fun q y => ?_⟩
        cases y
        refine ⟨m2, z' + 1, fun o => ?_, ⟨Fr_trans (Fr_at3 _) (Fr_trans o1 (Fr_mono u2 (fun q i y => cfP_le (by omega) y))), by rw [u3]; exact o2, u4, by omega, by simp only; omega⟩, CCx_not (CCx_congr a3 (fun x _ b => u7 x b)) u5⟩
        have hS' := h2.1.1
        have hr' : gR m' 193 1 = w := h2.1.2.2.1
        obtain ⟨tw', -⟩ := w_sh hS' hw
        rw [base2, a1, bnd_mk]
        unfold f_X4_piece_77
        rw [hr', u1, bnd_mk]
        unfold f_X4_piece_88
        simp (config := {decide := true}) only [shT_193 hS', tw', w4, ne_eq, not_false_eq_true, and_self, and_true, true_and, and_false, false_and, true_or, or_true, false_or, or_false, not_true_eq_false, if_false, if_true]
  · by_cases c40 : s a = 40
    · have cv : sgv n s a = 40 := by rw [e40]; exact c40
      have cv3 : ¬ sgv n s a = 33 := by rw [e33]; exact c33
      have han' : a < n := lt_of_sg hz0 (by omega)
      have b4 : ∀ o, G_X4_piece rc 193 (nI (6 - r)) m o = f_X4_piece_17 rc 193 (nI (6 - r)) (sgv n s a) m o := fun o => by
        rw [base]
        unfold f_X4_piece_4
        rw [if_neg cv3, if_pos cv]
      by_cases r0 : r = 0
      · obtain rfl := h0 r0
        have eS : sPc s r none a = .inl (5, a) := by unfold sPc; rw [iT_neg c33, iT_pos c40]
        rw [eS]
        refine ⟨fun e y => ?_, fun q y => (by cases y)⟩
        cases y
        exact ⟨_, fun o => by rw [b4, deep r0], CFl_here h 5⟩
      · obtain ⟨f, rfl, hp, -, hf⟩ := hN (by omega)
        have eS : sPc s r (some f) a = bS (sCl s f 200 none none (a + 1)) (fun p T => iT (s p = 41) (.inr (p + 1, T)) (.inl (1, p))) := by unfold sPc; rw [iT_neg c33, iT_pos c40]
        have h1 := CS_at h han'
        obtain ⟨f1, f2⟩ := hf _ _ _ (Nat.succ_pos a) h1
        have base2 : ∀ o, G_X4_piece rc 193 (nI (6 - r)) m o = bnd (rc 0 193 (nI (6 - r + 1)) (sI m 193 3 (nI (a + 1))) o) (fun v1 m1 o1 => f_X4_piece_52 rc 193 v1 m1 o1) := fun o => by
          rw [b4, nest (by omega)]
          unfold f_X4_piece_39
          rw [if_pos cv, nI_1]
          simp (config := {decide := true}) only [shT_193 hS1, ne_eq, not_false_eq_true, and_self, and_true, true_and, and_false, false_and, true_or, or_true, false_or, or_false, not_true_eq_false, if_false, if_true]
        rw [eS]
        cases hfa : sCl s f 200 none none (a + 1) with
        | inl e =>
          obtain ⟨m', a1, a2⟩ := f1 e hfa
          rw [bS_l]
          refine ⟨fun e' y => ?_, fun q y => (by cases y)⟩
          cases y
          refine ⟨m', fun o => ?_, CFl_pre (Fr_at3 _) (Nat.le_refl _) a2⟩
          rw [base2, a1, bnd_mk]
          unfold f_X4_piece_52 f_X4_piece_68 f_X4_piece_69
          rw [if_pos rfl]
          simp (config := {decide := true}) only [ne_eq, not_false_eq_true, and_self, and_true, true_and, and_false, false_and, true_or, or_true, false_or, or_false, not_true_eq_false, if_false, if_true]
        | inr q =>
          obtain ⟨p, T⟩ := q
          obtain ⟨m', z', a1, a2, a3⟩ := f2 (p, T) hfa
          have hpn : a + 1 < p ∧ p ≤ n := sCl_prog hz0 hp 200 none none (a + 1) han' (p, T) hfa
          have h2 : CS m' w n s p z' := CS_of h1 a2 hpn.2
          have hS2 := h2.1.1
          obtain ⟨o1, o2, o3, o4, o5⟩ := id a2
          have o5 : z' + (a + 1) ≤ z + p := o5
          obtain ⟨x1, x2⟩ := e_expect h2.1 h2.2.2.2.2 h2.2.1 (ch := 41) (by omega) (by omega)
          have x1 : s p = 41 → ∀ o, F_X4_expect 193 41 m' o = (1, sI m' 193 3 (nI (p + 1)), o) := x1
          have x2 : ¬ s p = 41 → ∀ o, F_X4_expect 193 41 m' o = (0, sI m' 193 4 1, o) := x2
          rw [bS_r]
          by_cases c2 : s p = 41
          · rw [iT_pos c2]
            refine ⟨fun e y => (by cases y), fun q y => ?_⟩
            cases y
            refine ⟨sI m' 193 3 (nI (p + 1)), z', fun o => ?_, ⟨Fr_trans (Fr_at3 _) (Fr_trans o1 (Fr_at3 _)), by rw [gI_sI, if_pos ⟨rfl, rfl⟩], by rw [gI_sI, if_neg (fun y => w1 y.1)]; exact o3, o4, by simp only; omega⟩, by rw [rwC_at _ hw]; exact a3⟩
            rw [base2, a1, bnd_mk]
            unfold f_X4_piece_52
            rw [if_neg (by decide), x1 c2, bnd_mk]
            unfold f_X4_piece_61 f_X4_piece_69
            rw [if_neg (by decide)]
            simp (config := {decide := true}) only [shT_193 hS2, ne_eq, not_false_eq_true, and_self, and_true, true_and, and_false, false_and, true_or, or_true, false_or, or_false, not_true_eq_false, if_false, if_true]
          · rw [iT_neg c2]
            refine ⟨fun e y => ?_, fun q y => (by cases y)⟩
            cases y
            refine ⟨sI m' 193 4 (nI 1), fun o => ?_, CFl_pre (Fr_at3 _) (Nat.le_refl _) (CFl_pre o1 (Nat.le_of_lt o4) (CFl_here h2 1))⟩
            rw [base2, a1, bnd_mk]
            unfold f_X4_piece_52
            rw [if_neg (by decide), x2 c2, bnd_mk]
            unfold f_X4_piece_61 f_X4_piece_68 f_X4_piece_69
            rw [if_pos rfl]
            simp (config := {decide := true}) only [shT_193 hS2, ne_eq, not_false_eq_true, and_self, and_true, true_and, and_false, false_and, true_or, or_true, false_or, or_false, not_true_eq_false, if_false, if_true]
            rfl
    · have cv3 : ¬ sgv n s a = 33 := by rw [e33]; exact c33
      have cv4 : ¬ sgv n s a = 40 := by rw [e40]; exact c40
      have eS : sPc s r rcs a = bS (sE s r a) (fun p V => iT (isCmp (s p)) (bS (sE s r (p + 1)) (fun q W => .inr (q, tCmp (s p) V W))) (.inl (1, p))) := by unfold sPc; rw [iT_neg c33, iT_neg c40]
      obtain ⟨f1, f2⟩ := hE m a z ha h
      have base2 : ∀ o, G_X4_piece rc 193 (nI (6 - r)) m o = bnd (rc 2 193 (nI (6 - r)) m o) (fun v1 m1 o1 => f_X4_piece_95 rc 193 (nI (6 - r)) v1 m1 o1) := fun o => by
        rw [base]
        unfold f_X4_piece_4
        rw [if_neg cv3, if_neg cv4]
        simp (config := {decide := true}) only [shT_193 hSh, ne_eq, not_false_eq_true, and_self, and_true, true_and, and_false, false_and, true_or, or_true, false_or, or_false, not_true_eq_false, if_false, if_true]
      rw [eS]
      cases hfa : sE s r a with
      | inl e =>
        obtain ⟨m', a1, a2⟩ := f1 e hfa
        rw [bS_l]
        refine ⟨fun e' y => ?_, fun q y => (by cases y)⟩
        cases y
        refine ⟨m', fun o => ?_, a2⟩
        rw [base2, a1, bnd_mk]
        unfold f_X4_piece_95
        rw [if_pos rfl]
      | inr q =>
        obtain ⟨p, V⟩ := q
        obtain ⟨m', z', a1, a2, a3⟩ := f2 (p, V) hfa
        have hpn : a < p ∧ p ≤ n := sE_prog hz0 r a han (p, V) hfa
        have h2 : CS m' w n s p z' := CS_of h a2 hpn.2
        have a3 : ECx (rwC m' w) z z' (2 * r + 3) V := a3
        have hS2 := h2.1.1
        obtain ⟨o1, o2, o3, o4, o5⟩ := id a2
        have o5 : z' + a ≤ z + p := o5
        have hsp : ∀ {ch : Nat}, 0 < ch → ch < 256 → (sgv n s p = nI ch) = (s p = ch) := fun a b => sg_eq h2.1 p a b
        have g60 : (sgv n s p = 60) = (s p = 60) := hsp (ch := 60) (by omega) (by omega)
        have g62 : (sgv n s p = 62) = (s p = 62) := hsp (ch := 62) (by omega) (by omega)
        have g61 : (sgv n s p = 61) = (s p = 61) := hsp (ch := 61) (by omega) (by omega)
        have b95 : ∀ o, G_X4_piece rc 193 (nI (6 - r)) m o = f_X4_piece_104 rc 193 (nI (6 - r)) (sgv n s p) m' o := fun o => by
          rw [base2, a1, bnd_mk]
          unfold f_X4_piece_95
          rw [if_neg (by decide), e_sign h2.1 hpn.2 h2.2.1, bnd_mk]
          simp (config := {decide := true}) only [shT_193 hS2, ne_eq, not_false_eq_true, and_self, and_true, true_and, and_false, false_and, true_or, or_true, false_or, or_false, not_true_eq_false, if_false, if_true]
        rw [bS_r]
        by_cases cc : isCmp (s p)
        · rw [iT_pos cc]
          have hpn' : p < n := lt_of_sg hz0 (by unfold isCmp at cc; omega)
          have hsv : sgv n s p = nI (s p) := if_pos hpn'
          have h3' := CS_at h2 hpn'
          have hS3 := h3'.1.1
          obtain ⟨k1, k2⟩ := hE _ _ _ (Nat.succ_pos p) h3'
          have b129 : ∀ o, G_X4_piece rc 193 (nI (6 - r)) m o = bnd (rc 2 193 (nI (6 - r)) (sI m' 193 3 (nI (p + 1))) o) (fun v1 m1 o1 => f_X4_piece_144 rc 193 (nI (s p)) v1 m1 o1) := fun o => by
            have e129 : ∀ o, f_X4_piece_129 rc 193 (nI (6 - r)) (sgv n s p) m' o = bnd (rc 2 193 (nI (6 - r)) (sI m' 193 3 (nI (p + 1))) o) (fun v1 m1 o1 => f_X4_piece_144 rc 193 (nI (s p)) v1 m1 o1) := fun o => by
              unfold f_X4_piece_129 f_X4_piece_139
              rw [h2.2.1, nI_1, hsv]
              simp (config := {decide := true}) only [gT_sI, shT_193 hS2, ne_eq, not_false_eq_true, and_self, and_true, true_and, and_false, false_and, true_or, or_true, false_or, or_false, not_true_eq_false, if_false, if_true]
            rw [b95]
            unfold f_X4_piece_104
            simp only [g60, g62, g61, e129]
            rcases cc with y | y | y
            · rw [if_pos y]
            · rw [if_neg (by omega), if_pos y]
            · rw [if_neg (by omega), if_neg (by omega), if_pos y]
          cases hfb : sE s r (p + 1) with
          | inl e =>
            obtain ⟨m2, c1, c2⟩ := k1 e hfb
            rw [bS_l]
            refine ⟨fun e' y => ?_, fun q y => (by cases y)⟩
            cases y
            obtain ⟨m3, b1, b2⟩ := CFl_add (m' := m) h3'.1 c2 (nI (s p)) 0
            refine ⟨m3, fun o => ?_, CFl_pre o1 (Nat.le_of_lt o4) (CFl_pre (Fr_at3 _) (Nat.le_refl _) b2)⟩
            have hS' := Fr_Sh c2.1 h3'.1.1
            have hr' : gR m2 193 1 = w := by rw [Fr_R c2.1]; exact h3'.1.2.2.1
            obtain ⟨tw', -⟩ := w_sh hS' hw
            rw [b129, c1, bnd_mk]
            unfold f_X4_piece_144
            rw [hr', b1, bnd_mk]
            unfold f_X4_piece_155
            simp (config := {decide := true}) only [shT_193 hS', tw', w4, ne_eq, not_false_eq_true, and_self, and_true, true_and, and_false, false_and, true_or, or_true, false_or, or_false, not_true_eq_false, if_false, if_true]
          | inr q2 =>
            obtain ⟨p2, W⟩ := q2
            obtain ⟨m2, z2, c1, c2, c3⟩ := k2 (p2, W) hfb
            have hpn2 : p + 1 < p2 ∧ p2 ≤ n := sE_prog hz0 r (p + 1) hpn' (p2, W) hfb
            have h4 : CS m2 w n s p2 z2 := CS_of h3' c2 hpn2.2
            have c3 : ECx (rwC m2 w) z' z2 (2 * r + 3) W := c3
            obtain ⟨q1, q2, q3, q4, q5⟩ := id c2
            have q5 : z2 + (p + 1) ≤ z' + p2 := q5
            obtain ⟨m3, u1, u2, u3, u4, u5, u6, u7⟩ := e_put h4 (by omega) (nI (s p)) 0
            rw [bS_r]
            refine ⟨fun e y => (by cases y), fun q y => ?_⟩
            cases y
            have rowsV : ∀ x, x < z' → rwC m2 w 1 x = rwC m' w 1 x ∧ rwC m2 w 2 x = rwC m' w 2 x := fun x hx => by
              have e1 : rwC m2 w 1 x = rwC (sI m' 193 3 (nI (p + 1))) w 1 x := Fr_at q1 (by unfold cfP; omega)
              have e2 : rwC m2 w 2 x = rwC (sI m' 193 3 (nI (p + 1))) w 2 x := Fr_at q1 (by unfold cfP; omega)
              rw [rwC_at _ hw] at e1 e2
              exact ⟨e1, e2⟩
            refine ⟨m3, z2 + 1, fun o => ?_, ⟨Fr_trans o1 (Fr_trans (Fr_at3 _) (Fr_trans (Fr_mono q1 (fun q i y => cfP_le (by omega) y)) (Fr_mono u2 (fun q i y => cfP_le (by omega) y)))), by rw [u3]; exact q2, u4, by omega, by simp only; omega⟩, CCx_cmp (ECx_congr (ECx_congr a3 (fun x _ b => rowsV x b)) (fun x _ b => u7 x (by omega))) (ECx_congr c3 (fun x _ b => u7 x b)) (by omega) (by omega) cc u5⟩
            have hS' := h4.1.1
            have hr' : gR m2 193 1 = w := h4.1.2.2.1
            obtain ⟨tw', -⟩ := w_sh hS' hw
            rw [b129, c1, bnd_mk]
            unfold f_X4_piece_144
            rw [hr', u1, bnd_mk]
            unfold f_X4_piece_155
            simp (config := {decide := true}) only [shT_193 hS', tw', w4, ne_eq, not_false_eq_true, and_self, and_true, true_and, and_false, false_and, true_or, or_true, false_or, or_false, not_true_eq_false, if_false, if_true]
        · rw [iT_neg cc]
          refine ⟨fun e y => ?_, fun q y => (by cases y)⟩
          cases y
          refine ⟨sI m' 193 4 (nI 1), fun o => ?_, CFl_pre o1 (Nat.le_of_lt o4) (CFl_here h2 1)⟩
          rw [b95]
          unfold f_X4_piece_104
          simp only [g60, g62, g61]
          unfold isCmp at cc
          rw [if_neg (by omega), if_neg (by omega), if_neg (by omega), e_fail hS2, bnd_mk]
          unfold f_X4_piece_128
          simp (config := {decide := true}) only [shT_193 hS2, ne_eq, not_false_eq_true, and_self, and_true, true_and, and_false, false_and, true_or, or_true, false_or, or_false, not_true_eq_false, if_false, if_true]
          rfl
/-! all of it, by the nests that are left -/
theorem FR_E {w n : Nat} {s : Nat → Nat} (hz : ∀ x, n ≤ x → s x = 0) : ∀ (r D : Nat), r ≤ 6 → 2 * r + 2 ≤ D → ∀ m a z, 0 < a → CS m w n s a z → SimE (FR D 2 193 (nI (6 - r))) m w z a (2 * r + 3) (sE s r a) := by
  intro r
  induction r with
  | zero =>
    intro D hr hD m a z ha h
    obtain ⟨D, rfl⟩ : ∃ D', D = D' + 2 := ⟨D - 2, by omega⟩
    have e : FR (D + 2) 2 193 (nI (6 - 0)) = G_X4_expression (FR (D + 1)) 193 (nI (6 - 0)) := funext (fun m => funext (fun o => FR_2 (D + 1) 193 _ m o))
    rw [e]
    refine e_exprC (rcs := none) (fun f y => (by cases y)) _ (fun m a z h => ?_) ha h
    have e3 : FR (D + 1) 3 193 (nI (6 - 0)) = G_X4_factor (FR D) 193 (nI (6 - 0)) := funext (fun m => funext (fun o => FR_3 D 193 _ m o))
    rw [e3]
    exact e_factorC (r := 0) (by omega) (fun _ => rfl) (fun y => by omega) h
  | succ r ih =>
    intro D hr hD m a z ha h
    obtain ⟨D, rfl⟩ : ∃ D', D = D' + 2 := ⟨D - 2, by omega⟩
    have e : FR (D + 2) 2 193 (nI (6 - (r + 1))) = G_X4_expression (FR (D + 1)) 193 (nI (6 - (r + 1))) := funext (fun m => funext (fun o => FR_2 (D + 1) 193 _ m o))
    rw [e]
    refine e_exprC (rcs := some (sE s r)) (fun f y => by cases y; exact fun b hb => sE_prog hz r b hb) _ (fun m a z h => ?_) ha h
    have e3 : FR (D + 1) 3 193 (nI (6 - (r + 1))) = G_X4_factor (FR D) 193 (nI (6 - (r + 1))) := funext (fun m => funext (fun o => FR_3 D 193 _ m o))
    rw [e3]
    refine e_factorC (r := r + 1) hr (fun y => by omega) (fun _ => ⟨sE s r, rfl, fun b hb => sE_prog hz r b hb, fun m a z ha h => ?_⟩) h
    rw [show 6 - (r + 1) + 1 = 6 - r by omega]
    exact ih D (by omega) (by omega) m a z ha h
theorem FR_P {w n : Nat} {s : Nat → Nat} (hz : ∀ x, n ≤ x → s x = 0) : ∀ (r D : Nat), r ≤ 6 → 2 * r + 3 ≤ D → ∀ m a z, 0 < a → CS m w n s a z → SimC (FR D 1 193 (nI (6 - r))) m w z a (sP s r a) := by
  intro r
  induction r with
  | zero =>
    intro D hr hD m a z ha h
    obtain ⟨D, rfl⟩ : ∃ D', D = D' + 1 := ⟨D - 1, by omega⟩
    have e : FR (D + 1) 1 193 (nI (6 - 0)) = G_X4_piece (FR D) 193 (nI (6 - 0)) := funext (fun m => funext (fun o => FR_1 D 193 _ m o))
    rw [e]
    exact e_pieceC (r := 0) (by omega) (fun _ => rfl) (fun m a z ha h => FR_E hz 0 D (by omega) (by omega) m a z ha h) (fun y => by omega) ha h
  | succ r ih =>
    intro D hr hD m a z ha h
    obtain ⟨D, rfl⟩ : ∃ D', D = D' + 2 := ⟨D - 2, by omega⟩
    have e : FR (D + 2) 1 193 (nI (6 - (r + 1))) = G_X4_piece (FR (D + 1)) 193 (nI (6 - (r + 1))) := funext (fun m => funext (fun o => FR_1 (D + 1) 193 _ m o))
    rw [e]
    refine e_pieceC (r := r + 1) hr (fun y => by omega) (fun m a z ha h => FR_E hz (r + 1) (D + 1) hr (by omega) m a z ha h) (fun _ => ⟨sP s r, rfl, fun b hb => sP_prog hz r b hb, fun m a z ha h => ?_, fun m a z ha h => ?_⟩) ha h
    · rw [show 6 - (r + 1) + 1 = 6 - r by omega]
      exact ih (D + 1) (by omega) (by omega) m a z ha h
    · rw [show 6 - (r + 1) + 1 = 6 - r by omega]
      have e0 : FR (D + 1) 0 193 (nI (6 - r)) = G_X4_condition (FR D) 193 (nI (6 - r)) := funext (fun m => funext (fun o => FR_0 D 193 _ m o))
      rw [e0]
      exact e_condC (fun b hb => sP_prog hz r b hb) _ (fun m a z ha h => ih D (by omega) (by omega) m a z ha h) ha h
theorem FR_C {w n : Nat} {s : Nat → Nat} (hz : ∀ x, n ≤ x → s x = 0) {r D : Nat} (hr : r ≤ 6) (hD : 2 * r + 4 ≤ D) (m : Mm) (a z : Nat) (ha : 0 < a) (h : CS m w n s a z) : SimC (FR D 0 193 (nI (6 - r))) m w z a (sCl s (sP s r) 200 none none a) := by
  obtain ⟨D, rfl⟩ : ∃ D', D = D' + 1 := ⟨D - 1, by omega⟩
  have e0 : FR (D + 1) 0 193 (nI (6 - r)) = G_X4_condition (FR D) 193 (nI (6 - r)) := funext (fun m => funext (fun o => FR_0 D 193 _ m o))
  rw [e0]
  exact e_condC (fun b hb => sP_prog hz r b hb) _ (fun m a z ha h => FR_P hz r D hr (by omega) m a z ha h) ha h
