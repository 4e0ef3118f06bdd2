/-! ===== a factor, and a value, read by the class ===== -/
theorem CS_to {m : Mm} {w n : Nat} {s : Nat → Nat} {a z p : Nat} (h : CS m w n s a z) (hap : a ≤ p) (hp : p ≤ n) : CS (sI m 193 3 (nI p)) w n s p z := by
  obtain ⟨h1, h2, h3, h4, h5⟩ := h
  obtain ⟨w1, -⟩ := w_ne h1.2.1
  exact ⟨CB_Fr h1 (z := 0) (Fr_sI (Fr_refl _ m) (.inl ⟨rfl, .inl rfl⟩) _), by rw [gI_sI, if_pos ⟨rfl, rfl⟩], by rw [gI_sI, if_neg (fun y => w1 y.1)]; exact h3, by omega, hp⟩
theorem e_factorC {rc : Nat → Nat → Int32 → Mm → Prop → Int32 × Mm × Prop} {w n : Nat} {s : Nat → Nat} {r : Nat} (hr : r ≤ 6) {rcs : Option (Nat → PRs VE)} (h0 : r = 0 → rcs = none) (hN : 0 < r → ∃ f, rcs = some f ∧ (∀ a, a ≤ n → prg n a (f a)) ∧ ∀ m a z, 0 < a → CS m w n s a z → SimE (rc 2 193 (nI (6 - r + 1))) m w z a (2 * r + 1) (f a)) {m : Mm} {a z : Nat} (h : CS m w n s a z) : SimE (G_X4_factor rc 193 (nI (6 - r))) m w z a (2 * r + 1) (sFc s rcs a) := by
  obtain ⟨hB, h3, h9, hza, han⟩ := id h
  have hSh := hB.1
  have hw := hB.2.1
  have hn200 := hB.2.2.2.2.1
  obtain ⟨w1, w2, w3, w4⟩ := w_ne hw
  obtain ⟨tw, -⟩ := w_sh hSh hw
  have e91 : (sgv n s a = 91) = (s a = 91) := sg_eq hB a (ch := 91) (by omega) (by omega)
  have base : ∀ o, G_X4_factor rc 193 (nI (6 - r)) m o = f_X4_factor_4 rc 193 (nI (6 - r)) (sgv n s a) m o := fun o => by
    unfold G_X4_factor f_X4_factor_0
    rw [e_sign hB han h3, bnd_mk]
    simp (config := {decide := true}) only [shT_193 hSh, ne_eq, not_false_eq_true, and_self, and_true, true_and, and_false, false_and, true_or, or_true, false_or, or_false, not_true_eq_false, if_false, if_true]
  by_cases c : s a = 91
  · have han' : a < n := lt_of_sg hB.2.2.2.2.2.2 (by omega)
    have cv : sgv n s a = 91 := by rw [e91]; exact c
    by_cases r0 : r = 0
    · obtain rfl := h0 r0
      have eS : sFc s none a = .inl (5, a) := by unfold sFc; rw [iT_pos c]
      rw [eS]
      refine ⟨fun e y => ?_, fun q y => (by cases y)⟩
      cases y
      refine ⟨sI m 193 4 (nI 5), fun o => ?_, CFl_here h 5⟩
      have l6 : ¬ nI (6 - r) < 6 := by rw [r0]; decide
      rw [base]
      unfold f_X4_factor_4
      rw [if_pos cv, if_neg l6, e_fail hSh, bnd_mk]
      unfold f_X4_factor_22
      simp (config := {decide := true}) only [shT_193 hSh, ne_eq, not_false_eq_true, and_self, and_true, true_and, and_false, false_and, true_or, or_true, false_or, or_false, not_true_eq_false, if_false, if_true]
      rfl
    · obtain ⟨f, rfl, hp, hf⟩ := hN (by omega)
      have eS : sFc s (some f) a = bS (f (a + 1)) (fun p V => iT (s p = 93) (.inr (p + 1, V)) (.inl (1, p))) := by unfold sFc; rw [iT_pos c]
      have h1 := CS_at h han'
      obtain ⟨f1, f2⟩ := hf _ _ _ (Nat.succ_pos a) h1
      have l6 : nI (6 - r) < 6 := nI_lt (b := 6) (by omega) (by omega)
      have base2 : ∀ o, G_X4_factor rc 193 (nI (6 - r)) m o = bnd (rc 2 193 (nI (6 - r + 1)) (sI m 193 3 (nI (a + 1))) o) (fun v1 m1 o1 => f_X4_factor_40 rc 193 v1 m1 o1) := fun o => by
        rw [base]
        unfold f_X4_factor_4
        rw [if_pos cv, if_pos l6]
        unfold f_X4_factor_33
        rw [h3, nI_1, show nI a + 1 = nI (a + 1) from nI_1 a]
        simp (config := {decide := true}) only [gT_sI, shT_193 hSh, ne_eq, not_false_eq_true, and_self, and_true, true_and, and_false, false_and, true_or, or_true, false_or, or_false, not_true_eq_false, if_false, if_true]
      rw [eS]
      cases hfa : f (a + 1) with
      | inl e =>
        obtain ⟨m', a1, a2⟩ := f1 e hfa
        refine ⟨fun e' y => ?_, fun q y => (by cases y)⟩
        have y : (Sum.inl e : PRs VE) = .inl e' := y
        cases y
        refine ⟨m', fun o => ?_, CFl_pre (Fr_at3 _) (Nat.le_refl _) a2⟩
        rw [base2, a1, bnd_mk]
        unfold f_X4_factor_40 f_X4_factor_56 f_X4_factor_57
        rw [if_pos rfl]
        simp (config := {decide := true}) only [ne_eq, not_false_eq_true, and_self, and_true, true_and, and_false, false_and, true_or, or_true, false_or, or_false, not_true_eq_false, if_false, if_true]
      | inr q =>
        obtain ⟨p, V⟩ := q
        obtain ⟨m', z', a1, a2, a3⟩ := f2 (p, V) hfa
        have hpn : a + 1 < p ∧ p ≤ n := hp (a + 1) han' (p, V) hfa
        have h2 := CS_of h1 a2 hpn.2
        have hS2 := h2.1.1
        obtain ⟨x1, x2⟩ := e_expect h2.1 h2.2.2.2.2 h2.2.1 (ch := 93) (by omega) (by omega)
        have x1 : s p = 93 → ∀ o, F_X4_expect 193 93 m' o = (1, sI m' 193 3 (nI (p + 1)), o) := x1
        have x2 : ¬ s p = 93 → ∀ o, F_X4_expect 193 93 m' o = (0, sI m' 193 4 1, o) := x2
        by_cases c2 : s p = 93
        · have eB : bS (Sum.inr (p, V) : PRs VE) (fun p V => iT (s p = 93) (.inr (p + 1, V)) (.inl (1, p))) = .inr (p + 1, V) := iT_pos c2 _ _
          rw [eB]
          refine ⟨fun e y => (by cases y), fun q y => ?_⟩
          cases y
          refine ⟨sI m' 193 3 (nI (p + 1)), z', fun o => ?_, ⟨Fr_trans (Fr_at3 _) (Fr_trans a2.1 (Fr_at3 _)), by rw [gI_sI, if_pos ⟨rfl, rfl⟩], by rw [gI_sI, if_neg (fun y => w1 y.1)]; exact a2.2.2.1, a2.2.2.2.1, by have := a2.2.2.2.2; simp only at this ⊢; omega⟩, by rw [rwC_at _ hw]; exact a3⟩
          rw [base2, a1, bnd_mk]
          unfold f_X4_factor_40
          rw [if_neg (by decide), x1 c2, bnd_mk]
          unfold f_X4_factor_49 f_X4_factor_57
          rw [if_neg (by decide)]
          simp (config := {decide := true}) only [shT_193 hS2, ne_eq, not_false_eq_true, and_self, and_true, true_and, and_false, false_and, true_or, or_true, false_or, or_false, not_true_eq_false, if_false, if_true]
        · have eB : bS (Sum.inr (p, V) : PRs VE) (fun p V => iT (s p = 93) (.inr (p + 1, V)) (.inl (1, p))) = .inl (1, p) := iT_neg c2 _ _
          rw [eB]
          refine ⟨fun e y => ?_, fun q y => (by cases y)⟩
          cases y
          refine ⟨sI m' 193 4 (nI 1), fun o => ?_, CFl_pre (Fr_at3 _) (Nat.le_refl _) (CFl_pre a2.1 (Nat.le_of_lt a2.2.2.2.1) (CFl_here h2 1))⟩
          rw [base2, a1, bnd_mk]
          unfold f_X4_factor_40
          rw [if_neg (by decide), x2 c2, bnd_mk]
          unfold f_X4_factor_49 f_X4_factor_56 f_X4_factor_57
          rw [if_pos rfl]
          simp (config := {decide := true}) only [shT_193 hS2, ne_eq, not_false_eq_true, and_self, and_true, true_and, and_false, false_and, true_or, or_true, false_or, or_false, not_true_eq_false, if_false, if_true]
          rfl
  · have cv : ¬ sgv n s a = 91 := by rw [e91]; exact c
    have dd := fun o => e_isDigit hB a m o
    by_cases cd : isDg (s a)
    · have eS : sFc s rcs a = bS (sDg s 5 0 a) (fun p v => .inr (p, fun _ => some (nI v))) := by unfold sFc; rw [iT_neg c, iT_pos cd]
      obtain ⟨n1, n2⟩ := l_number (w := w) (n := n) (s := s) 5 1000 0 a m hB han h3 (Nat.le_refl _) (by omega)
      have base2 : ∀ o, G_X4_factor rc 193 (nI (6 - r)) m o = bnd (f_X4_number_4 1000 193 (nI 0) (nI (5 - 5)) m o) (fun v1 m1 o1 => f_X4_factor_69 rc v1 m1 o1) := fun o => by
        rw [base]
        unfold f_X4_factor_4
        rw [if_neg cv, (dd _).1 cd, bnd_mk]
        unfold f_X4_factor_62
        rw [if_neg (by decide)]
        simp (config := {decide := true}) only [shT_193 hSh, ne_eq, not_false_eq_true, and_self, and_true, true_and, and_false, false_and, true_or, or_true, false_or, or_false, not_true_eq_false, if_false, if_true]
        rfl
      rw [eS]
      cases hd : sDg s 5 0 a with
      | inl e =>
        refine ⟨fun e' y => ?_, fun q y => (by cases y)⟩
        have y : (Sum.inl e : PRs VE) = .inl e' := y
        cases y
        refine ⟨sI (sI m 193 3 (nI e.2)) 193 4 (nI e.1), fun o => ?_, Fr_trans (Fr_at3 _) (Fr_at4 _), by rw [gI_sI, if_pos ⟨rfl, rfl⟩], by rw [gI_sI, if_neg (by omega), gI_sI, if_pos ⟨rfl, rfl⟩], z, by omega, Nat.le_refl _, by rw [gI_sI, if_neg (fun y => w1 y.1), gI_sI, if_neg (fun y => w1 y.1)]; exact h9⟩
        rw [base2, n1 e hd, bnd_mk]
        unfold f_X4_factor_69
        simp (config := {decide := true}) only [ne_eq, not_false_eq_true, and_self, and_true, true_and, and_false, false_and, true_or, or_true, false_or, or_false, not_true_eq_false, if_false, if_true]
      | inr q =>
        obtain ⟨p, v⟩ := q
        obtain ⟨p1, p2, p3⟩ := sDg_prog hB.2.2.2.2.2.2 5 0 a han (p, v) hd
        have p3 := p3 cd
        have p2 : p ≤ n := p2
        have p3 : a < p := p3
        have h1 := CS_to h (Nat.le_of_lt p3) p2
        obtain ⟨m', u1, u2, u3, u4, u5, u6, u7⟩ := e_put h1 (by omega) 1 (nI v)
        refine ⟨fun e y => (by cases y), fun q y => ?_⟩
        have y : (Sum.inr (p, fun _ => some (nI v)) : PRs VE) = .inr q := y
        cases y
        refine ⟨m', z + 1, fun o => ?_, ⟨Fr_trans (Fr_at3 _) u2, by rw [u3]; exact h1.2.1, u4, by omega, by simp only; omega⟩, ECx_mono (ECx_num u5 u6) (by omega)⟩
        rw [base2, n2 (p, v) hd]
        unfold f_X4_number_59
        have hr1 : gR (sI m 193 3 (nI p)) 193 1 = w := hB.2.2.1
        rw [hr1, u1, bnd_mk]
        unfold f_X4_number_68
        rw [bnd_mk]
        unfold f_X4_factor_69
        simp (config := {decide := true}) only [gT_sI, shT_193 hSh, tw, w4, ne_eq, not_false_eq_true, and_self, and_true, true_and, and_false, false_and, true_or, or_true, false_or, or_false, not_true_eq_false, if_false, if_true]
    · have cond : ∀ o, G_X4_factor rc 193 (nI (6 - r)) m o = f_X4_factor_86 rc 193 (if lix (s a) < 10 then nI (lix (s a)) else -1) m o := fun o => by
        rw [base]
        unfold f_X4_factor_4
        rw [if_neg cv, (dd _).2 cd, bnd_mk]
        unfold f_X4_factor_62
        rw [if_pos rfl]
        by_cases q : a < n
        · have es : sgv n s a = nI (s a) := if_pos q
          have hs := (hB.2.2.2.2.2.1 a q).2
          rw [es, if_neg (nI_ne_m1 (by omega)), e_index hs, bnd_mk]
        · have es : sgv n s a = -1 := if_neg q
          have z0 : s a = 0 := hB.2.2.2.2.2.2 a (by omega)
          rw [es, if_pos rfl, z0]
          rfl
      by_cases cl : lix (s a) < 10
      · have eS : sFc s rcs a = .inr (a + 1, fun l => some (l (lix (s a)))) := by unfold sFc; rw [iT_neg c, iT_neg cd, iT_pos cl]
        have han' : a < n := lt_of_sg hB.2.2.2.2.2.2 (fun y => by rw [y] at cl; exact absurd cl (by decide))
        have h1 := CS_at h han'
        obtain ⟨m', u1, u2, u3, u4, u5, u6, u7⟩ := e_put h1 (by omega) 2 (nI (lix (s a)))
        rw [eS]
        refine ⟨fun e y => (by cases y), fun q y => ?_⟩
        cases y
        refine ⟨m', z + 1, fun o => ?_, ⟨Fr_trans (Fr_at3 _) u2, by rw [u3]; exact h1.2.1, u4, by omega, by simp only; omega⟩, ECx_mono (ECx_let u5 u6 cl) (by omega)⟩
        have hp : (0 : Int32) ≤ nI (lix (s a)) := nI_pos' (by omega)
        have hr1 : gR (sI m 193 3 (nI (a + 1))) 193 1 = w := hB.2.2.1
        rw [cond, if_pos cl]
        unfold f_X4_factor_86
        rw [if_pos hp, h3, nI_1]
        unfold f_X4_factor_107
        rw [hr1, u1, bnd_mk]
        unfold f_X4_factor_116
        simp (config := {decide := true}) only [gT_sI, shT_193 hSh, tw, w4, ne_eq, not_false_eq_true, and_self, and_true, true_and, and_false, false_and, true_or, or_true, false_or, or_false, not_true_eq_false, if_false, if_true]
      · have eS : sFc s rcs a = .inl (1, a) := by unfold sFc; rw [iT_neg c, iT_neg cd, iT_neg cl]
        rw [eS]
        refine ⟨fun e y => ?_, fun q y => (by cases y)⟩
        cases y
        refine ⟨sI m 193 4 (nI 1), fun o => ?_, CFl_here h 1⟩
        rw [cond, if_neg cl]
        unfold f_X4_factor_86
        rw [if_neg (by decide), e_fail hSh, bnd_mk]
        unfold f_X4_factor_96
        simp (config := {decide := true}) only [shT_193 hSh, ne_eq, not_false_eq_true, and_self, and_true, true_and, and_false, false_and, true_or, or_true, false_or, or_false, not_true_eq_false, if_false, if_true]
        rfl
