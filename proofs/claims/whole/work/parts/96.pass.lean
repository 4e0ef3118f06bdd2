/-! ===== a day of the class, a day of the other side ===== -/
def dyC (p w q i : Nat) : Prop := lwP w q i ∨ (p ≤ q ∧ q < p + 63)
theorem l_pass1 {C : Nat → Nat → Int32} {nl : Nat} {T : Nat → (Nat → Int32) → Option Bool} {V : Nat → (Nat → Int32) → Option Int32} (hL : LwF C nl T V) (hmk : ∀ j, j < 10 → C 8 j = 0 ∨ C 8 j = -1) (hdE : dep (C 8) (Ev C nl T V)) {p w : Nat} (hp : isMd p) {a0 : Nat → Nat → Int32} {n c : Nat} (r : Int32 → Mm → Prop → Int32 × Mm × Prop) (hr : ∀ v m o, f_X5_passDay_52 1000 p w v 0 m o = r v m o) : ∀ (k N e : Nat) (z : (Nat → Nat → Int32) × Int32 × (Nat → Int32)) (m : Mm), Sh m → lawAt m w C nl → Md m p z.1 → WfA z.1 n c → sta a0 z.1 n c → KC (Ev C nl T V) (C 8) m p a0 n c → (∀ x, x < e → gI m (p + 4) x = z.2.2 x) → e + k = c → k < N → ∃ m', (∀ o, f_X5_passDay_4 N p w z.2.1 (nI e) m o = r (dC (Ev C nl T V) n z e k).2.1 m' o) ∧ Md m' p (dC (Ev C nl T V) n z e k).1 ∧ KC (Ev C nl T V) (C 8) m' p a0 n c ∧ (∀ x, x < c → gI m' (p + 4) x = (dC (Ev C nl T V) n z e k).2.2 x) ∧ Fr (dyC p w) m m' := by
  have hpp : p + 63 ≤ 191 := by rcases hp with rfl | rfl | rfl <;> omega
  intro k
  induction k with
  | zero =>
    intro N e z m h hA hM hW hS hK ht he hN
    obtain ⟨N, rfl⟩ : ∃ N1, N = N1 + 1 := ⟨N - 1, by omega⟩
    have hc := hW.1.1.2
    obtain ⟨t1, -⟩ := md_top h hp
    have h7 : gI m p 7 = nI c := (hM 0 7 (by omega) (by omega)).trans hW.1.2.2.1
    have hle : nI c ≤ nI e := nI_le (by omega) (by omega)
    refine ⟨m, fun o => ?_, hM, hK, fun x hx => ht x (by omega), Fr_refl _ m⟩
    show f_X5_passDay_4b (f_X5_passDay_4 N) p w z.2.1 (nI e) m o = _
    simp (config := {decide := true}) only [f_X5_passDay_4b, h7, hle, t1, hr, dC, ne_eq, not_false_eq_true, and_self, and_true, true_and, and_false, false_and, true_or, or_true, false_or, or_false, not_true_eq_false, if_false, if_true]
  | succ k ih =>
    intro N e z m h hA hM hW hS hK ht he hN
    obtain ⟨N, rfl⟩ : ∃ N1, N = N1 + 1 := ⟨N - 1, by omega⟩
    have hn := hW.1.1.1
    have hc := hW.1.1.2
    obtain ⟨t1, -⟩ := md_top h hp
    have h7 : gI m p 7 = nI c := (hM 0 7 (by omega) (by omega)).trans hW.1.2.2.1
    have hle : ¬ nI c ≤ nI e := nI_ge (by omega) (by omega)
    have hwp : 205 ≤ w := by rcases hA.1 with rfl | rfl <;> omega
    obtain ⟨w0, -⟩ := w_sh h hA.1
    obtain ⟨m1, a1, a2, a3⟩ := l_best hL hmk hdE hp hW hS (show e < c by omega) n 1000 0 (-1) 0 m h hA hM hK (by omega) (by omega)
    rw [nI_0] at a1
    have a1 : ∀ o, F_X5_bestStack p w (nI e) m o = (chF (Ev C nl T V) z.1 e (-1) 0 0 n, m1, o) := a1
    have h1 := Fr_Sh a2 h
    have hA1 : lawAt m1 w C nl := lawAt_Fr hA a2 (fun q x hq => by unfold bsP lwP; omega)
    have hM1 : Md m1 p z.1 := Md_frame hM (fun q x hq => Fr_at a2 (by unfold bsP lwP; unfold inM at hq; omega))
    have F1 : Fr (dyC p w) m m1 := Fr_mono a2 (fun q x hq => by unfold bsP at hq; unfold dyC; rcases hq with hq | hq | hq; exact .inl hq; exact .inr ⟨by omega, by omega⟩; exact .inr ⟨by omega, by omega⟩)
    obtain ⟨x3, x4, x5, -⟩ := md_top2 h1 hp
    obtain ⟨s1, -⟩ := md_top h1 hp
    have n4 : ¬ p + 4 = 0 := by omega
    have hin : vp_in (nI e) 16 := vp_in_nI (by omega) (by omega)
    generalize hch : chF (Ev C nl T V) z.1 e (-1) 0 0 n = s at a1
    have h2 : Sh (sI m1 (p + 4) e s) := h1
    have hA2 : lawAt (sI m1 (p + 4) e s) w C nl := lawAt_Fr hA1 (Fr_sI (Fr_refl (fun q x => q = p + 4 ∧ x = e) m1) ⟨rfl, rfl⟩ s) (fun q x hq => by omega)
    have hM2 : Md (sI m1 (p + 4) e s) p z.1 := Md_ne hM1 e s (by unfold inM; omega)
    have K2 : KC (Ev C nl T V) (C 8) (sI m1 (p + 4) e s) p a0 n c := KC_Fr a3 (Fr_sI (Fr_refl (fun q x => q = p + 4 ∧ x = e) m1) ⟨rfl, rfl⟩ s) (fun x => by omega)
    have F2 : Fr (dyC p w) m (sI m1 (p + 4) e s) := Fr_sI F1 (.inr ⟨by omega, by omega⟩) s
    obtain ⟨W1, S1⟩ := WfA_dC1 (Ev C nl T V) hW (show e < c by omega)
    rw [dC]
    unfold dC1 at W1 S1 ⊢
    rw [hch] at W1 S1 ⊢
    have tt : ∀ x, x < e + 1 → gI (sI m1 (p + 4) e s) (p + 4) x = if x = e then s else z.2.2 x := fun x hx => by
      rw [gI_sI]
      by_cases q : x = e
      · rw [if_pos ⟨rfl, q⟩, if_pos q]
      · rw [if_neg (fun y => q y.2), if_neg q, Fr_at a2 (by unfold bsP lwP; omega)]
        exact ht x (by omega)
    by_cases q : s = -1
    · subst q
      rw [if_pos rfl] at W1 S1 ⊢
      obtain ⟨m3, b1, b2, b3, b4, b5⟩ := ih N (e + 1) (z.1, z.2.1, fun x => if x = e then -1 else z.2.2 x) (sI m1 (p + 4) e (-1)) h2 hA2 hM2 hW hS K2 tt (by omega) (by omega)
      refine ⟨m3, fun o => ?_, b2, b3, b4, Fr_trans F2 b5⟩
      show f_X5_passDay_4b (f_X5_passDay_4 N) p w z.2.1 (nI e) m o = _
      simp (config := {decide := true}) only [f_X5_passDay_4b, f_X5_passDay_18, f_X5_passDay_28, f_X5_passDay_44, bnd, h7, hle, t1, w0, a1, x3, x4, x5, s1, n4, hin, ix_nI (show e < 2 ^ 31 by omega), nI_1, ne_eq, not_false_eq_true, and_self, and_true, true_and, and_false, false_and, true_or, or_true, false_or, or_false, not_true_eq_false, if_false, if_true]
      exact b1 o
    · rw [if_neg q] at W1 S1 ⊢
      obtain ⟨sn, hsn, es⟩ := (chF_in (Ev C nl T V) z.1 e n n 0 (-1) 0 (by omega) (.inl rfl)).resolve_left (by rw [hch]; exact q)
      rw [hch] at es
      subst es
      rw [ix_nI (show sn < 2 ^ 31 by omega)] at W1 S1 ⊢
      obtain ⟨m4, c1, c2, c3⟩ := e_eatAt h2 hp hM2 hW hsn (show e < c by omega)
      have h4 := Fr_Sh c3 h2
      obtain ⟨m3, b1, b2, b3, b4, b5⟩ := ih N (e + 1) (eatG z.1 sn e, z.2.1 + bite (z.1 (7 + 2 * sn) 3) (z.1 (31 + 2 * e) 3), fun x => if x = e then nI sn else z.2.2 x) m4 h4 (lawAt_Fr hA2 c3 (fun q x hq => by unfold inM; omega)) c2 W1 (sta_trans hS S1) (KC_Fr K2 c3 (fun x => by unfold inM; omega)) (fun x hx => (Fr_at c3 (by unfold inM; omega)).trans (tt x hx)) (by omega) (by omega)
      have F4 : Fr (dyC p w) m m4 := Fr_trans F2 (Fr_mono c3 (fun q x hq => by unfold inM at hq; exact .inr ⟨by omega, by omega⟩))
      refine ⟨m3, fun o => ?_, b2, b3, b4, Fr_trans F4 b5⟩
      show f_X5_passDay_4b (f_X5_passDay_4 N) p w z.2.1 (nI e) m o = _
      obtain ⟨s2, -⟩ := md_top h2 hp
      simp (config := {decide := true}) only [f_X5_passDay_4b, f_X5_passDay_18, f_X5_passDay_28, f_X5_passDay_42, f_X5_passDay_44, bnd, h7, hle, t1, w0, a1, x3, x4, x5, s1, s2, n4, hin, ix_nI (show e < 2 ^ 31 by omega), q, c1, nI_1, ne_eq, not_false_eq_true, and_self, and_true, true_and, and_false, false_and, true_or, or_true, false_or, or_false, not_true_eq_false, if_false, if_true]
      exact b1 o
theorem l_pass2 {C : Nat → Nat → Int32} {nl : Nat} {T : Nat → (Nat → Int32) → Option Bool} {V : Nat → (Nat → Int32) → Option Int32} (hL : LwF C nl T V) {p w : Nat} (hp : isMd p) {n c : Nat} (v : Int32) : ∀ (k N s : Nat) (z : (Nat → Nat → Int32) × Int32) (m : Mm), Sh m → lawAt m w C nl → Md m p z.1 → WfA z.1 n c → s + k = n → k < N → ∃ m', (∀ o, f_X5_passDay_52 N p w v (nI s) m o = (v, m', o)) ∧ Md m' p (up (dS (Gv C nl T V) z s k).1 0 10 ((dS (Gv C nl T V) z s k).1 0 10 + 1)) ∧ Fr (fun q x => lwP w q x ∨ inM p q) m m' := by
  have hpp : p + 63 ≤ 191 := by rcases hp with rfl | rfl | rfl <;> omega
  intro k
  induction k with
  | zero =>
    intro N s z m h hA hM hW hs hN
    obtain ⟨N, rfl⟩ : ∃ N1, N = N1 + 1 := ⟨N - 1, by omega⟩
    have hn := hW.1.1.1
    obtain ⟨t1, -⟩ := md_top h hp
    have h6 : gI m p 6 = nI n := (hM 0 6 (by omega) (by omega)).trans hW.1.2.1
    have h10 : gI m p 10 = z.1 0 10 := hM 0 10 (by omega) (by omega)
    have hle : nI n ≤ nI s := nI_le (by omega) (by omega)
    refine ⟨sI m p 10 (z.1 0 10 + 1), fun o => ?_, Md_up' hM 10 _ rfl, Fr_sI (Fr_refl _ m) (.inr (by unfold inM; omega)) _⟩
    show f_X5_passDay_52b (f_X5_passDay_52 N) p w v (nI s) m o = _
    simp (config := {decide := true}) only [f_X5_passDay_52b, f_X5_passDay_94, h6, hle, h10, t1, ne_eq, not_false_eq_true, and_self, and_true, true_and, and_false, false_and, true_or, or_true, false_or, or_false, not_true_eq_false, if_false, if_true]
  | succ k ih =>
    intro N s z m h hA hM hW hs hN
    obtain ⟨N, rfl⟩ : ∃ N1, N = N1 + 1 := ⟨N - 1, by omega⟩
    have hn := hW.1.1.1
    obtain ⟨t1, t2, t3, t4, -⟩ := md_top h hp
    obtain ⟨u1, u2, -⟩ := md_stk h hp (show s < 12 by omega)
    obtain ⟨w0, -⟩ := w_sh h hA.1
    have hwp : 205 ≤ w := by rcases hA.1 with rfl | rfl <;> omega
    have h6 : gI m p 6 = nI n := (hM 0 6 (by omega) (by omega)).trans hW.1.2.1
    have g7 : gI m (p + 7 + 2 * s) 7 = z.1 (7 + 2 * s) 7 := Md_at hM (by omega) (by omega) (by omega)
    have hle : ¬ nI n ≤ nI s := nI_ge (by omega) (by omega)
    have n1 : ¬ p + 1 = 0 := by omega
    have n4 : ¬ p + 7 + 2 * s = 0 := by omega
    have hin : vp_in (nI s) 12 := vp_in_nI (by omega) (by omega)
    rw [dS]
    unfold dS1
    by_cases q : z.1 (7 + 2 * s) 7 = 0
    · rw [if_pos q]
      obtain ⟨m2, b1, b2, b3⟩ := ih N (s + 1) z m h hA hM hW (by omega) (by omega)
      refine ⟨m2, fun o => ?_, b2, b3⟩
      show f_X5_passDay_52b (f_X5_passDay_52 N) p w v (nI s) m o = _
      simp (config := {decide := true}) only [f_X5_passDay_52b, f_X5_passDay_78, h6, hle, t1, t2, t3, t4, u1, u2, g7, q, n1, n4, hin, ix_nI (show s < 2 ^ 31 by omega), nI_1, ne_eq, not_false_eq_true, and_self, and_true, true_and, and_false, false_and, true_or, or_true, false_or, or_false, not_true_eq_false, if_false, if_true]
      exact b1 o
    · rw [if_neg q]
      obtain ⟨m1, a1, a2, a3⟩ := e_heatUp hL h hA hp (show s < 12 by omega) hM
      have h1 := Fr_Sh a3 h
      have hA1 : lawAt m1 w C nl := lawAt_Fr hA a3 (fun q x hq => by unfold lwP inM; omega)
      obtain ⟨m2, b1, b2, b3⟩ := ih N (s + 1) (heatG (Gv C nl T V) z.1 s, if 500 ≤ z.1 (7 + 2 * s) 6 + Gv C nl T V (letG z.1 s) then z.2 + 1 else z.2) m1 h1 hA1 a2 (WfA_heat (Gv_nI C nl T V) hW (by omega) q).1 (by omega) (by omega)
      refine ⟨m2, fun o => ?_, b2, Fr_trans a3 b3⟩
      show f_X5_passDay_52b (f_X5_passDay_52 N) p w v (nI s) m o = _
      simp (config := {decide := true}) only [f_X5_passDay_52b, f_X5_passDay_78, bnd, h6, hle, t1, t2, t3, t4, u1, u2, w0, g7, q, n1, n4, hin, ix_nI (show s < 2 ^ 31 by omega), a1, nI_1, ne_eq, not_false_eq_true, and_self, and_true, true_and, and_false, false_and, true_or, or_true, false_or, or_false, not_true_eq_false, if_false, if_true]
      exact b1 o
/-- a day of the class on a meadow -/
theorem e_passDay {C : Nat → Nat → Int32} {nl : Nat} {T : Nat → (Nat → Int32) → Option Bool} {V : Nat → (Nat → Int32) → Option Int32} (hL : LwF C nl T V) (hmk : ∀ j, j < 10 → C 8 j = 0 ∨ C 8 j = -1) (hdE : dep (C 8) (Ev C nl T V)) {p w : Nat} (hp : isMd p) {a0 a : Nat → Nat → Int32} {n c : Nat} {m : Mm} (h : Sh m) (hA : lawAt m w C nl) (hM : Md m p a) (hW : WfA a n c) (hS : sta a0 a n c) (hK : KC (Ev C nl T V) (C 8) m p a0 n c) : ∃ m', (∀ o, F_X5_passDay p w m o = (dayH (Ev C nl T V) n c a, m', o)) ∧ Md m' p (dayA (Ev C nl T V) (Gv C nl T V) n c a) ∧ KC (Ev C nl T V) (C 8) m' p a0 n c ∧ (∀ x, x < c → gI m' (p + 4) x = dayT (Ev C nl T V) n c a x) ∧ Fr (dyC p w) m m' := by
  have hn := hW.1.1.1
  have hc := hW.1.1.2
  have hpp : p + 63 ≤ 191 := by rcases hp with rfl | rfl | rfl <;> omega
  have hwp : 205 ≤ w := by rcases hA.1 with rfl | rfl <;> omega
  obtain ⟨m1, a1, a2, a3, a4, a5⟩ := l_pass1 hL hmk hdE hp _ (fun _ _ _ => rfl) c 1000 0 (a, 0, d0) m h hA hM hW hS hK (fun x hx => by omega) (by omega) (by omega)
  have h1 := Fr_Sh a5 h
  have hA1 : lawAt m1 w C nl := lawAt_Fr hA a5 (fun q x hq => by unfold dyC lwP; omega)
  obtain ⟨m2, b1, b2, b3⟩ := l_pass2 hL hp (dayH (Ev C nl T V) n c a) n 1000 0 ((dC (Ev C nl T V) n (a, 0, d0) 0 c).1, 0) m1 h1 hA1 a2 (WfA_dC _ c 0 (a, 0, d0) hW (by omega)).1 (by omega) (by omega)
  rw [nI_0] at a1 b1
  refine ⟨m2, fun o => ?_, b2, KC_Fr a3 b3 (fun x => by unfold lwP inM; omega), fun x hx => (Fr_at b3 (by unfold lwP inM; omega)).trans (a4 x hx), Fr_trans a5 (Fr_mono b3 (fun q x hq => by unfold dyC; rcases hq with hq | hq; exact .inl hq; unfold inM at hq; exact .inr ⟨by omega, by omega⟩))⟩
  show f_X5_passDay_4 1000 p w 0 0 m o = _
  rw [a1 o]
  exact b1 o
/-! the other side -/
def dyM (q i : Nat) : Prop := lmP q i ∨ q = 256 ∨ (227 ≤ q ∧ q ≤ 240) ∨ (q = 225 ∧ (i = 4 ∨ i = 50 ∨ i = 51))
theorem le_bite (h u : Int32) : (if h ≤ u then h else u) = bite h u := by
  unfold bite
  by_cases q : h < u
  · rw [if_pos q, if_pos (fa_of_lt q).1]
  · rw [if_neg q]
    by_cases q2 : h ≤ u
    · rw [if_pos q2]; exact Int32.le_antisymm q2 (fa_of_nlt q)
    · rw [if_neg q2]
theorem l_dayM1 {C D : Nat → Nat → Int32} {nl : Nat} {T : Nat → (Nat → Int32) → Option Bool} {V : Nat → (Nat → Int32) → Option Int32} (hL : LwM (C 3) D nl T V) {n c : Nat} {d : Nat → Int32} (r : Mm → Prop → Unit × Mm × Prop) (hr : ∀ m o, f_X12_dayOne_137 1000 225 0 m o = r m o) : ∀ (k N e : Nat) (z : (Nat → Nat → Int32) × Int32 × (Nat → Int32)) (m : Mm), Sh m → lawM m D nl → MM m z.1 n c d → WfA z.1 n c → gI m 225 51 = z.2.1 → (∀ x, x < e → gI m 256 x = z.2.2 x) → e + k = c → k < N → ∃ m', (∀ o, f_X12_dayOne_2 N 225 (nI e) m o = r m' o) ∧ MM m' (dC (Ev C nl T V) n z e k).1 n c d ∧ gI m' 225 51 = (dC (Ev C nl T V) n z e k).2.1 ∧ (∀ x, x < c → gI m' 256 x = (dC (Ev C nl T V) n z e k).2.2 x) ∧ gI m' 225 50 = gI m 225 50 ∧ Fr dyM m m' := by
  intro k
  induction k with
  | zero =>
    intro N e z m h hA hE hW h51 ht he hN
    obtain ⟨N, rfl⟩ : ∃ N1, N = N1 + 1 := ⟨N - 1, by omega⟩
    have hc := hW.1.1.2
    have h3 : gI m 225 3 = nI c := hE.2.2.1.trans hW.1.2.2.1
    have hle : nI c ≤ nI e := nI_le (by omega) (by omega)
    refine ⟨m, fun o => ?_, hE, h51, fun x hx => ht x (by omega), rfl, Fr_refl _ m⟩
    show f_X12_dayOne_2b (f_X12_dayOne_2 N) 225 (nI e) m o = _
    simp (config := {decide := true}) only [f_X12_dayOne_2b, h3, hle, shT_225 h, hr, ne_eq, not_false_eq_true, and_self, and_true, true_and, and_false, false_and, true_or, or_true, false_or, or_false, not_true_eq_false, if_false, if_true]
  | succ k ih =>
    intro N e z m h hA hE hW h51 ht he hN
    obtain ⟨N, rfl⟩ : ∃ N1, N = N1 + 1 := ⟨N - 1, by omega⟩
    have hn := hW.1.1.1
    have hc := hW.1.1.2
    have h3 : gI m 225 3 = nI c := hE.2.2.1.trans hW.1.2.2.1
    have hle : ¬ nI c ≤ nI e := nI_ge (by omega) (by omega)
    obtain ⟨m1, a1, a2⟩ := l_choice hL hW (show e < c by omega) n 1000 0 (-1) 0 m h hA hE (by omega) (by omega)
    rw [nI_0] at a1
    have a1 : ∀ o, F_X12_choice 225 (nI e) m o = (chF (Ev C nl T V) z.1 e (-1) 0 0 n, m1, o) := a1
    have h1 := Fr_Sh a2 h
    have hin : vp_in (nI e) 16 := vp_in_nI (by omega) (by omega)
    generalize hch : chF (Ev C nl T V) z.1 e (-1) 0 0 n = s at a1
    have F2 : Fr (fun q x => lmP q x ∨ q = 256) m (sI m1 256 e s) := Fr_sI (Fr_mono a2 (fun q x hq => .inl hq)) (.inr rfl) s
    have h2 := Fr_Sh F2 h
    have hA2 := lawM_Fr hA F2 (fun q x hq => by unfold lmP; omega)
    have hE2 : MM (sI m1 256 e s) z.1 n c d := MM_frame hE (fun q x hq => Fr_at F2 (by unfold lmP; omega))
    have tt : ∀ x, x < e + 1 → gI (sI m1 256 e s) 256 x = if x = e then s else z.2.2 x := fun x hx => by
      rw [gI_sI]
      by_cases q : x = e
      · rw [if_pos ⟨rfl, q⟩, if_pos q]
      · rw [if_neg (fun y => q y.2), if_neg q, Fr_at a2 (by unfold lmP; omega)]
        exact ht x (by omega)
    have h51' : gI (sI m1 256 e s) 225 51 = z.2.1 := (Fr_at F2 (by unfold lmP; omega)).trans h51
    have h50' : gI (sI m1 256 e s) 225 50 = gI m 225 50 := Fr_at F2 (by unfold lmP; omega)
    obtain ⟨W1, S1⟩ := WfA_dC1 (Ev C nl T V) hW (show e < c by omega)
    rw [dC]
    unfold dC1 at W1 ⊢
    rw [hch] at W1 ⊢
    have FD : Fr dyM m (sI m1 256 e s) := Fr_mono F2 (fun q x hq => by unfold dyM; rcases hq with hq | hq; exact .inl hq; exact .inr (.inl hq))
    by_cases q : s = -1
    · subst q
      rw [if_pos rfl] at W1 ⊢
      obtain ⟨m3, b1, b2, b3, b4, b5, b6⟩ := ih N (e + 1) (z.1, z.2.1, fun x => if x = e then -1 else z.2.2 x) (sI m1 256 e (-1)) h2 hA2 hE2 hW h51' tt (by omega) (by omega)
      refine ⟨m3, fun o => ?_, b2, b3, b4, b5.trans h50', Fr_trans FD b6⟩
      show f_X12_dayOne_2b (f_X12_dayOne_2 N) 225 (nI e) m o = _
      simp (config := {decide := true}) only [f_X12_dayOne_2b, f_X12_dayOne_15, f_X12_dayOne_23, f_X12_dayOne_129, bnd, h3, hle, shT_225 h, shT_225 h1, shR_225_49 h1, shT_256 h1, shN_256 h1, a1, hin, ix_nI (show e < 2 ^ 31 by omega), nI_1, ne_eq, not_false_eq_true, and_self, and_true, true_and, and_false, false_and, true_or, or_true, false_or, or_false, not_true_eq_false, if_false, if_true]
      exact b1 o
    · rw [if_neg q] at W1 ⊢
      obtain ⟨sn, hsn, es⟩ := (chF_in (Ev C nl T V) z.1 e n n 0 (-1) 0 (by omega) (.inl rfl)).resolve_left (by rw [hch]; exact q)
      rw [hch] at es
      subst es
      rw [ix_nI (show sn < 2 ^ 31 by omega)] at W1 ⊢
      obtain ⟨-, -, ⟨kc, hkc, ek⟩, -⟩ := hW.2.1 sn hsn
      obtain ⟨-, y1, y2, -⟩ := MM_at hE2 hsn
      obtain ⟨-, c1, c2, -⟩ := MM_C hE2 (show e < c by omega)
      have yE : gI (sI m1 256 e (nI sn)) 240 (16 * sn + e) = z.1 (8 + 2 * sn) e := by
        have := hE2.1.2.2.2 sn hsn e (by omega)
        rw [Nat.mul_zero, Nat.zero_add] at this
        exact this
      have hin1 : vp_in (nI sn) 12 := vp_in_nI (by omega) (by omega)
      have hin3 : vp_in (nI kc) 5 := vp_in_nI (by omega) (by omega)
      have hin4 : vp_in (nI (16 * sn + e)) 192 := vp_in_nI (by omega) (by omega)
      have g1 := MM_S hE2 hsn hn (f := 2) ⟨by omega, by omega⟩ (z.1 (7 + 2 * sn) 3 - bite (z.1 (7 + 2 * sn) 3) (z.1 (31 + 2 * e) 3))
      have g2 : MM (sI (sI (sI m1 256 e (nI sn)) 229 sn (z.1 (7 + 2 * sn) 3 - bite (z.1 (7 + 2 * sn) 3) (z.1 (31 + 2 * e) 3))) 225 51 (z.2.1 + bite (z.1 (7 + 2 * sn) 3) (z.1 (31 + 2 * e) 3))) (up z.1 (7 + 2 * sn) 3 (z.1 (7 + 2 * sn) 3 - bite (z.1 (7 + 2 * sn) 3) (z.1 (31 + 2 * e) 3))) n c d := MM_frame g1 (fun q x hq => by rw [gI_sI, if_neg (by omega)])
      have g3 := MM_E g2 hsn hn (show e < c by omega) hc (z.1 (8 + 2 * sn) e + bite (z.1 (7 + 2 * sn) 3) (z.1 (31 + 2 * e) 3))
      have g4 := MM_K g3 (k := kc) (by omega) (z.1 (31 + 2 * e) 2)
      have g5 := MM_V g4 (show e < c by omega) hn hc (z.1 (7 + 2 * sn) 2)
      have eG : up (up (up (up z.1 (7 + 2 * sn) 3 (z.1 (7 + 2 * sn) 3 - bite (z.1 (7 + 2 * sn) 3) (z.1 (31 + 2 * e) 3))) (8 + 2 * sn) e (z.1 (8 + 2 * sn) e + bite (z.1 (7 + 2 * sn) 3) (z.1 (31 + 2 * e) 3))) 3 kc ((up (up z.1 (7 + 2 * sn) 3 (z.1 (7 + 2 * sn) 3 - bite (z.1 (7 + 2 * sn) 3) (z.1 (31 + 2 * e) 3))) (8 + 2 * sn) e (z.1 (8 + 2 * sn) e + bite (z.1 (7 + 2 * sn) 3) (z.1 (31 + 2 * e) 3))) 3 kc + z.1 (31 + 2 * e) 2)) (31 + 2 * e) 4 (z.1 (7 + 2 * sn) 2) = eatG z.1 sn e := by
        unfold eatG
        rw [ek, ix_nI (by omega), up_ne (x := 3) _ _ (by omega), up_ne (x := 3) _ _ (by omega)]
      rw [eG] at g5
      generalize hm5 : sI (sI (sI (sI (sI (sI m1 256 e (nI sn)) 229 sn (z.1 (7 + 2 * sn) 3 - bite (z.1 (7 + 2 * sn) 3) (z.1 (31 + 2 * e) 3))) 225 51 (z.2.1 + bite (z.1 (7 + 2 * sn) 3) (z.1 (31 + 2 * e) 3))) 240 (16 * sn + e) (z.1 (8 + 2 * sn) e + bite (z.1 (7 + 2 * sn) 3) (z.1 (31 + 2 * e) 3))) 239 kc (gI (sI (sI (sI (sI m1 256 e (nI sn)) 229 sn (z.1 (7 + 2 * sn) 3 - bite (z.1 (7 + 2 * sn) 3) (z.1 (31 + 2 * e) 3))) 225 51 (z.2.1 + bite (z.1 (7 + 2 * sn) 3) (z.1 (31 + 2 * e) 3))) 240 (16 * sn + e) (z.1 (8 + 2 * sn) e + bite (z.1 (7 + 2 * sn) 3) (z.1 (31 + 2 * e) 3))) 239 kc + z.1 (31 + 2 * e) 2)) 237 e (z.1 (7 + 2 * sn) 2) = m5
      have g5 : MM m5 (eatG z.1 sn e) n c d := hm5 ▸ g5
      have F5 : Fr (fun q x => (227 ≤ q ∧ q ≤ 240) ∨ (q = 225 ∧ x = 51)) (sI m1 256 e (nI sn)) m5 := by
        rw [← hm5]
        refine Fr_sI (Fr_sI (Fr_sI (Fr_sI (Fr_sI (Fr_refl _ _) ?_ _) ?_ _) ?_ _) ?_ _) ?_ _ <;> omega
      have h5 := Fr_Sh F5 h2
      have e51 : gI m5 225 51 = z.2.1 + bite (z.1 (7 + 2 * sn) 3) (z.1 (31 + 2 * e) 3) := by
        rw [← hm5]
        simp [gI_sI]
      obtain ⟨m3, b1, b2, b3, b4, b5, b6⟩ := ih N (e + 1) (eatG z.1 sn e, z.2.1 + bite (z.1 (7 + 2 * sn) 3) (z.1 (31 + 2 * e) 3), fun x => if x = e then nI sn else z.2.2 x) m5 h5 (lawM_Fr hA2 F5 (fun q x hq => by omega)) g5 W1 e51 (fun x hx => (Fr_at F5 (by omega)).trans (tt x hx)) (by omega) (by omega)
      have F6 : Fr dyM m m5 := Fr_trans FD (Fr_mono F5 (fun q x hq => by unfold dyM; rcases hq with hq | hq; exact .inr (.inr (.inl hq)); exact .inr (.inr (.inr ⟨hq.1, .inr (.inr hq.2)⟩))))
      refine ⟨m3, fun o => ?_, b2, b3, b4, b5.trans ((Fr_at F5 (by omega)).trans h50'), Fr_trans F6 b6⟩
      show f_X12_dayOne_2b (f_X12_dayOne_2 N) 225 (nI e) m o = _
      have step : ∀ (bt : Int32) (K : Nat → Int32 → Mm → Prop → Unit × Mm × Prop) o, bt = bite (z.1 (7 + 2 * sn) 3) (z.1 (31 + 2 * e) 3) → f_X12_dayOne_61 K 225 (nI e) (nI sn) bt (sI m1 256 e (nI sn)) o = K 225 (nI (e + 1)) m5 o := fun bt K o hbt => by
        rw [hbt, ← hm5]
        simp (config := {decide := true}) only [f_X12_dayOne_61, f_X12_dayOne_72, f_X12_dayOne_82, f_X12_dayOne_97, f_X12_dayOne_117, f_X12_dayOne_129, shT_225 h2, shR_225_9 h2, shR_225_10 h2, shR_225_16 h2, shR_225_18 h2, shR_225_20 h2, shR_225_21 h2, shT_228 h2, shN_228 h2, shT_229 h2, shN_229 h2, shT_235 h2, shN_235 h2, shT_237 h2, shN_237 h2, shT_239 h2, shN_239 h2, shT_240 h2, shN_240 h2, hin, hin1, hin3, hin4, ix_nI (show e < 2 ^ 31 by omega), ix_nI (show sn < 2 ^ 31 by omega), ix_nI (show kc < 2 ^ 31 by omega), (show (16 : Int32) * nI (sn) = nI (16 * sn) by rw [show (16 : Int32) = nI 16 from rfl, pk_mul]), nI_add, ix_nI (show 16 * sn + e < 2 ^ 31 by omega), y1, y2, c1, yE, h51', ek, gI_sI (sI m1 256 e (nI sn)), gI_sI (sI (sI m1 256 e (nI sn)) 229 sn (z.1 (7 + 2 * sn) 3 - bite (z.1 (7 + 2 * sn) 3) (z.1 (31 + 2 * e) 3))), gI_sI (sI (sI (sI m1 256 e (nI sn)) 229 sn (z.1 (7 + 2 * sn) 3 - bite (z.1 (7 + 2 * sn) 3) (z.1 (31 + 2 * e) 3))) 225 51 (z.2.1 + bite (z.1 (7 + 2 * sn) 3) (z.1 (31 + 2 * e) 3))), gI_sI (sI (sI (sI (sI m1 256 e (nI sn)) 229 sn (z.1 (7 + 2 * sn) 3 - bite (z.1 (7 + 2 * sn) 3) (z.1 (31 + 2 * e) 3))) 225 51 (z.2.1 + bite (z.1 (7 + 2 * sn) 3) (z.1 (31 + 2 * e) 3))) 240 (16 * sn + e) (z.1 (8 + 2 * sn) e + bite (z.1 (7 + 2 * sn) 3) (z.1 (31 + 2 * e) 3))), gT_sI, gN_sI, gR_sI, nI_1, ne_eq, not_false_eq_true, and_self, and_true, true_and, and_false, false_and, true_or, or_true, false_or, or_false, not_true_eq_false, if_false, if_true]
      simp (config := {decide := true}) only [f_X12_dayOne_2b, f_X12_dayOne_15, f_X12_dayOne_23, bnd, h3, hle, shT_225 h, shT_225 h1, shR_225_49 h1, shT_256 h1, shN_256 h1, shT_225 h2, shR_225_10 h2, shR_225_17 h2, shT_229 h2, shN_229 h2, shT_236 h2, shN_236 h2, a1, hin, hin1, ix_nI (show e < 2 ^ 31 by omega), ix_nI (show sn < 2 ^ 31 by omega), q, y2, c2, ne_eq, not_false_eq_true, and_self, and_true, true_and, and_false, false_and, true_or, or_true, false_or, or_false, not_true_eq_false, if_false, if_true]
      by_cases zz : z.1 (7 + 2 * sn) 3 ≤ z.1 (31 + 2 * e) 3
      · rw [if_pos zz, step _ _ _ (by rw [← le_bite, if_pos zz])]; exact b1 o
      · rw [if_neg zz, step _ _ _ (by rw [← le_bite, if_neg zz])]; exact b1 o
