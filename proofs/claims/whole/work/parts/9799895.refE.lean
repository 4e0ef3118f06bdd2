/-! ===== the other side reads a value ===== -/
theorem s_stop {m : Mm} {n : Nat} {s : Nat → Nat} {a c h k : Nat} (hR : RS m n s a c h k) {pl t : Nat} (hpl : pl = 0 ∨ pl = 1) (ht : t < 256) (tp : tpv m h = nI t) (h1 : ¬ isTm t) (h2 : pl = 1 → ¬ isPl t) (N : Nat) (o : Prop) : f_X12_sums_0 (N + 1) 225 (nI pl) m o = ((), m, o) := by
  obtain ⟨hB, h35, h37, h39, h40, h41, b1, b2, b3⟩ := id hR
  have hS := hB.1
  have hn := hB.2.2.1
  show f_X12_sums_0b (f_X12_sums_0 N) 225 (nI pl) m o = _
  unfold f_X12_sums_0b
  rw [e_topR hS (by omega) h41, bnd_mk, tp]
  unfold f_X12_sums_4
  rw [(e_isTimes ht m _).2 h1, bnd_mk]
  unfold f_X12_sums_7
  rw [if_pos rfl]
  rcases hpl with rfl | rfl
  · rw [if_pos (show nI 0 = 0 from rfl)]
    unfold f_X12_sums_46
    simp (config := {decide := true}) only [shT_225 hS, ne_eq, not_false_eq_true, and_self, and_true, true_and, and_false, false_and, true_or, or_true, false_or, or_false, not_true_eq_false, if_false, if_true]
  · rw [if_neg (by decide), e_topR hS (by omega) h41, bnd_mk, tp]
    unfold f_X12_sums_18
    rw [(e_isPlus ht m _).2 (h2 rfl), bnd_mk]
    unfold f_X12_sums_21 f_X12_sums_46
    rw [if_pos rfl]
    simp (config := {decide := true}) only [shT_225 hS, ne_eq, not_false_eq_true, and_self, and_true, true_and, and_false, false_and, true_or, or_true, false_or, or_false, not_true_eq_false, if_false, if_true]
theorem s_pop {m : Mm} {n : Nat} {s : Nat → Nat} {a c h k : Nat} (hR : RS m n s a c (h + 1) k) {pl op : Nat} (hpl : pl = 0 ∨ pl = 1) (ho : op < 256) (hop : isTm op ∨ (pl = 1 ∧ isPl op)) (tp : gI m 253 h = nI op) (hc : c < a) : ∃ m', (∀ N o, f_X12_sums_0 (N + 1) 225 (nI pl) m o = f_X12_sums_0 N 225 (nI pl) m' o) ∧ RS m' n s a (c + 1) h k ∧ Fr (fun q i => (q = 225 ∧ (i = 39 ∨ i = 41)) ∨ ((q = 251 ∨ q = 252) ∧ i = c)) m m' ∧ rwD m' 4 c = nI op := by
  obtain ⟨hB, h35, h37, h39, h40, h41, b1, b2, b3⟩ := id hR
  have hS := hB.1
  have hn := hB.2.2.1
  obtain ⟨m1, e1, e2, e3, e4, e5⟩ := e_emit hS h37 (show c < 200 by omega) h39 (nI op) 0
  have S1 := Fr_Sh e2 hS
  have g41 : gI m1 225 41 = nI (h + 1) := by rw [Fr_at e2 (by omega)]; exact h41
  have F1 : Fr (fun q i => (q = 225 ∧ (i = 39 ∨ i = 41)) ∨ ((q = 251 ∨ q = 252) ∧ i = c)) m (sI m1 225 41 (nI h)) := Fr_sI (Fr_mono e2 (fun q i y => by omega)) (by omega) _
  have tp' : tpv m (h + 1) = nI op := by
    unfold tpv
    rw [if_neg (by omega), Nat.add_sub_cancel]
    exact tp
  refine ⟨sI m1 225 41 (nI h), fun N o => ?_, ⟨RB_Fr hB (Fr_mono F1 (fun q i y => by unfold rfA; omega)), ?_, ?_, ?_, ?_, by rw [gI_sI, if_pos ⟨rfl, rfl⟩], b1, by omega, by omega⟩, F1, ?_⟩
  · have e24 : ∀ o, f_X12_sums_24 (f_X12_sums_0 N) 225 (nI pl) m o = f_X12_sums_0 N 225 (nI pl) (sI m1 225 41 (nI h)) o := fun o => by
      unfold f_X12_sums_24
      rw [e_topR hS (by omega) h41, bnd_mk, tp']
      unfold f_X12_sums_29
      rw [e1, bnd_mk]
      unfold f_X12_sums_33 f_X12_sums_43
      rw [g41, nI_sub1 (by omega), Nat.add_sub_cancel]
      simp (config := {decide := true}) only [shT_225 hS, shT_225 S1, ne_eq, not_false_eq_true, and_self, and_true, true_and, and_false, false_and, true_or, or_true, false_or, or_false, not_true_eq_false, if_false, if_true]
    show f_X12_sums_0b (f_X12_sums_0 N) 225 (nI pl) m o = _
    unfold f_X12_sums_0b
    rw [e_topR hS (by omega) h41, bnd_mk, tp']
    unfold f_X12_sums_4
    by_cases q : isTm op
    · rw [(e_isTimes ho m _).1 q, bnd_mk]
      unfold f_X12_sums_7
      rw [if_neg (by decide), e24]
      simp (config := {decide := true}) only [shT_225 hS, ne_eq, not_false_eq_true, and_self, and_true, true_and, and_false, false_and, true_or, or_true, false_or, or_false, not_true_eq_false, if_false, if_true]
    · obtain ⟨rfl, hp⟩ : pl = 1 ∧ isPl op := by
        rcases hop with y | y
        · exact absurd y q
        · exact y
      rw [(e_isTimes ho m _).2 q, bnd_mk]
      unfold f_X12_sums_7
      rw [if_pos rfl, if_neg (by decide), e_topR hS (by omega) h41, bnd_mk, tp']
      unfold f_X12_sums_18
      rw [(e_isPlus ho m _).1 hp, bnd_mk]
      unfold f_X12_sums_21
      rw [if_neg (by decide), e24]
      simp (config := {decide := true}) only [shT_225 hS, ne_eq, not_false_eq_true, and_self, and_true, true_and, and_false, false_and, true_or, or_true, false_or, or_false, not_true_eq_false, if_false, if_true]
  · rw [gI_sI, if_neg (by omega), Fr_at e2 (by omega)]; exact h35
  · rw [gI_sI, if_neg (by omega), Fr_at e2 (by omega)]; exact h37
  · rw [gI_sI, if_neg (by omega)]; exact e3
  · rw [gI_sI, if_neg (by omega), Fr_at e2 (by omega)]; exact h40
  · show gI (sI m1 225 41 (nI h)) 251 c = nI op
    rw [gI_sI, if_neg (by omega)]
    exact e4
def PnR (D : Nat → Nat → Int32) (i j : Nat) (M : Option (Nat × VE)) : Prop := match M with
  | none => i = j
  | some q => RE D i j q.2 ∧ isBin q.1
theorem PnR_congr {D D' : Nat → Nat → Int32} {i j : Nat} {M : Option (Nat × VE)} (h : PnR D i j M) (hC : ∀ x, i ≤ x → x < j → D' 4 x = D 4 x ∧ D' 5 x = D 5 x) : PnR D' i j M := by
  cases M with
  | none => exact h
  | some q => exact ⟨RE_congr h.1 hC, h.2⟩
theorem PnR_le {D : Nat → Nat → Int32} {i j : Nat} {M : Option (Nat × VE)} (h : PnR D i j M) : i ≤ j := by
  cases M with
  | none => exact Nat.le_of_eq h
  | some q => exact Nat.le_of_lt h.1.1
theorem pn_le (M : Option (Nat × VE)) : pn M ≤ 1 := by
  cases M with
  | none => exact Nat.zero_le _
  | some q => exact Nat.le_refl _
theorem s_pend {m : Mm} {n : Nat} {s : Nat → Nat} {a cm c0 c h k pl : Nat} (hpl : pl = 0 ∨ pl = 1) {M : Option (Nat × VE)} {V : VE} (hR : RS m n s a c (h + pn M) k) (hM : PnR (rwD m) cm c0 M) (hok : ∀ q, M = some q → (isTm q.1 ∨ (pl = 1 ∧ isPl q.1)) ∧ gI m 253 h = nI q.1) (hV : RE (rwD m) c0 c V) (hc : c + pn M ≤ a) : ∃ m1, (∀ N o, f_X12_sums_0 (N + pn M) 225 (nI pl) m o = f_X12_sums_0 N 225 (nI pl) m1 o) ∧ RS m1 n s a (c + pn M) h k ∧ Fr (fun q i => (q = 225 ∧ (i = 39 ∨ i = 41)) ∨ ((q = 251 ∨ q = 252) ∧ i = c)) m m1 ∧ RE (rwD m1) cm (c + pn M) (jV M V) := by
  cases M with
  | none =>
    have hM : cm = c0 := hM
    subst hM
    exact ⟨m, fun N o => rfl, hR, Fr_refl _ _, hV⟩
  | some q =>
    obtain ⟨hL, hop⟩ : RE (rwD m) cm c0 q.2 ∧ isBin q.1 := hM
    obtain ⟨o1, o2⟩ := hok q rfl
    have hne := isBin_ne hop
    have hc : c + 1 ≤ a := hc
    obtain ⟨m1, p1, p2, p3, p4⟩ := s_pop hR hpl (by omega) o1 o2 (by omega)
    have rows : ∀ x, x < c → rwD m1 4 x = rwD m 4 x ∧ rwD m1 5 x = rwD m 5 x := fun x hx => by
      constructor
      · show gI m1 251 x = gI m 251 x
        exact Fr_at p3 (by omega)
      · show gI m1 252 x = gI m 252 x
        exact Fr_at p3 (by omega)
    have l1 := hL.1
    have l2 := hV.1
    exact ⟨m1, p1, p2, p3, (RE_op (RE_congr hL (fun x _ b => rows x (by omega))) (RE_congr hV (fun x _ b => rows x b)) (.inl hop) p4).1 hop⟩
/-- the top below is no sign of a value -/
def Bt (m : Mm) (h : Nat) : Prop := ∃ t, t < 256 ∧ ¬ isTm t ∧ ¬ isPl t ∧ tpv m h = nI t
theorem tpv_Fr {m m' : Mm} {P : Nat → Nat → Prop} {h : Nat} (hF : Fr P m m') (hP : ∀ i, i < h → ¬ P 253 i) : tpv m' h = tpv m h := by
  unfold tpv
  by_cases q : h = 0
  · rw [if_pos q, if_pos q]
  · rw [if_neg q, if_neg q]
    exact Fr_at hF (hP _ (by omega))
theorem Bt_Fr {m m' : Mm} {h c : Nat} (hB : Bt m h) (hF : Fr (rfP h c) m m') : Bt m' h := by
  obtain ⟨t, h1, h2, h3, h4⟩ := hB
  exact ⟨t, h1, h2, h3, by rw [tpv_Fr hF (fun i hi => by unfold rfP; omega)]; exact h4⟩
def plF (h0 : Nat) (A M : Option (Nat × VE)) (m : Mm) : Prop := (∀ q, A = some q → isPl q.1 ∧ gI m 253 h0 = nI q.1) ∧ ∀ q, M = some q → isTm q.1 ∧ gI m 253 (h0 + pn A) = nI q.1
theorem l_exprR {n : Nat} {s : Nat → Nat} {kk : Nat} {rcs : Option (Nat → PRs VE)} (hpr : prO n rcs) (hf : ∀ N1 N m a c h, RS m n s a c h kk → n < a + N1 → n + 3 ≤ a + N → SimR (FSt N1 N) (fun _ => BSt) m n s a c h kk (sFc s rcs a)) {m0 : Mm} {c0 a0 h0 : Nat} (hc0 : c0 ≤ a0) : ∀ (k N1 N : Nat) (A M : Option (Nat × VE)) (a c cm : Nat) (m : Mm), n < a + k → n < a + N1 → n + 3 ≤ a + N → RS m n s a c (h0 + pn A + pn M) kk → Bt m h0 → plF h0 A M m → Fr (rfP h0 c0) m0 m → c0 ≤ cm → PnR (rwD m) c0 cm A → PnR (rwD m) cm c M → c + pn A + pn M + a0 ≤ c0 + a →
    (∀ e, sEl s rcs k A M a = .inl e → ∃ m', (∀ o, FSt N1 N m o = ((), m', o)) ∧ RF m0 m' e) ∧ (∀ q, sEl s rcs k A M a = .inr q → ∃ m' N' c', (∀ o, FSt N1 N m o = XSt s q.1 N' m' o) ∧ n + 3 ≤ q.1 + N' ∧ RS m' n s q.1 c' h0 kk ∧ Fr (rfP h0 c0) m0 m' ∧ c0 < c' ∧ c' + a0 ≤ c0 + q.1 ∧ RE (rwD m') c0 c' q.2) := by
  intro k
  induction k with
  | zero =>
    intro N1 N A M a c cm m hk hN1 hN hR
    exact absurd hR.2.2.2.2.2.2.1 (by omega)
  | succ k ih =>
    intro N1 N A M a c cm m hk hN1 hN hR hBt hpl hF hcm hA hM hcnt
    obtain ⟨hB, h35, h37, h39, h40, h41, b1, b2, b3⟩ := id hR
    have hn := hB.2.2.1
    have hz := hB.2.2.2.2
    have pA := pn_le A
    have pM := pn_le M
    have lM := PnR_le hM
    obtain ⟨f1, f2⟩ := hf N1 N m a c _ hR hN1 hN
    unfold sEl
    cases hfa : sFc s rcs a with
    | inl e =>
      obtain ⟨m', a1, a2⟩ := f1 e hfa
      rw [bS_l]
      refine ⟨fun e' y => ?_, fun q y => (by cases y)⟩
      cases y
      exact ⟨m', a1, RF_pre (Fr_mono hF (fun q i y => rfP_A y)) a2⟩
    | inr qq =>
      obtain ⟨p, V⟩ := qq
      obtain ⟨m1, N', c1, a1, a2, a3, a4, a5, a6, a7⟩ := f2 (p, V) hfa
      have a2 : n + 3 ≤ p + N' := a2
      have a3 : RS m1 n s p c1 (h0 + pn A + pn M) kk := a3
      have a6 : c1 + a ≤ c + p := a6
      have a7 : RE (rwD m1) c c1 V := a7
      have hpn : a < p ∧ p ≤ n := sFc_prog hz hpr b1 (p, V) hfa
      obtain ⟨N', rfl⟩ : ∃ N'', N' = N'' + 1 := ⟨N' - 1, by omega⟩
      -- behind: the mark of ] is taken away
      have em : ∃ m2, m2 = sI m1 225 43 0 := ⟨_, rfl⟩
      obtain ⟨m2, em⟩ := em
      have F12 : Fr (fun q i => q = 225 ∧ i = 43) m1 m2 := by rw [em]; exact Fr_sI (P := fun q i => q = 225 ∧ i = 43) (Fr_refl _ m1) ⟨rfl, rfl⟩ _
      have F12P : Fr (rfP (h0 + pn A + pn M) c1) m1 m2 := Fr_mono F12 (fun q i y => by unfold rfP; omega)
      have B2 := RB_Fr a3.1 (Fr_mono F12P (fun q i y => rfP_A y))
      have R2 : RS m2 n s p c1 (h0 + pn A + pn M) kk := ⟨B2, by rw [Fr_at F12 (by omega)]; exact a3.2.1, by rw [Fr_at F12 (by omega)]; exact a3.2.2.1, by rw [Fr_at F12 (by omega)]; exact a3.2.2.2.1, by rw [Fr_at F12 (by omega)]; exact a3.2.2.2.2.1, by rw [Fr_at F12 (by omega)]; exact a3.2.2.2.2.2.1, hpn.2, a3.2.2.2.2.2.2.2.1, a3.2.2.2.2.2.2.2.2⟩
      have S1 := a3.1.1
      have S2 := B2.1
      have g43 : gI m2 225 43 = 0 := by rw [em, gI_sI, if_pos ⟨rfl, rfl⟩]
      have rows2 : ∀ x, rwD m2 4 x = rwD m1 4 x ∧ rwD m2 5 x = rwD m1 5 x := fun x => by
        constructor
        · show gI m2 251 x = gI m1 251 x
          exact Fr_at F12 (by omega)
        · show gI m2 252 x = gI m1 252 x
          exact Fr_at F12 (by omega)
      have rows1 : ∀ x, x < c → rwD m1 4 x = rwD m 4 x ∧ rwD m1 5 x = rwD m 5 x := fun x hx => by
        constructor
        · show gI m1 251 x = gI m 251 x
          exact Fr_at a4 (by unfold rfP; omega)
        · show gI m1 252 x = gI m 252 x
          exact Fr_at a4 (by unfold rfP; omega)
      have pl2 : ∀ i, i < h0 + pn A + pn M → gI m2 253 i = gI m 253 i := fun i hi => by
        rw [Fr_at F12 (by omega)]
        exact Fr_at a4 (by unfold rfP; omega)
      have F02 : Fr (rfP h0 c0) m0 m2 := Fr_trans hF (Fr_trans (Fr_mono a4 (fun q i y => rfP_le y (by omega) (by omega))) (Fr_mono F12P (fun q i y => rfP_le y (by omega) (by omega))))
      have Fm2 : Fr (rfP h0 c0) m m2 := Fr_trans (Fr_mono a4 (fun q i y => rfP_le y (by omega) (by omega))) (Fr_mono F12P (fun q i y => rfP_le y (by omega) (by omega)))
      have hM2 : PnR (rwD m2) cm c M := PnR_congr hM (fun x _ b => ⟨(rows2 x).1.trans (rows1 x b).1, (rows2 x).2.trans (rows1 x b).2⟩)
      have hA2 : PnR (rwD m2) c0 cm A := PnR_congr hA (fun x _ b => ⟨(rows2 x).1.trans (rows1 x (by omega)).1, (rows2 x).2.trans (rows1 x (by omega)).2⟩)
      have hV2 : RE (rwD m2) c c1 V := RE_congr a7 (fun x _ _ => rows2 x)
      have hs2 := RB_256 B2 p
      obtain ⟨tb, tb1, tb2, tb3, tb4⟩ := Bt_Fr hBt Fm2
      have base : ∀ o, FSt N1 N m o = bnd (F_X12_stays 225 m2 o) (fun v1 m1 o1 => f_X12_value_45 (f_X12_value_7 (N' + 1)) 225 v1 m1 o1) := fun o => by
        rw [a1]
        show BSt (N' + 1) m1 o = _
        unfold BSt f_X12_value_29
        rw [← em]
        unfold f_X12_value_34
        rw [e_good S2 R2.2.2.1, bnd_mk]
        unfold f_X12_value_38
        rw [if_neg (by decide)]
        simp (config := {decide := true}) only [shT_225 S1, shT_225 S2, ne_eq, not_false_eq_true, and_self, and_true, true_and, and_false, false_and, true_or, or_true, false_or, or_false, not_true_eq_false, if_false, if_true]
      -- going on with a sign c at p: from the state behind the sums
      have goon : ∀ (m3 : Mm) (c3 h3 : Nat), RS m3 n s p c3 h3 kk → gI m3 225 43 = 0 → p < n → (∀ o, F_X12_stays 225 m2 o = f_X12_stays_27 225 (nI (s p)) m3 o) → ∃ m4, (∀ o, FSt N1 N m o = FSt 1000 N' m4 o) ∧ RS m4 n s (p + 1) c3 (h3 + 1) kk ∧ Fr (rfP h3 c3) m3 m4 ∧ gI m4 253 h3 = nI (s p) := fun m3 c3 h3 R3 g3 hpn' hst => by
        obtain ⟨m4, u1, u2, u3, u4, u5, -⟩ := e_puts R3 hpn' (nI (s p))
        have S4 := u2.1.1
        refine ⟨m4, fun o => ?_, u2, u3, u4⟩
        have eS : ∀ o, F_X12_stays 225 m2 o = (1, m4, o) := fun o => by
          rw [hst]
          unfold f_X12_stays_27
          rw [u1, bnd_mk]
          unfold f_X12_stays_32
          have S3 := R3.1.1
          simp (config := {decide := true}) only [shT_225 S3, ne_eq, not_false_eq_true, and_self, and_true, true_and, and_false, false_and, true_or, or_true, false_or, or_false, not_true_eq_false, if_false, if_true]
        rw [base, eS, bnd_mk]
        unfold f_X12_value_45
        rw [if_neg (by decide)]
        unfold f_X12_value_53
        show f_X12_value_7b (f_X12_value_7 N') 225 1 m4 o = _
        unfold f_X12_value_7b
        rw [if_neg (by decide), e_good S4 u2.2.2.1, bnd_mk]
        unfold f_X12_value_15
        rw [if_neg (by decide), if_pos (by rw [u5]; exact g3)]
        unfold FSt F_X12_factor
        simp (config := {decide := true}) only [shT_225 S4, ne_eq, not_false_eq_true, and_self, and_true, true_and, and_false, false_and, true_or, or_true, false_or, or_false, not_true_eq_false, if_false, if_true]
      rw [bS_r]
      by_cases ct : isTm (s p)
      · rw [iT_pos ct]
        have hpn' : p < n := lt_of_sg hz (by unfold isTm at ct; omega)
        have np : ¬ isPl (s p) := by unfold isTm at ct; unfold isPl; omega
        have hop : isBin (s p) := by unfold isTm at ct; unfold isBin; omega
        -- sums: only the multiplication
        obtain ⟨m3, v1, v2, v3, v4⟩ := s_pend (pl := 0) (.inl rfl) R2 hM2 (fun q y => ⟨.inl (hpl.2 q y).1, by rw [pl2 _ (by rw [y]; show h0 + pn A < h0 + pn A + 1; omega)]; exact (hpl.2 q y).2⟩) hV2 (by omega)
        have stop : ∀ N o, f_X12_sums_0 (N + 1) 225 (nI 0) m3 o = ((), m3, o) := by
          have pl3 : ∀ i, gI m3 253 i = gI m2 253 i := fun i => Fr_at v3 (by omega)
          cases hA' : A with
          | none =>
            rw [hA'] at v2
            have v2 : RS m3 n s p (c1 + pn M) h0 kk := v2
            exact fun N o => s_stop v2 (.inl rfl) tb1 (by rw [tpv_Fr v3 (fun i _ => by omega)]; exact tb4) tb2 (fun y => by omega) N o
          | some q =>
            obtain ⟨qp, qe⟩ := hpl.1 q hA'
            rw [hA'] at v2
            have v2 : RS m3 n s p (c1 + pn M) (h0 + 1) kk := v2
            refine fun N o => s_stop v2 (.inl rfl) (t := q.1) (by unfold isPl at qp; omega) ?_ (by unfold isPl at qp; unfold isTm; omega) (fun y => by omega) N o
            unfold tpv
            rw [if_neg (by omega), Nat.add_sub_cancel, pl3, pl2 _ (by rw [hA']; show h0 < h0 + 1 + pn M; omega)]
            exact qe
        have eSum : ∀ o, F_X12_sums 225 0 m2 o = ((), m3, o) := fun o => by
          have e1 := v1 (1000 - pn M) o
          rw [show 1000 - pn M + pn M = 1000 by omega] at e1
          have e2 := stop (1000 - pn M - 1) o
          rw [show 1000 - pn M - 1 + 1 = 1000 - pn M by omega] at e2
          exact e1.trans e2
        obtain ⟨m4, w1, w2, w3, w4⟩ := goon m3 (c1 + pn M) (h0 + pn A) v2 (by rw [Fr_at v3 (by omega)]; exact g43) hpn' (fun o => by
          unfold F_X12_stays f_X12_stays_0
          rw [e_here R2, bnd_mk]
          unfold f_X12_stays_4
          rw [(e_isTimes hs2 m2 _).1 ct, bnd_mk]
          unfold f_X12_stays_9
          rw [if_neg (by decide)]
          unfold f_X12_stays_19
          rw [(e_isPlus hs2 m2 _).2 np, bnd_mk]
          unfold f_X12_stays_24
          rw [eSum, bnd_mk]
          simp (config := {decide := true}) only [shT_225 S2, ne_eq, not_false_eq_true, and_self, and_true, true_and, and_false, false_and, true_or, or_true, false_or, or_false, not_true_eq_false, if_false, if_true])
        have F34 : Fr (rfP h0 c0) m2 m4 := Fr_trans (Fr_mono v3 (fun q i y => by unfold rfP; omega)) (Fr_mono w3 (fun q i y => rfP_le y (by omega) (by omega)))
        have rows4 : ∀ x, x < c1 + pn M → rwD m4 4 x = rwD m3 4 x ∧ rwD m4 5 x = rwD m3 5 x := fun x hx => by
          constructor
          · show gI m4 251 x = gI m3 251 x
            exact Fr_at w3 (by unfold rfP; omega)
          · show gI m4 252 x = gI m3 252 x
            exact Fr_at w3 (by unfold rfP; omega)
        have rows3 : ∀ x, x < c1 → rwD m3 4 x = rwD m2 4 x ∧ rwD m3 5 x = rwD m2 5 x := fun x hx => by
          constructor
          · show gI m3 251 x = gI m2 251 x
            exact Fr_at v3 (by omega)
          · show gI m3 252 x = gI m2 252 x
            exact Fr_at v3 (by omega)
        obtain ⟨j1, j2⟩ := ih 1000 N' A (some (s p, jV M V)) (p + 1) (c1 + pn M) cm m4 (by omega) (by omega) (by omega) w2 (Bt_Fr ⟨tb, tb1, tb2, tb3, tb4⟩ F34) ⟨fun q y => ⟨(hpl.1 q y).1, by
          have hA1 : pn A = 1 := by rw [y]; rfl
          rw [Fr_at w3 (by unfold rfP; omega), Fr_at v3 (by omega), pl2 _ (by omega)]
          exact (hpl.1 q y).2⟩, fun q y => by cases y; exact ⟨ct, w4⟩⟩ (Fr_trans F02 F34) hcm (PnR_congr hA2 (fun x _ b => ⟨(rows4 x (by omega)).1.trans (rows3 x (by omega)).1, (rows4 x (by omega)).2.trans (rows3 x (by omega)).2⟩)) ⟨RE_congr v4 (fun x _ b => rows4 x b), hop⟩ (by show c1 + pn M + pn A + 1 + a0 ≤ c0 + (p + 1); omega)
        refine ⟨fun e y => ?_, fun q y => ?_⟩
        · obtain ⟨m', d1, d2⟩ := j1 e y
          exact ⟨m', fun o => by rw [w1]; exact d1 o, d2⟩
        · obtain ⟨m', N2, c2, d1, d2⟩ := j2 q y
          exact ⟨m', N2, c2, fun o => by rw [w1]; exact d1 o, d2⟩
      · rw [iT_neg ct]
        -- sums: both
        obtain ⟨m3, v1, v2, v3, v4⟩ := s_pend (pl := 1) (.inr rfl) R2 hM2 (fun q y => ⟨.inl (hpl.2 q y).1, by rw [pl2 _ (by rw [y]; show h0 + pn A < h0 + pn A + 1; omega)]; exact (hpl.2 q y).2⟩) hV2 (by omega)
        have rows3 : ∀ x, x < c1 → rwD m3 4 x = rwD m2 4 x ∧ rwD m3 5 x = rwD m2 5 x := fun x hx => by
          constructor
          · show gI m3 251 x = gI m2 251 x
            exact Fr_at v3 (by omega)
          · show gI m3 252 x = gI m2 252 x
            exact Fr_at v3 (by omega)
        obtain ⟨m4, x1, x2, x3, x4⟩ := s_pend (pl := 1) (.inr rfl) v2 (PnR_congr hA2 (fun x _ b => rows3 x (by omega))) (fun q y => ⟨.inr ⟨rfl, (hpl.1 q y).1⟩, by
          have hA1 : pn A = 1 := by rw [y]; rfl
          rw [Fr_at v3 (by omega), pl2 _ (by omega)]
          exact (hpl.1 q y).2⟩) v4 (by omega)
        have eSum : ∀ o, F_X12_sums 225 1 m2 o = ((), m4, o) := fun o => by
          have e1 := v1 (1000 - pn M) o
          rw [show 1000 - pn M + pn M = 1000 by omega] at e1
          have e2 := x1 (1000 - pn M - pn A) o
          rw [show 1000 - pn M - pn A + pn A = 1000 - pn M by omega] at e2
          have e3 := s_stop x2 (pl := 1) (.inr rfl) tb1 (by rw [tpv_Fr x3 (fun i _ => by omega), tpv_Fr v3 (fun i _ => by omega)]; exact tb4) tb2 (fun _ => tb3) (1000 - pn M - pn A - 1) o
          rw [show 1000 - pn M - pn A - 1 + 1 = 1000 - pn M - pn A by omega] at e3
          exact (e1.trans e2).trans e3
        have F24 : Fr (rfP h0 c0) m2 m4 := Fr_trans (Fr_mono v3 (fun q i y => by unfold rfP; omega)) (Fr_mono x3 (fun q i y => by unfold rfP; omega))
        by_cases cp : isPl (s p)
        · rw [iT_pos cp]
          have hpn' : p < n := lt_of_sg hz (by unfold isPl at cp; omega)
          have hop : isBin (s p) := by unfold isPl at cp; unfold isBin; omega
          obtain ⟨m5, w1, w2, w3, w4⟩ := goon m4 (c1 + pn M + pn A) h0 x2 (by rw [Fr_at x3 (by omega), Fr_at v3 (by omega)]; exact g43) hpn' (fun o => by
            unfold F_X12_stays f_X12_stays_0
            rw [e_here R2, bnd_mk]
            unfold f_X12_stays_4
            rw [(e_isTimes hs2 m2 _).2 ct, bnd_mk]
            unfold f_X12_stays_9
            rw [if_pos rfl, (e_isPlus hs2 m2 _).1 cp, bnd_mk]
            unfold f_X12_stays_16
            rw [if_neg (by decide)]
            unfold f_X12_stays_19
            rw [(e_isPlus hs2 m2 _).1 cp, bnd_mk]
            unfold f_X12_stays_24
            rw [eSum, bnd_mk]
            simp (config := {decide := true}) only [shT_225 S2, ne_eq, not_false_eq_true, and_self, and_true, true_and, and_false, false_and, true_or, or_true, false_or, or_false, not_true_eq_false, if_false, if_true])
          have F45 : Fr (rfP h0 c0) m4 m5 := Fr_mono w3 (fun q i y => rfP_le y (by omega) (by omega))
          have rows5 : ∀ x, x < c1 + pn M + pn A → rwD m5 4 x = rwD m4 4 x ∧ rwD m5 5 x = rwD m4 5 x := fun x hx => by
            constructor
            · show gI m5 251 x = gI m4 251 x
              exact Fr_at w3 (by unfold rfP; omega)
            · show gI m5 252 x = gI m4 252 x
              exact Fr_at w3 (by unfold rfP; omega)
          obtain ⟨j1, j2⟩ := ih 1000 N' (some (s p, jV A (jV M V))) none (p + 1) (c1 + pn M + pn A) (c1 + pn M + pn A) m5 (by omega) (by omega) (by omega) w2 (Bt_Fr ⟨tb, tb1, tb2, tb3, tb4⟩ (Fr_trans F24 F45)) ⟨fun q y => by cases y; exact ⟨cp, w4⟩, fun q y => (by cases y)⟩ (Fr_trans F02 (Fr_trans F24 F45)) (by omega) ⟨RE_congr x4 (fun x _ b => rows5 x b), hop⟩ rfl (by show c1 + pn M + pn A + 1 + 0 + a0 ≤ c0 + (p + 1); omega)
          refine ⟨fun e y => ?_, fun q y => ?_⟩
          · obtain ⟨m', d1, d2⟩ := j1 e y
            exact ⟨m', fun o => by rw [w1]; exact d1 o, d2⟩
          · obtain ⟨m', N2, c2, d1, d2⟩ := j2 q y
            exact ⟨m', N2, c2, fun o => by rw [w1]; exact d1 o, d2⟩
        · rw [iT_neg cp]
          refine ⟨fun e y => (by cases y), fun q y => ?_⟩
          cases y
          refine ⟨m4, N' + 1, c1 + pn M + pn A, fun o => ?_, a2, x2, Fr_trans F02 F24, by have := x4.1; omega, by simp only; omega, x4⟩
          have eS : ∀ o, F_X12_stays 225 m2 o = f_X12_stays_39 225 (nI (s p)) m4 o := fun o => by
            unfold F_X12_stays f_X12_stays_0
            rw [e_here R2, bnd_mk]
            unfold f_X12_stays_4
            rw [(e_isTimes hs2 m2 _).2 ct, bnd_mk]
            unfold f_X12_stays_9
            rw [if_pos rfl, (e_isPlus hs2 m2 _).2 cp, bnd_mk]
            unfold f_X12_stays_16
            rw [if_pos rfl, eSum, bnd_mk]
            simp (config := {decide := true}) only [shT_225 S2, ne_eq, not_false_eq_true, and_self, and_true, true_and, and_false, false_and, true_or, or_true, false_or, or_false, not_true_eq_false, if_false, if_true]
          rw [base, eS]
          rfl
theorem E_R {n : Nat} {s : Nat → Nat} (hz : ∀ x, n ≤ x → s x = 0) : ∀ (r N1 N : Nat) (m : Mm) (a c h : Nat), r ≤ 6 → 0 < a → RS m n s a c h (6 - r) → Bt m h → n < a + N1 → n + 3 ≤ a + N → SimR (FSt N1 N) (XSt s) m n s a c h (6 - r) (sE s r a) := by
  intro r
  induction r with
  | zero =>
    intro N1 N m a c h hr ha hR hBt hN1 hN
    have hn := hR.1.2.2.1
    exact l_exprR (rcs := none) (fun f y => (by cases y)) (fun N1 N m a c h hR h1 h2 => e_factorR (r := 0) (by omega) (fun _ => rfl) (fun y => by omega) hR h1 h2) hR.2.2.2.2.2.2.2.1 200 N1 N none none a c c m (by omega) hN1 hN hR hBt ⟨fun q y => (by cases y), fun q y => (by cases y)⟩ (Fr_refl _ _) (Nat.le_refl _) rfl rfl (by show c + 0 + 0 + a ≤ c + a; omega)
  | succ r ih =>
    intro N1 N m a c h hr ha hR hBt hN1 hN
    have hn := hR.1.2.2.1
    refine l_exprR (rcs := some (sE s r)) (fun f y => by cases y; exact fun b hb => sE_prog hz r b hb) (fun N1 N m a c h hR h1 h2 => e_factorR (r := r + 1) hr (fun y => by omega) (fun _ => ⟨sE s r, rfl, fun b hb => sE_prog hz r b hb, fun N1 N m a c h hR h0 t91 h1 h2 => ?_⟩) hR h1 h2) hR.2.2.2.2.2.2.2.1 200 N1 N none none a c c m (by omega) hN1 hN hR hBt ⟨fun q y => (by cases y), fun q y => (by cases y)⟩ (Fr_refl _ _) (Nat.le_refl _) rfl rfl (by show c + 0 + 0 + a ≤ c + a; omega)
    rw [show 6 - (r + 1) + 1 = 6 - r by omega] at hR ⊢
    have ha' : 0 < a := by have := hR.2.2.2.2.2.2.2.2; omega
    exact ih N1 N m a c h (by omega) ha' hR ⟨91, by omega, by unfold isTm; omega, by unfold isPl; omega, by unfold tpv; rw [if_neg (by omega)]; exact t91⟩ h1 h2
/-- a value, called -/
theorem e_valueR {n : Nat} {s : Nat → Nat} {r : Nat} (hr : r ≤ 6) {m : Mm} {a c h : Nat} (ha : 0 < a) (hR : RS m n s a c h (6 - r)) (hBt : Bt m h) (h91 : ¬ tpv m h = 91) : (∀ e, sE s r a = .inl e → ∃ m', (∀ o, F_X12_value 225 m o = ((), m', o)) ∧ RF m m' e) ∧ ∀ p V, sE s r a = .inr (p, V) → (s p = 93 → ∃ m', (∀ o, F_X12_value 225 m o = ((), m', o)) ∧ RF m m' (1, p)) ∧ (¬ s p = 93 → ∃ m' c', (∀ o, F_X12_value 225 m o = ((), m', o)) ∧ RS m' n s p c' h (6 - r) ∧ Fr (rfP h c) m m' ∧ c < c' ∧ c' + a ≤ c + p ∧ RE (rwD m') c c' V) := by
  obtain ⟨hB, h35, h37, h39, h40, h41, b1, b2, b3⟩ := id hR
  have hS := hB.1
  have hn := hB.2.2.1
  have hz := hB.2.2.2.2
  have em : ∃ m1, m1 = sI m 225 43 0 := ⟨_, rfl⟩
  obtain ⟨m1, em⟩ := em
  have F1 : Fr (rfP h c) m m1 := by rw [em]; exact Fr_sI (Fr_refl _ m) (by unfold rfP; omega) _
  have R1 : RS m1 n s a c h (6 - r) := by
    refine ⟨RB_Fr hB (Fr_mono F1 (fun q i y => rfP_A y)), ?_, ?_, ?_, ?_, ?_, b1, b2, b3⟩
    · rw [em, gI_sI, if_neg (by omega)]; exact h35
    · rw [em, gI_sI, if_neg (by omega)]; exact h37
    · rw [em, gI_sI, if_neg (by omega)]; exact h39
    · rw [em, gI_sI, if_neg (by omega)]; exact h40
    · rw [em, gI_sI, if_neg (by omega)]; exact h41
  have S1 := R1.1.1
  obtain ⟨f1, f2⟩ := E_R hz r 1000 999 m1 a c h hr ha R1 (Bt_Fr hBt F1) (by omega) (by omega)
  have base : ∀ o, F_X12_value 225 m o = FSt 1000 999 m1 o := fun o => by
    have g43 : gI m1 225 43 = 0 := by rw [em, gI_sI, if_pos ⟨rfl, rfl⟩]
    unfold F_X12_value f_X12_value_0
    rw [← em]
    show f_X12_value_7b (f_X12_value_7 999) 225 1 m1 _ = _
    unfold f_X12_value_7b
    rw [if_neg (by decide), e_good S1 R1.2.2.1, bnd_mk]
    unfold f_X12_value_15
    rw [if_neg (by decide), if_pos g43]
    unfold FSt F_X12_factor
    simp (config := {decide := true}) only [shT_225 hS, shT_225 S1, ne_eq, not_false_eq_true, and_self, and_true, true_and, and_false, false_and, true_or, or_true, false_or, or_false, not_true_eq_false, if_false, if_true]
  refine ⟨fun e y => ?_, fun p V y => ?_⟩
  · obtain ⟨m', a1, a2⟩ := f1 e y
    exact ⟨m', fun o => by rw [base]; exact a1 o, RF_pre (Fr_mono F1 (fun q i y => rfP_A y)) a2⟩
  · obtain ⟨m2, N', c', a1, a2, a3, a4, a5, a6, a7⟩ := f2 (p, V) y
    have a2 : n + 3 ≤ p + N' := a2
    have a3 : RS m2 n s p c' h (6 - r) := a3
    have hpn : a < p ∧ p ≤ n := sE_prog hz r a b1 (p, V) y
    obtain ⟨N', rfl⟩ : ∃ N'', N' = N'' + 1 := ⟨N' - 1, by omega⟩
    have S2 := a3.1.1
    have hs2 := RB_256 a3.1 p
    have F2 := Fr_trans F1 a4
    have tp : ¬ tpv m2 h = 91 := by rw [tpv_Fr F2 (fun i hi => by unfold rfP; omega)]; exact h91
    have e93 : (nI (s p) = 93) = (s p = 93) := propext (nI_eq (b := 93) (by omega) (by omega))
    obtain ⟨hB2, k35, k37, k39, k40, k41, d1, d2, d3⟩ := id a3
    have fin : ∀ m3, Sh m3 → ∀ o, f_X12_value_45 (f_X12_value_7 (N' + 1)) 225 0 m3 o = f_X12_value_57 225 m3 o := fun m3 _ o => by
      unfold f_X12_value_45
      rw [if_pos rfl]
      unfold f_X12_value_52 f_X12_value_53
      rw [v_end]
    refine ⟨fun c93 => ?_, fun c93 => ?_⟩
    · have cv : nI (s p) = 93 := by rw [e93]; exact c93
      have hw : ∀ o, F_X12_wrongs 225 1 (nI p) m2 o = ((), sI m2 225 37 (bdv (1, p)), o) := fun o => e_wrongs S2 k37 1 p o
      have rf := RF_here a3 (f := 1) (by omega) (by omega)
      have S3 := (RB_Fr hB2 rf.1).1
      refine ⟨_, fun o => ?_, RF_pre (Fr_mono F2 (fun q i y => rfP_A y)) rf⟩
      have eX : ∀ o, f_X12_stays_39 225 (nI (s p)) m2 o = (0, sI m2 225 37 (bdv (1, p)), o) := fun o => by
        unfold f_X12_stays_39
        rw [if_pos cv, e_topR S2 (by omega) k41, bnd_mk]
        unfold f_X12_stays_51
        rw [if_neg tp, k35, hw, bnd_mk]
        unfold f_X12_stays_65
        simp (config := {decide := true}) only [shT_225 S2, ne_eq, not_false_eq_true, and_self, and_true, true_and, and_false, false_and, true_or, or_true, false_or, or_false, not_true_eq_false, if_false, if_true]
      rw [base, a1]
      unfold XSt
      rw [eX, bnd_mk, fin _ S3, v_bad S3 (RF_bad rf)]
    · have cv : ¬ nI (s p) = 93 := by rw [e93]; exact c93
      refine ⟨m2, c', fun o => ?_, a3, F2, a5, a6, a7⟩
      have eX : ∀ o, f_X12_stays_39 225 (nI (s p)) m2 o = (0, m2, o) := fun o => by
        unfold f_X12_stays_39
        rw [if_neg cv]
      rw [base, a1]
      unfold XSt
      rw [eX, bnd_mk, fin _ S2]
      unfold f_X12_value_57
      rw [e_good S2 k37, bnd_mk]
      unfold f_X12_value_61
      rw [if_neg (by decide), e_topR S2 (by omega) k41, bnd_mk]
      unfold f_X12_value_68 f_X12_value_82
      rw [if_neg tp]
      simp (config := {decide := true}) only [shT_225 S2, ne_eq, not_false_eq_true, and_self, and_true, true_and, and_false, false_and, true_or, or_true, false_or, or_false, not_true_eq_false, if_false, if_true]
