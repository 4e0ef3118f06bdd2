/-! ===== the other side reads clauses, and the whole text ===== -/
def rfL (q i : Nat) : Prop := rfA q i ∨ (q = 225 ∧ i = 38) ∨ (247 ≤ q ∧ q ≤ 250)
theorem RB_FrL {m m' : Mm} {n : Nat} {s : Nat → Nat} (h : RB m n s) (hF : Fr rfL m m') : RB m' n s := by
  obtain ⟨h1, h2, h3, h4, h5⟩ := h
  exact ⟨Fr_Sh hF h1, by rw [Fr_at hF (by unfold rfL rfA; omega)]; exact h2, h3, fun x hx => by rw [Fr_at hF (by unfold rfL rfA; omega)]; exact h4 x hx, h5⟩
def LF (m m' : Mm) (e : Nat × Nat) : Prop := Fr rfL m m' ∧ gI m' 225 37 = bdv e ∧ 1 ≤ e.1 ∧ e.1 ≤ 5 ∧ e.2 ≤ 200
theorem LF_bad {m m' : Mm} {e : Nat × Nat} (h : LF m m' e) : ¬ gI m' 225 37 = 0 ∧ ¬ 0 ≤ gI m' 225 37 := by
  rw [h.2.1]
  exact ⟨(bdv_neg h.2.2.1 h.2.2.2.1 h.2.2.2.2).2, (bdv_neg h.2.2.1 h.2.2.2.1 h.2.2.2.2).1⟩
def LSt (m : Mm) (n : Nat) (s : Nat → Nat) (a c k : Nat) : Prop := RB m n s ∧ gI m 225 35 = nI a ∧ gI m 225 37 = 0 ∧ gI m 225 39 = nI c ∧ gI m 225 38 = nI k ∧ a ≤ n ∧ c ≤ a
theorem e_condR {n : Nat} {s : Nat → Nat} {m : Mm} {a c : Nat} (ha : 0 < a) (hR : RS m n s a c 0 0) : (¬ s a = 40 → ∃ m', (∀ o, F_X12_condition 225 m o = ((), m', o)) ∧ RF m m' (1, a)) ∧ (s a = 40 → (∀ e, sCl s (sP s 5) 200 none none (a + 1) = .inl e → ∃ m', (∀ o, F_X12_condition 225 m o = ((), m', o)) ∧ RF m m' e) ∧ ∀ p T, sCl s (sP s 5) 200 none none (a + 1) = .inr (p, T) → (¬ s p = 41 → ∃ m', (∀ o, F_X12_condition 225 m o = ((), m', o)) ∧ RF m m' (1, p)) ∧ (s p = 41 → ∃ m' c', (∀ o, F_X12_condition 225 m o = ((), m', o)) ∧ RS m' n s (p + 1) c' 0 0 ∧ Fr (rfC 0 c) m m' ∧ c < c' ∧ RE (rwD m') c c' (tV T))) := by
  obtain ⟨hB, h35, h37, h39, h40, h41, b1, b2, b3⟩ := id hR
  have hS := hB.1
  have hn := hB.2.2.1
  have hz := hB.2.2.2.2
  have hs := RB_256 hB a
  have em : ∃ m1, m1 = sI m 225 42 0 := ⟨_, rfl⟩
  obtain ⟨m1, em⟩ := em
  have F1 : Fr (rfC 0 c) m m1 := by rw [em]; exact Fr_sI (Fr_refl _ m) (.inr ⟨rfl, rfl⟩) _
  have R1 : RS m1 n s a c 0 0 := by
    refine ⟨RB_Fr hB (Fr_mono F1 (fun q i y => rfC_A y)), ?_, ?_, ?_, ?_, ?_, b1, b2, b3⟩
    · rw [em, gI_sI, if_neg (by omega)]; exact h35
    · rw [em, gI_sI, if_neg (by omega)]; exact h37
    · rw [em, gI_sI, if_neg (by omega)]; exact h39
    · rw [em, gI_sI, if_neg (by omega)]; exact h40
    · rw [em, gI_sI, if_neg (by omega)]; exact h41
  have S1 := R1.1.1
  have g42 : gI m1 225 42 = 0 := by rw [em, gI_sI, if_pos ⟨rfl, rfl⟩]
  have e40 : (nI (s a) = 40) = (s a = 40) := propext (nI_eq (b := 40) (by omega) (by omega))
  have base : ∀ o, F_X12_condition 225 m o = f_X12_condition_9 225 (nI (s a)) m1 o := fun o => by
    unfold F_X12_condition f_X12_condition_0
    rw [← em]
    unfold f_X12_condition_5
    rw [e_here R1, bnd_mk]
    simp (config := {decide := true}) only [shT_225 hS, shT_225 S1, ne_eq, not_false_eq_true, and_self, and_true, true_and, and_false, false_and, true_or, or_true, false_or, or_false, not_true_eq_false, if_false, if_true]
  have F1A := Fr_mono F1 (fun q i y => rfC_A y)
  refine ⟨fun n40 => ?_, fun c40 => ?_⟩
  · have rf := RF_here R1 (f := 1) (by omega) (by omega)
    have S2 := (RB_Fr R1.1 rf.1).1
    have hw : ∀ o, F_X12_wrongs 225 1 (nI a) m1 o = ((), sI m1 225 37 (bdv (1, a)), o) := fun o => e_wrongs S1 R1.2.2.1 1 a o
    refine ⟨_, fun o => ?_, RF_pre F1A rf⟩
    rw [base]
    unfold f_X12_condition_9
    rw [if_neg (by rw [e40]; exact n40), R1.2.1, hw, bnd_mk]
    unfold f_X12_condition_23
    rw [e_bad S2 (RF_bad rf), bnd_mk]
    unfold f_X12_condition_27
    rw [if_pos rfl]
    simp (config := {decide := true}) only [gT_sI, shT_225 S1, shT_225 S2, ne_eq, not_false_eq_true, and_self, and_true, true_and, and_false, false_and, true_or, or_true, false_or, or_false, not_true_eq_false, if_false, if_true]
  · have han : a < n := lt_of_sg hz (by omega)
    obtain ⟨m2, o1, o2, o3, o4, -, o6⟩ := (e_opens R1 han).2 (by omega)
    have S2 := o2.1.1
    have h42 : gI m2 225 42 = 0 := by rw [o6]; exact g42
    have base2 : ∀ o, F_X12_condition 225 m o = PSt 1000 999 m2 o := fun o => by
      rw [base]
      unfold f_X12_condition_9
      rw [if_pos (by rw [e40]; exact c40)]
      unfold f_X12_condition_23
      rw [e_good S1 R1.2.2.1, bnd_mk]
      unfold f_X12_condition_27
      rw [if_neg (by decide), o1, bnd_mk]
      unfold f_X12_condition_35
      rw [c_on S2 o2.2.2.1 h42]
      simp (config := {decide := true}) only [shT_225 S1, ne_eq, not_false_eq_true, and_self, and_true, true_and, and_false, false_and, true_or, or_true, false_or, or_false, not_true_eq_false, if_false, if_true]
    have F2 : Fr (rfC 0 c) m m2 := Fr_trans F1 (Fr_mono o3 (fun q i y => .inl y))
    have F2A := Fr_mono F2 (fun q i y => rfC_A y)
    have o2' : RS m2 n s (a + 1) c (0 + 1) (6 - 5) := o2
    obtain ⟨g1, g2⟩ := C_of (kk := 6 - 5) (by omega) (fun b hb => sP_prog hz 5 b hb) (fun N1 N m a c h ha hh hR h42 hPt h1 h2 => P_R hz 5 N1 N m a c h (by omega) ha hh hR h42 hPt h1 h2) (N1 := 1000) (N := 999) (Nat.succ_pos a) o2' h42 (by rw [o4, c40]) (by omega) (by omega)
    refine ⟨fun e y => ?_, fun p T y => ?_⟩
    · obtain ⟨m', a1, a2⟩ := g1 e y
      exact ⟨m', fun o => by rw [base2]; exact a1 o, RF_pre F2A a2⟩
    · have hpn : a + 1 < p ∧ p ≤ n := sCl_prog hz (fun b hb => sP_prog hz 5 b hb) 200 none none (a + 1) han (p, T) y
      obtain ⟨k1, k2⟩ := g2 p T y
      refine ⟨fun z => ?_, fun z => ?_⟩
      · obtain ⟨m', a1, a2⟩ := k1 z
        exact ⟨m', fun o => by rw [base2]; exact a1 o, RF_pre F2A a2⟩
      · obtain ⟨m3, N', c', q4, q3, q5, q6, q7, q8, q9, q10⟩ := k2 z
        have hpn' : p < n := lt_of_sg hz (by omega)
        obtain ⟨hB2, k35, k37, k39, k40, k41, d1, d2, d3⟩ := id q5
        have S3 := hB2.1
        obtain ⟨N', rfl⟩ : ∃ N'', N' = N'' + 1 := ⟨N' - 1, by omega⟩
        have em4 : ∃ m4, m4 = sI (sI (sI (sI m3 225 41 0) 225 40 0) 225 35 (nI (p + 1))) 225 42 1 := ⟨_, rfl⟩
        obtain ⟨m4, em4⟩ := em4
        have F4 : Fr (rfC 0 c) m3 m4 := by rw [em4]; exact Fr_sI (Fr_sI (Fr_sI (Fr_sI (Fr_refl _ m3) (by unfold rfC rfP; omega) _) (by unfold rfC rfP; omega) _) (by unfold rfC rfP; omega) _) (by unfold rfC rfP; omega) _
        have B4 := RB_Fr hB2 (Fr_mono F4 (fun q i y => rfC_A y))
        have S4 := B4.1
        have g37 : gI m4 225 37 = 0 := by rw [em4, gI_sI, if_neg (by omega), gI_sI, if_neg (by omega), gI_sI, if_neg (by omega), gI_sI, if_neg (by omega)]; exact k37
        have g42' : ¬ gI m4 225 42 = 0 := by rw [em4, gI_sI, if_pos ⟨rfl, rfl⟩]; decide
        have R4 : RS m4 n s (p + 1) c' 0 0 := ⟨B4, by rw [em4, gI_sI, if_neg (by omega), gI_sI, if_pos ⟨rfl, rfl⟩], g37, by rw [em4, gI_sI, if_neg (by omega), gI_sI, if_neg (by omega), gI_sI, if_neg (by omega), gI_sI, if_neg (by omega)]; exact k39, by rw [em4, gI_sI, if_neg (by omega), gI_sI, if_neg (by omega), gI_sI, if_pos ⟨rfl, rfl⟩]; rfl, by rw [em4, gI_sI, if_neg (by omega), gI_sI, if_neg (by omega), gI_sI, if_neg (by omega), gI_sI, if_pos ⟨rfl, rfl⟩]; rfl, hpn', by omega, by omega⟩
        refine ⟨m4, c', fun o => ?_, R4, Fr_trans F2 (Fr_trans (Fr_mono q7 (fun q i y => rfC_le y (by omega) (Nat.le_refl _))) F4), q8, RE_congr q10 (fun x _ _ => ⟨by
          show gI m4 251 x = gI m3 251 x
          rw [em4, gI_sI, if_neg (by omega), gI_sI, if_neg (by omega), gI_sI, if_neg (by omega), gI_sI, if_neg (by omega)], by
          show gI m4 252 x = gI m3 252 x
          rw [em4, gI_sI, if_neg (by omega), gI_sI, if_neg (by omega), gI_sI, if_neg (by omega), gI_sI, if_neg (by omega)]⟩)⟩
        have w40 : gI (sI m3 225 41 0) 225 40 = 1 := by rw [gI_sI, if_neg (by omega)]; exact k40
        have w35 : gI (sI (sI m3 225 41 0) 225 40 0) 225 35 = nI p := by rw [gI_sI, if_neg (by omega), gI_sI, if_neg (by omega)]; exact k35
        have w41 : gI (sI (sI (sI m3 225 41 0) 225 40 0) 225 35 (nI (p + 1))) 225 41 = 0 := by rw [gI_sI, if_neg (by omega), gI_sI, if_neg (by omega), gI_sI, if_pos ⟨rfl, rfl⟩]
        have k41' : gI m3 225 41 = 1 := k41
        have eG : ∀ o, f_X12_goesBehind_61 225 m3 o = (0, m4, o) := fun o => by
          unfold f_X12_goesBehind_61
          rw [k41', show (1 : Int32) - 1 = 0 by decide]
          unfold f_X12_goesBehind_71
          rw [w40, show (1 : Int32) - 1 = 0 by decide]
          unfold f_X12_goesBehind_81
          rw [w35, nI_1]
          unfold f_X12_goesBehind_91
          rw [w41, if_pos rfl]
          unfold f_X12_goesBehind_104
          rw [← em4]
          unfold f_X12_goesBehind_107
          rw [if_neg g42']
          unfold f_X12_goesBehind_118
          simp (config := {decide := true}) only [gT_sI, shT_225 S3, shT_225 S4, ne_eq, not_false_eq_true, and_self, and_true, true_and, and_false, false_and, true_or, or_true, false_or, or_false, not_true_eq_false, if_false, if_true]
        rw [base2, q4]
        unfold JSt
        rw [eG, bnd_mk]
        show f_X12_condition_37b (f_X12_condition_37 N') 225 0 m4 o = _
        unfold f_X12_condition_37b
        rw [e_good S4 g37, bnd_mk]
        unfold f_X12_condition_41 f_X12_condition_74
        rw [if_neg (by decide), if_neg g42']
        simp (config := {decide := true}) only [shT_225 S4, ne_eq, not_false_eq_true, and_self, and_true, true_and, and_false, false_and, true_or, or_true, false_or, or_false, not_true_eq_false, if_false, if_true]
/-- what the other's rows hold of one clause -/
def CKR (D : Nat → Nat → Int32) (z : Nat) (x : Nat × VE × VC) (j : Nat) : Prop := ∃ sf f t, D 0 j = nI x.1 ∧ D 1 j = nI sf ∧ D 2 j = nI f ∧ D 3 j = nI t ∧ sf ≤ f ∧ f < t ∧ t ≤ z ∧ RE D f t (tV x.2.2) ∧ (x.1 ≠ 110 → RE D sf f x.2.1)
theorem e_138 {m : Mm} (hS : Sh m) {k : Nat} (hk : k < 14) (h38 : gI m 225 38 = nI k) (o : Prop) : f_X12_clause_138 225 m o = ((), sI (sI m 250 k (gI m 225 39)) 225 38 (nI (k + 1)), o) := by
  have i1 : vp_in (nI k) 14 := vp_in_nI (by omega) (by omega)
  simp (config := {decide := true}) only [f_X12_clause_138, f_X12_clause_151, f_X12_clause_161, gT_sI, gN_sI, gR_sI, gI_sI, h38, shT_225 hS, shR_225_32 hS, shT_250 hS, shN_250 hS, i1, ix_nI (show k < 2 ^ 31 by omega), nI_1, ne_eq, not_false_eq_true, and_self, and_true, true_and, and_false, false_and, true_or, or_true, false_or, or_false, not_true_eq_false, if_false, if_true]
theorem e_114 {m : Mm} (hS : Sh m) {k : Nat} (hk : k < 14) (h38 : gI m 225 38 = nI k) (o : Prop) : f_X12_clause_114 225 m o = f_X12_clause_127 225 (sI m 249 k (gI m 225 39)) o := by
  have i1 : vp_in (nI k) 14 := vp_in_nI (by omega) (by omega)
  simp (config := {decide := true}) only [f_X12_clause_114, h38, shT_225 hS, shR_225_31 hS, shT_249 hS, shN_249 hS, i1, ix_nI (show k < 2 ^ 31 by omega), ne_eq, not_false_eq_true, and_self, and_true, true_and, and_false, false_and, true_or, or_true, false_or, or_false, not_true_eq_false, if_false, if_true]
theorem cl_fail {m m' : Mm} (hS : Sh m') {k : Nat} {e : Nat × Nat} (hk : k < 14) (h38 : gI m' 225 38 = nI k) (h : LF m m' e) : ∃ m2, (∀ o, f_X12_clause_114 225 m' o = ((), m2, o)) ∧ LF m m2 e := by
  have S1 : Sh (sI m' 249 k (gI m' 225 39)) := Sh_sI hS _ _ _
  have g37 : gI (sI m' 249 k (gI m' 225 39)) 225 37 = gI m' 225 37 := by rw [gI_sI, if_neg (by omega)]
  have g38 : gI (sI m' 249 k (gI m' 225 39)) 225 38 = nI k := by rw [gI_sI, if_neg (by omega)]; exact h38
  have bad : ¬ gI (sI m' 249 k (gI m' 225 39)) 225 37 = 0 := by rw [g37]; exact (LF_bad h).1
  refine ⟨sI (sI (sI m' 249 k (gI m' 225 39)) 250 k (gI (sI m' 249 k (gI m' 225 39)) 225 39)) 225 38 (nI (k + 1)), fun o => ?_, Fr_trans h.1 (Fr_sI (Fr_sI (Fr_sI (Fr_refl _ m') (by unfold rfL; omega) _) (by unfold rfL; omega) _) (by unfold rfL; omega) _), ?_, h.2.2⟩
  · rw [e_114 hS hk h38]
    unfold f_X12_clause_127
    rw [e_bad S1 bad, bnd_mk]
    unfold f_X12_clause_131
    rw [if_pos rfl, e_138 S1 hk g38]
    simp (config := {decide := true}) only [shT_225 S1, ne_eq, not_false_eq_true, and_self, and_true, true_and, and_false, false_and, true_or, or_true, false_or, or_false, not_true_eq_false, if_false, if_true]
  · rw [gI_sI, if_neg (by omega), gI_sI, if_neg (by omega), g37]
    exact h.2.1
theorem cl_fail2 {m m' : Mm} (hS : Sh m') {k : Nat} {e : Nat × Nat} (hk : k < 14) (h38 : gI m' 225 38 = nI k) (h : LF m m' e) : ∃ m2, (∀ o, f_X12_clause_138 225 m' o = ((), m2, o)) ∧ LF m m2 e :=
  ⟨_, fun o => e_138 hS hk h38 o, Fr_trans h.1 (Fr_sI (Fr_sI (Fr_refl _ m') (by unfold rfL; omega) _) (by unfold rfL; omega) _), by rw [gI_sI, if_neg (by omega), gI_sI, if_neg (by omega)]; exact h.2.1, h.2.2⟩
theorem LF_RF {m m1 m' : Mm} {e : Nat × Nat} (hF : Fr rfL m m1) (h : RF m1 m' e) : LF m m' e := ⟨Fr_trans hF (Fr_mono h.1 (fun q i y => .inl y)), h.2⟩
theorem e_clauseR {n : Nat} {s : Nat → Nat} {m : Mm} {a c k : Nat} (hL : LSt m n s a c k) (hk : k < 14) (hc : isKd (s a)) : (∀ e, sKl s (s a) (a + 1) = .inl e → ∃ m', (∀ o, F_X12_clause 225 m o = ((), m', o)) ∧ LF m m' e) ∧ (∀ p V T, sKl s (s a) (a + 1) = .inr (p, (V, T)) → ∃ m' c', (∀ o, F_X12_clause 225 m o = ((), m', o)) ∧ Fr rfL m m' ∧ LSt m' n s p c' (k + 1) ∧ c ≤ c' ∧ CKR (rwD m') c' (s a, (V, T)) k ∧ (∀ x, x < c → rwD m' 4 x = rwD m 4 x ∧ rwD m' 5 x = rwD m 5 x) ∧ ∀ j, j ≠ k → ∀ q, q ≤ 3 → rwD m' q j = rwD m q j) := by
  obtain ⟨hB, h35, h37, h39, h38, b1, b2⟩ := id hL
  have hS := hB.1
  have hn := hB.2.2.1
  have hz := hB.2.2.2.2
  have hs := RB_256 hB a
  have han : a < n := lt_of_sg hz (by unfold isKd at hc; omega)
  have ik : vp_in (nI k) 14 := vp_in_nI (by omega) (by omega)
  have em : ∃ m1, m1 = sI (sI (sI (sI (sI m 247 k (nI (s a))) 248 k (nI c)) 225 35 (nI (a + 1))) 225 41 0) 225 40 0 := ⟨_, rfl⟩
  obtain ⟨m1, em⟩ := em
  have g : ∀ q i, gI m1 q i = if q = 225 ∧ i = 40 then 0 else if q = 225 ∧ i = 41 then 0 else if q = 225 ∧ i = 35 then nI (a + 1) else if q = 248 ∧ i = k then nI c else if q = 247 ∧ i = k then nI (s a) else gI m q i := fun q i => by rw [em, gI_sI, gI_sI, gI_sI, gI_sI, gI_sI]
  have F1 : Fr (fun q i => (q = 225 ∧ (i = 35 ∨ i = 40 ∨ i = 41)) ∨ ((q = 247 ∨ q = 248) ∧ i = k)) m m1 := ⟨by rw [em]; rfl, fun q i y => by rw [g, if_neg (by omega), if_neg (by omega), if_neg (by omega), if_neg (by omega), if_neg (by omega)]⟩
  have F1L : Fr rfL m m1 := Fr_mono F1 (fun q i y => by unfold rfL rfA; omega)
  have B1 := RB_FrL hB F1L
  have S1 := B1.1
  have R1 : RS m1 n s (a + 1) c 0 (6 - 6) := ⟨B1, by rw [g, if_neg (by omega), if_neg (by omega), if_pos ⟨rfl, rfl⟩], by rw [Fr_at F1 (by omega)]; exact h37, by rw [Fr_at F1 (by omega)]; exact h39, by rw [g, if_pos ⟨rfl, rfl⟩]; rfl, by rw [g, if_neg (by omega), if_pos ⟨rfl, rfl⟩]; rfl, han, by omega, by omega⟩
  have g38 : gI m1 225 38 = nI k := by rw [Fr_at F1 (by omega)]; exact h38
  have c1 : (nI (s a) = 110) = (s a = 110) := propext (nI_eq (b := 110) (by omega) (by omega))
  have c2 : (nI (s a) = 101) = (s a = 101) := propext (nI_eq (b := 101) (by omega) (by omega))
  have c3 : (nI (s a) = 103) = (s a = 103) := propext (nI_eq (b := 103) (by omega) (by omega))
  have n14 : ¬ nI k = 14 := fun y => absurd ((nI_eq (b := 14) (by omega) (by omega)).mp y) (by omega)
  have base : ∀ o, F_X12_clause 225 m o = f_X12_clause_104 225 (nI (s a)) m1 o := fun o => by
    have hh := fun o => e_hereB hB (show a ≤ 210 by omega) h35 o
    have e35 : ∀ o, f_X12_clause_35 225 (nI (s a)) m o = f_X12_clause_104 225 (nI (s a)) m1 o := fun o => by
      unfold f_X12_clause_35
      rw [h38, if_neg n14]
      unfold f_X12_clause_53
      rw [e_good hS h37, bnd_mk]
      unfold f_X12_clause_57
      rw [if_neg (by decide)]
      rw [em]
      simp (config := {decide := true}) only [f_X12_clause_71, f_X12_clause_84, f_X12_clause_94, f_X12_clause_99, gT_sI, gN_sI, gR_sI, gI_sI, h35, h38, h39, shT_225 hS, shR_225_29 hS, shR_225_30 hS, shT_247 hS, shN_247 hS, shT_248 hS, shN_248 hS, ik, ix_nI (show k < 2 ^ 31 by omega), nI_1, ne_eq, not_false_eq_true, and_self, and_true, true_and, and_false, false_and, true_or, or_true, false_or, or_false, not_true_eq_false, if_false, if_true]
    unfold F_X12_clause f_X12_clause_0
    rw [hh, bnd_mk]
    unfold f_X12_clause_4
    simp only [c1, c2, c3, e35]
    rcases hc with y | y | y
    · rw [if_pos y]
      simp (config := {decide := true}) only [shT_225 hS, ne_eq, not_false_eq_true, and_self, and_true, true_and, and_false, false_and, true_or, or_true, false_or, or_false, not_true_eq_false, if_false, if_true]
    · rw [if_neg (by omega), if_pos y]
      simp (config := {decide := true}) only [shT_225 hS, ne_eq, not_false_eq_true, and_self, and_true, true_and, and_false, false_and, true_or, or_true, false_or, or_false, not_true_eq_false, if_false, if_true]
    · rw [if_neg (by omega), if_neg (by omega), if_pos y]
      simp (config := {decide := true}) only [shT_225 hS, ne_eq, not_false_eq_true, and_self, and_true, true_and, and_false, false_and, true_or, or_true, false_or, or_false, not_true_eq_false, if_false, if_true]
  -- behind the value
  have behind : ∀ (m2 : Mm) (p cv : Nat) (V : VE), RS m2 n s p cv 0 0 → Fr (rfP 0 c) m1 m2 → a < p → c ≤ cv → (s a ≠ 110 → RE (rwD m2) c cv V) → (s a = 110 → cv = c) → (∀ o, F_X12_clause 225 m o = f_X12_clause_114 225 m2 o) → (∀ e, iT (s p = 40) (bS (sCl s (sP s 5) 200 none none (p + 1)) (fun q T => iT (s q = 41) (.inr (q + 1, (V, T))) (.inl (1, q)))) (.inl (1, p)) = .inl e → ∃ m', (∀ o, F_X12_clause 225 m o = ((), m', o)) ∧ LF m m' e) ∧ (∀ q U T, iT (s p = 40) (bS (sCl s (sP s 5) 200 none none (p + 1)) (fun q T => iT (s q = 41) (.inr (q + 1, (V, T))) (.inl (1, q)))) (.inl (1, p)) = .inr (q, (U, T)) → ∃ m' c', (∀ o, F_X12_clause 225 m o = ((), m', o)) ∧ Fr rfL m m' ∧ LSt m' n s q c' (k + 1) ∧ c ≤ c' ∧ CKR (rwD m') c' (s a, (U, T)) k ∧ (∀ x, x < c → rwD m' 4 x = rwD m 4 x ∧ rwD m' 5 x = rwD m 5 x) ∧ ∀ j, j ≠ k → ∀ q, q ≤ 3 → rwD m' q j = rwD m q j) := fun m2 p cv V R2 F2 hap hcc hV hV0 hcl => by
    have S2 := R2.1.1
    have h38' : gI m2 225 38 = nI k := by rw [Fr_at F2 (by unfold rfP; omega)]; exact g38
    have em3 : ∃ m3, m3 = sI m2 249 k (nI cv) := ⟨_, rfl⟩
    obtain ⟨m3, em3⟩ := em3
    have F3 : Fr (fun q i => q = 249 ∧ i = k) m2 m3 := by rw [em3]; exact Fr_sI (P := fun q i => q = 249 ∧ i = k) (Fr_refl _ m2) ⟨rfl, rfl⟩ _
    have F3L : Fr rfL m m3 := Fr_trans F1L (Fr_trans (Fr_mono F2 (fun q i y => .inl (rfP_A y))) (Fr_mono F3 (fun q i y => by unfold rfL; omega)))
    have S3 := Fr_Sh F3 S2
    have R3 : RS m3 n s p cv 0 0 := ⟨RB_FrL R2.1 (Fr_mono F3 (fun q i y => by unfold rfL; omega)), by rw [Fr_at F3 (by omega)]; exact R2.2.1, by rw [Fr_at F3 (by omega)]; exact R2.2.2.1, by rw [Fr_at F3 (by omega)]; exact R2.2.2.2.1, by rw [Fr_at F3 (by omega)]; exact R2.2.2.2.2.1, by rw [Fr_at F3 (by omega)]; exact R2.2.2.2.2.2.1, R2.2.2.2.2.2.2⟩
    have k38 : gI m3 225 38 = nI k := by rw [Fr_at F3 (by omega)]; exact h38'
    obtain ⟨d1, d2⟩ := e_condR (show 0 < p by omega) R3
    have base3 : ∀ o, F_X12_clause 225 m o = bnd (F_X12_condition 225 m3 o) (fun _ m1 o1 => f_X12_clause_138 225 m1 o1) := fun o => by
      rw [hcl, e_114 S2 hk h38', R2.2.2.2.1, ← em3]
      unfold f_X12_clause_127
      rw [e_good S3 R3.2.2.1, bnd_mk]
      unfold f_X12_clause_131
      rw [if_neg (by decide)]
      simp (config := {decide := true}) only [shT_225 S3, ne_eq, not_false_eq_true, and_self, and_true, true_and, and_false, false_and, true_or, or_true, false_or, or_false, not_true_eq_false, if_false, if_true]
    have cfail : ∀ m' e, (∀ o, F_X12_condition 225 m3 o = ((), m', o)) → RF m3 m' e → ∃ m5, (∀ o, F_X12_clause 225 m o = ((), m5, o)) ∧ LF m m5 e := fun m' e x1 x2 => by
      have S4 := Fr_Sh x2.1 S3
      obtain ⟨m5, y1, y2⟩ := cl_fail2 S4 hk (by rw [Fr_at x2.1 (by unfold rfA; omega)]; exact k38) (LF_RF F3L x2)
      exact ⟨m5, fun o => by rw [base3, x1, bnd_mk, y1], y2⟩
    by_cases c40 : s p = 40
    · rw [iT_pos c40]
      obtain ⟨e1, e2⟩ := d2 c40
      cases hfa : sCl s (sP s 5) 200 none none (p + 1) with
      | inl e =>
        obtain ⟨m', x1, x2⟩ := e1 e hfa
        rw [bS_l]
        refine ⟨fun e' y => ?_, fun q U T y => (by cases y)⟩
        cases y
        exact cfail m' e x1 x2
      | inr qq =>
        obtain ⟨p2, T⟩ := qq
        obtain ⟨k1, k2⟩ := e2 p2 T hfa
        rw [bS_r]
        by_cases c41 : s p2 = 41
        · rw [iT_pos c41]
          obtain ⟨m4, c', x1, R4, F4, x4, x5⟩ := k2 c41
          have S4 := R4.1.1
          have k38' : gI m4 225 38 = nI k := by rw [Fr_at F4 (by unfold rfC rfP; omega)]; exact k38
          have em5 : ∃ m5, m5 = sI (sI m4 250 k (nI c')) 225 38 (nI (k + 1)) := ⟨_, rfl⟩
          obtain ⟨m5, em5⟩ := em5
          have F5 : Fr (fun q i => (q = 250 ∧ i = k) ∨ (q = 225 ∧ i = 38)) m4 m5 := by rw [em5]; exact Fr_sI (Fr_sI (P := fun q i => (q = 250 ∧ i = k) ∨ (q = 225 ∧ i = 38)) (Fr_refl _ m4) (by omega) _) (by omega) _
          have F5L : Fr rfL m m5 := Fr_trans F3L (Fr_trans (Fr_mono F4 (fun q i y => .inl (rfC_A y))) (Fr_mono F5 (fun q i y => by unfold rfL; omega)))
          have rw45 : ∀ x, x < cv → rwD m5 4 x = rwD m2 4 x ∧ rwD m5 5 x = rwD m2 5 x := fun x hx => by
            constructor
            · show gI m5 251 x = gI m2 251 x
              rw [Fr_at F5 (by omega), Fr_at F4 (by unfold rfC rfP; omega), Fr_at F3 (by omega)]
            · show gI m5 252 x = gI m2 252 x
              rw [Fr_at F5 (by omega), Fr_at F4 (by unfold rfC rfP; omega), Fr_at F3 (by omega)]
          refine ⟨fun e y => (by cases y), fun q U T' y => ?_⟩
          cases y
          refine ⟨m5, c', fun o => ?_, F5L, ⟨RB_FrL hB F5L, by rw [Fr_at F5 (by omega)]; exact R4.2.1, by rw [Fr_at F5 (by omega)]; exact R4.2.2.1, by rw [Fr_at F5 (by omega)]; exact R4.2.2.2.1, by rw [em5, gI_sI, if_pos ⟨rfl, rfl⟩], R4.2.2.2.2.2.2.1, R4.2.2.2.2.2.2.2.1⟩, by omega, ⟨c, cv, c', ?_, ?_, ?_, ?_, hcc, x4, Nat.le_refl _, RE_congr x5 (fun x _ _ => ⟨by
            show gI m5 251 x = gI m4 251 x
            exact Fr_at F5 (by omega), by
            show gI m5 252 x = gI m4 252 x
            exact Fr_at F5 (by omega)⟩), fun y => RE_congr (hV y) (fun x _ b => rw45 x b)⟩, fun x hx => ⟨?_, ?_⟩, fun j hj q hq => ?_⟩
          · rw [base3, x1, bnd_mk, e_138 S4 hk k38', R4.2.2.2.1, ← em5]
          · show gI m5 247 k = nI (s a)
            rw [Fr_at F5 (by omega), Fr_at F4 (by unfold rfC rfP; omega), Fr_at F3 (by omega), Fr_at F2 (by unfold rfP; omega), g, if_neg (by omega), if_neg (by omega), if_neg (by omega), if_neg (by omega), if_pos ⟨rfl, rfl⟩]
          · show gI m5 248 k = nI c
            rw [Fr_at F5 (by omega), Fr_at F4 (by unfold rfC rfP; omega), Fr_at F3 (by omega), Fr_at F2 (by unfold rfP; omega), g, if_neg (by omega), if_neg (by omega), if_neg (by omega), if_pos ⟨rfl, rfl⟩]
          · show gI m5 249 k = nI cv
            rw [Fr_at F5 (by omega), Fr_at F4 (by unfold rfC rfP; omega), em3, gI_sI, if_pos ⟨rfl, rfl⟩]
          · show gI m5 250 k = nI c'
            rw [em5, gI_sI, if_neg (by omega), gI_sI, if_pos ⟨rfl, rfl⟩]
          · rw [(rw45 x (by omega)).1]
            show gI m2 251 x = gI m 251 x
            rw [Fr_at F2 (by unfold rfP; omega), Fr_at F1 (by omega)]
          · rw [(rw45 x (by omega)).2]
            show gI m2 252 x = gI m 252 x
            rw [Fr_at F2 (by unfold rfP; omega), Fr_at F1 (by omega)]
          · show gI m5 (247 + q) j = gI m (247 + q) j
            rw [Fr_at F5 (by omega), Fr_at F4 (by unfold rfC rfP; omega), Fr_at F3 (by omega), Fr_at F2 (by unfold rfP; omega), Fr_at F1 (by omega)]
        · rw [iT_neg c41]
          obtain ⟨m', x1, x2⟩ := k1 c41
          refine ⟨fun e' y => ?_, fun q U T y => (by cases y)⟩
          cases y
          exact cfail m' _ x1 x2
    · rw [iT_neg c40]
      obtain ⟨m', x1, x2⟩ := d1 c40
      refine ⟨fun e' y => ?_, fun q U T y => (by cases y)⟩
      cases y
      exact cfail m' _ x1 x2
  unfold sKl
  by_cases c110 : s a = 110
  · rw [iT_pos c110, bS_r]
    exact behind m1 (a + 1) c (fun _ => none) R1 (Fr_refl _ _) (by omega) (Nat.le_refl _) (fun y => absurd c110 y) (fun _ => rfl) (fun o => by
      rw [base]
      unfold f_X12_clause_104
      rw [if_pos (by rw [c1]; exact c110)])
  · rw [iT_neg c110]
    have tp0 : tpv m1 0 = nI 0 := rfl
    obtain ⟨f1, f2⟩ := e_valueR (r := 6) (Nat.le_refl _) (Nat.succ_pos a) R1 ⟨0, by omega, by unfold isTm; omega, by unfold isPl; omega, tp0⟩ (by rw [tp0]; decide)
    have base2 : ∀ o, F_X12_clause 225 m o = bnd (F_X12_value 225 m1 o) (fun _ m1 o1 => f_X12_clause_114 225 m1 o1) := fun o => by
      rw [base]
      unfold f_X12_clause_104
      rw [if_neg (by rw [c1]; exact c110)]
      simp (config := {decide := true}) only [shT_225 S1, ne_eq, not_false_eq_true, and_self, and_true, true_and, and_false, false_and, true_or, or_true, false_or, or_false, not_true_eq_false, if_false, if_true]
    have vfail : ∀ m' e, (∀ o, F_X12_value 225 m1 o = ((), m', o)) → RF m1 m' e → ∃ m5, (∀ o, F_X12_clause 225 m o = ((), m5, o)) ∧ LF m m5 e := fun m' e x1 x2 => by
      have S4 := Fr_Sh x2.1 S1
      obtain ⟨m5, y1, y2⟩ := cl_fail S4 hk (by rw [Fr_at x2.1 (by unfold rfA; omega)]; exact g38) (LF_RF F1L x2)
      exact ⟨m5, fun o => by rw [base2, x1, bnd_mk, y1], y2⟩
    cases hfa : sE s 6 (a + 1) with
    | inl e =>
      obtain ⟨m', x1, x2⟩ := f1 e hfa
      rw [bS_l]
      refine ⟨fun e' y => ?_, fun q U T y => (by cases y)⟩
      cases y
      exact vfail m' e x1 x2
    | inr qq =>
      obtain ⟨p, V⟩ := qq
      have hpn : a + 1 < p ∧ p ≤ n := sE_prog hz 6 (a + 1) han (p, V) hfa
      obtain ⟨k1, k2⟩ := f2 p V hfa
      rw [bS_r]
      by_cases c93 : s p = 93
      · rw [iT_neg (show ¬ s p = 40 by omega)]
        obtain ⟨m', x1, x2⟩ := k1 c93
        refine ⟨fun e' y => ?_, fun q U T y => (by cases y)⟩
        cases y
        exact vfail m' _ x1 x2
      · obtain ⟨m2, cv, x1, R2, F2, x3, x4, x5⟩ := k2 c93
        exact behind m2 p cv V R2 F2 (by omega) (Nat.le_of_lt x3) (fun _ => x5) (fun y => absurd y c110) (fun o => by rw [base2, x1, bnd_mk])
