/-! ===== the other side reads pieces and conditions ===== -/
theorem bnd_out {β : Type} (X : Unit × Mm × Prop) (K : Unit → Mm → Prop → β) : bnd (bnd X (fun _ m o => ((), m, o))) K = bnd X K := rfl
theorem bnd_out0 {β : Type} (X : Unit × Mm × Prop) (K : Int32 → Mm → Prop → β) : bnd (bnd X (fun _ m o => ((0 : Int32), m, o))) K = bnd X (fun _ m o => K 0 m o) := rfl
def SimP (N1 N : Nat) (m : Mm) (n : Nat) (s : Nat → Nat) (a c h k : Nat) (x : PRs VC) : Prop := (∀ e, x = .inl e → ∃ m', (∀ o, PSt N1 N m o = ((), m', o)) ∧ RF m m' e) ∧ ∀ p T, x = .inr (p, T) → (s p = 93 ∧ ∃ m', (∀ o, PSt N1 N m o = ((), m', o)) ∧ RF m m' (1, p)) ∨ (∃ m' b N2 N' c', b ≤ 1 ∧ k < N2 ∧ n + 4 ≤ p + N' + b ∧ (∀ o, PSt N1 N m o = ESt b N2 N' m' o) ∧ RS m' n s p c' h k ∧ gI m' 225 42 = 0 ∧ Fr (rfC h c) m m' ∧ c < c' ∧ c' + a ≤ c + p ∧ RE (rwD m') c c' (tV T))
def SimQ (N1 N : Nat) (m : Mm) (n : Nat) (s : Nat → Nat) (a c h k : Nat) (x : PRs VC) : Prop := (∀ e, x = .inl e → ∃ m', (∀ o, PSt N1 N m o = ((), m', o)) ∧ RF m m' e) ∧ ∀ p T, x = .inr (p, T) → (¬ s p = 41 → ∃ m', (∀ o, PSt N1 N m o = ((), m', o)) ∧ RF m m' (1, p)) ∧ (s p = 41 → ∃ m' N' c', (∀ o, PSt N1 N m o = JSt N' m' o) ∧ n + 3 ≤ p + N' ∧ RS m' n s p c' h k ∧ gI m' 225 42 = 0 ∧ Fr (rfC h c) m m' ∧ c < c' ∧ c' + a ≤ c + p ∧ RE (rwD m') c c' (tV T))
def Pt (m : Mm) (h : Nat) : Prop := ∃ t, t < 256 ∧ ¬ isTm t ∧ ¬ isPl t ∧ t ≠ 91 ∧ tpv m h = nI t
theorem Pt_B {m : Mm} {h : Nat} (hP : Pt m h) : Bt m h ∧ ¬ tpv m h = 91 := by
  obtain ⟨t, h1, h2, h3, h4, h5⟩ := hP
  exact ⟨⟨t, h1, h2, h3, h5⟩, fun y => by rw [h5] at y; exact h4 ((nI_eq (b := 91) (by omega) (by omega)).mp y)⟩
theorem Pt_top {m : Mm} {h ch : Nat} (hc : ch < 256) (h1 : ¬ isTm ch) (h2 : ¬ isPl ch) (h3 : ch ≠ 91) (hp : gI m 253 h = nI ch) : Pt m (h + 1) := ⟨ch, hc, h1, h2, h3, by unfold tpv; rw [if_neg (by omega), Nat.add_sub_cancel]; exact hp⟩
theorem p_bad {m : Mm} (hS : Sh m) (h37 : ¬ gI m 225 37 = 0) (N : Nat) (o : Prop) : f_X12_pieceOfC_0 (N + 1) 225 m o = ((), m, o) := by
  show f_X12_pieceOfC_0b (f_X12_pieceOfC_0 N) 225 m o = _
  unfold f_X12_pieceOfC_0b
  rw [e_bad hS h37, bnd_mk]
  unfold f_X12_pieceOfC_4
  rw [if_pos rfl]
  unfold f_X12_pieceOfC_32
  rw [e_bad hS h37, bnd_mk]
  unfold f_X12_pieceOfC_36
  rw [if_pos rfl]
  unfold f_X12_pieceOfC_43
  rw [e_bad hS h37, bnd_mk]
  unfold f_X12_pieceOfC_47
  rw [if_pos rfl]
  simp (config := {decide := true}) only [shT_225 hS, ne_eq, not_false_eq_true, and_self, and_true, true_and, and_false, false_and, true_or, or_true, false_or, or_false, not_true_eq_false, if_false, if_true]
theorem e_pieceR {n : Nat} {s : Nat → Nat} {r : Nat} (hr : r ≤ 6) {rcs : Option (Nat → PRs VC)} (h0 : r = 0 → rcs = none) (hN : 0 < r → ∃ f, rcs = some f ∧ (∀ a, a ≤ n → prg n a (f a)) ∧ (∀ N1 N m a c h, 0 < a → 0 < h → RS m n s a c h (6 - r + 1) → gI m 225 42 = 0 → Pt m h → n < a + N1 → n + 3 ≤ a + N → SimP N1 N m n s a c h (6 - r + 1) (f a)) ∧ ∀ N1 N m a c h, 0 < a → RS m n s a c (h + 1) (6 - r + 1) → gI m 225 42 = 0 → gI m 253 h = nI 40 → n < a + N1 → n + 3 ≤ a + N → SimQ N1 N m n s a c (h + 1) (6 - r + 1) (sCl s f 200 none none a)) {N1 N : Nat} {m : Mm} {a c h : Nat} (ha : 0 < a) (hh : 0 < h) (hR : RS m n s a c h (6 - r)) (h42 : gI m 225 42 = 0) (hPt : Pt m h) (hN1 : n < a + N1) (hN2 : n + 3 ≤ a + N) : SimP N1 N m n s a c h (6 - r) (sPc s r rcs a) := by
  obtain ⟨hB, h35, h37, h39, h40, h41, b1, b2, b3⟩ := id hR
  have hS := hB.1
  have hn := hB.2.2.1
  have hz := hB.2.2.2.2
  have hs := RB_256 hB a
  obtain ⟨N, rfl⟩ : ∃ N', N = N' + 1 := ⟨N - 1, by omega⟩
  obtain ⟨N1, rfl⟩ : ∃ N', N1 = N' + 1 := ⟨N1 - 1, by omega⟩
  have base : ∀ o, f_X12_pieceOfC_0 (N1 + 1) 225 m o = f_X12_pieceOfC_11 (f_X12_pieceOfC_0 N1) 225 (nI (s a)) m o := fun o => by
    show f_X12_pieceOfC_0b (f_X12_pieceOfC_0 N1) 225 m o = _
    unfold f_X12_pieceOfC_0b
    rw [e_good hS h37, bnd_mk]
    unfold f_X12_pieceOfC_4
    rw [if_neg (by decide), e_here hR, bnd_mk]
    simp (config := {decide := true}) only [shT_225 hS, ne_eq, not_false_eq_true, and_self, and_true, true_and, and_false, false_and, true_or, or_true, false_or, or_false, not_true_eq_false, if_false, if_true]
  have e33 : (nI (s a) = 33) = (s a = 33) := propext (nI_eq (b := 33) (by omega) (by omega))
  have e40 : (nI (s a) = 40) = (s a = 40) := propext (nI_eq (b := 40) (by omega) (by omega))
  -- a sign that opens
  have opn : (s a = 33 ∨ s a = 40) → ∀ m1, (∀ o, F_X12_opens 225 m o = ((), m1, o)) → ∀ o, f_X12_pieceOfC_0 (N1 + 1) 225 m o = f_X12_pieceOfC_0 N1 225 m1 o := fun hsa m1 ho o => by
    have e25 : ∀ o, f_X12_pieceOfC_25 (f_X12_pieceOfC_0 N1) 225 m o = f_X12_pieceOfC_0 N1 225 m1 o := fun o => by
      unfold f_X12_pieceOfC_25
      rw [ho, bnd_mk]
      unfold f_X12_pieceOfC_29
      simp (config := {decide := true}) only [shT_225 hS, ne_eq, not_false_eq_true, and_self, and_true, true_and, and_false, false_and, true_or, or_true, false_or, or_false, not_true_eq_false, if_false, if_true]
    rw [base]
    unfold f_X12_pieceOfC_11
    rcases hsa with y | y
    · rw [if_pos (by rw [e33]; exact y), e25]
    · rw [if_neg (by rw [e33]; omega), e_here hR, bnd_mk]
      unfold f_X12_pieceOfC_20
      rw [if_pos (by rw [e40]; exact y), e25]
      simp (config := {decide := true}) only [shT_225 hS, ne_eq, not_false_eq_true, and_self, and_true, true_and, and_false, false_and, true_or, or_true, false_or, or_false, not_true_eq_false, if_false, if_true]
  have deep : (s a = 33 ∨ s a = 40) → a < n → r = 0 → ∃ m', (∀ o, PSt (N1 + 1) (N + 1) m o = ((), m', o)) ∧ RF m m' (5, a) := fun hsa han r0 => by
    obtain ⟨m1, o1, o2⟩ := (e_opens hR han).1 (by omega)
    have S1 := (RB_Fr hB o2.1).1
    obtain ⟨N1, rfl⟩ : ∃ N', N1 = N' + 1 := ⟨N1 - 1, by omega⟩
    refine ⟨m1, fun o => ?_, o2⟩
    unfold PSt
    rw [opn hsa m1 o1, p_bad S1 (RF_bad o2), bnd_mk, c_fail S1 (RF_bad o2)]
  by_cases c33 : s a = 33
  · have han : a < n := lt_of_sg hz (by omega)
    by_cases r0 : r = 0
    · obtain rfl := h0 r0
      have eS : sPc s r none a = .inl (5, a) := by unfold sPc; rw [iT_pos c33]
      rw [eS]
      refine ⟨fun e y => ?_, fun p T y => (by cases y)⟩
      cases y
      exact deep (.inl c33) han r0
    · obtain ⟨f, rfl, hp, hf, -⟩ := hN (by omega)
      obtain ⟨m1, o1, o2, o3, o4, -, o6⟩ := (e_opens hR han).2 (by omega)
      have eS : sPc s r (some f) a = bS (f (a + 1)) (fun p T => .inr (p, tNot T)) := by unfold sPc; rw [iT_pos c33]
      have o4 : gI m1 253 h = nI 33 := by rw [o4, c33]
      obtain ⟨g1, g2⟩ := hf N1 (N + 1) m1 (a + 1) c (h + 1) (by omega) (by omega) o2 (by rw [o6]; exact h42) (Pt_top (by omega) (by unfold isTm; omega) (by unfold isPl; omega) (by omega) o4) (by omega) (by omega)
      have base2 : ∀ o, PSt (N1 + 1) (N + 1) m o = PSt N1 (N + 1) m1 o := fun o => by
        unfold PSt
        rw [opn (.inl c33) m1 o1]
      have F01 : Fr rfA m m1 := Fr_mono o3 (fun q i y => rfP_A y)
      rw [eS]
      cases hfa : f (a + 1) with
      | inl e =>
        obtain ⟨m', a1, a2⟩ := g1 e hfa
        rw [bS_l]
        refine ⟨fun e' y => ?_, fun p T y => (by cases y)⟩
        cases y
        exact ⟨m', fun o => by rw [base2]; exact a1 o, RF_pre F01 a2⟩
      | inr q =>
        obtain ⟨p, T⟩ := q
        have hpn : a + 1 < p ∧ p ≤ n := hp (a + 1) han (p, T) hfa
        rw [bS_r]
        refine ⟨fun e y => (by cases y), fun p' T' y => ?_⟩
        cases y
        rcases g2 p T hfa with ⟨y93, m', a1, a2⟩ | ⟨m2, b, N2, N', c', q1, q2, q3, q4, q5, q6, q7, q8, q9, q10⟩
        · exact .inl ⟨y93, m', fun o => by rw [base2]; exact a1 o, RF_pre F01 a2⟩
        · obtain ⟨N2, rfl⟩ : ∃ N', N2 = N' + 1 := ⟨N2 - 1, by omega⟩
          have t33 : gI m2 253 h = nI 33 := by rw [Fr_at q7 (by unfold rfC rfP; omega)]; exact o4
          obtain ⟨m3, u1, u2, u3, u4⟩ := e_not q5 t33 (by omega)
          have rows : ∀ x, x < c' → rwD m3 4 x = rwD m2 4 x ∧ rwD m3 5 x = rwD m2 5 x := fun x hx => by
            constructor
            · show gI m3 251 x = gI m2 251 x
              exact Fr_at u3 (by omega)
            · show gI m3 252 x = gI m2 252 x
              exact Fr_at u3 (by omega)
          refine .inr ⟨m3, b, N2, N', c' + 1, q1, by omega, q3, fun o => by rw [base2, q4, u1], u2, by rw [Fr_at u3 (by omega)]; exact q6, Fr_trans (Fr_mono o3 (fun q i y => .inl y)) (Fr_trans (Fr_mono q7 (fun q i y => rfC_le y (by omega) (Nat.le_refl _))) (Fr_mono u3 (fun q i y => by unfold rfC rfP; omega))), by omega, by omega, RE_not (RE_congr q10 (fun x _ b => rows x b)) u4⟩
  · by_cases c40 : s a = 40
    · have han : a < n := lt_of_sg hz (by omega)
      by_cases r0 : r = 0
      · obtain rfl := h0 r0
        have eS : sPc s r none a = .inl (5, a) := by unfold sPc; rw [iT_neg c33, iT_pos c40]
        rw [eS]
        refine ⟨fun e y => ?_, fun p T y => (by cases y)⟩
        cases y
        exact deep (.inr c40) han r0
      · obtain ⟨f, rfl, hp, -, hf⟩ := hN (by omega)
        obtain ⟨m1, o1, o2, o3, o4, -, o6⟩ := (e_opens hR han).2 (by omega)
        have eS : sPc s r (some f) a = bS (sCl s f 200 none none (a + 1)) (fun p T => iT (s p = 41) (.inr (p + 1, T)) (.inl (1, p))) := by unfold sPc; rw [iT_neg c33, iT_pos c40]
        have o4 : gI m1 253 h = nI 40 := by rw [o4, c40]
        obtain ⟨g1, g2⟩ := hf N1 (N + 1) m1 (a + 1) c h (by omega) o2 (by rw [o6]; exact h42) o4 (by omega) (by omega)
        have base2 : ∀ o, PSt (N1 + 1) (N + 1) m o = PSt N1 (N + 1) m1 o := fun o => by
          unfold PSt
          rw [opn (.inr c40) m1 o1]
        have F01 : Fr rfA m m1 := Fr_mono o3 (fun q i y => rfP_A y)
        rw [eS]
        cases hfa : sCl s f 200 none none (a + 1) with
        | inl e =>
          obtain ⟨m', a1, a2⟩ := g1 e hfa
          rw [bS_l]
          refine ⟨fun e' y => ?_, fun p T y => (by cases y)⟩
          cases y
          exact ⟨m', fun o => by rw [base2]; exact a1 o, RF_pre F01 a2⟩
        | inr q =>
          obtain ⟨p, T⟩ := q
          have hpn : a + 1 < p ∧ p ≤ n := sCl_prog hz hp 200 none none (a + 1) han (p, T) hfa
          obtain ⟨k1, k2⟩ := g2 p T hfa
          rw [bS_r]
          by_cases c41 : s p = 41
          · rw [iT_pos c41]
            obtain ⟨m2, N', c', q4, q3, q5, q6, q7, q8, q9, q10⟩ := k2 c41
            have hpn' : p < n := lt_of_sg hz (by omega)
            obtain ⟨hB2, k35, k37, k39, k40, k41, d1, d2, d3⟩ := id q5
            have S2 := hB2.1
            have em : ∃ m3, m3 = sI (sI (sI (sI m2 225 41 (nI h)) 225 40 (nI (6 - r))) 225 35 (nI (p + 1))) 225 42 0 := ⟨_, rfl⟩
            obtain ⟨m3, em⟩ := em
            have F3 : Fr (rfC h c) m2 m3 := by rw [em]; exact Fr_sI (Fr_sI (Fr_sI (Fr_sI (Fr_refl _ m2) (by unfold rfC rfP; omega) _) (by unfold rfC rfP; omega) _) (by unfold rfC rfP; omega) _) (by unfold rfC rfP; omega) _
            have B3 := RB_Fr hB2 (Fr_mono F3 (fun q i y => rfC_A y))
            have S3 := B3.1
            have R3 : RS m3 n s (p + 1) c' h (6 - r) := ⟨B3, by rw [em, gI_sI, if_neg (by omega), gI_sI, if_pos ⟨rfl, rfl⟩], by rw [em, gI_sI, if_neg (by omega), gI_sI, if_neg (by omega), gI_sI, if_neg (by omega), gI_sI, if_neg (by omega)]; exact k37, by rw [em, gI_sI, if_neg (by omega), gI_sI, if_neg (by omega), gI_sI, if_neg (by omega), gI_sI, if_neg (by omega)]; exact k39, by rw [em, gI_sI, if_neg (by omega), gI_sI, if_neg (by omega), gI_sI, if_pos ⟨rfl, rfl⟩], by rw [em, gI_sI, if_neg (by omega), gI_sI, if_neg (by omega), gI_sI, if_neg (by omega), gI_sI, if_pos ⟨rfl, rfl⟩], hpn', by omega, by omega⟩
            have g42 : gI m3 225 42 = 0 := by rw [em, gI_sI, if_pos ⟨rfl, rfl⟩]
            refine ⟨fun e y => (by cases y), fun p' T' y => ?_⟩
            cases y
            refine .inr ⟨m3, 0, 1000, N', c', by omega, by omega, by omega, fun o => ?_, R3, g42, Fr_trans (Fr_mono o3 (fun q i y => .inl y)) (Fr_trans (Fr_mono q7 (fun q i y => rfC_le y (by omega) (Nat.le_refl _))) F3), q8, by omega, RE_congr q10 (fun x _ _ => ⟨by
              show gI m3 251 x = gI m2 251 x
              rw [em, gI_sI, if_neg (by omega), gI_sI, if_neg (by omega), gI_sI, if_neg (by omega), gI_sI, if_neg (by omega)], by
              show gI m3 252 x = gI m2 252 x
              rw [em, gI_sI, if_neg (by omega), gI_sI, if_neg (by omega), gI_sI, if_neg (by omega), gI_sI, if_neg (by omega)]⟩)⟩
            have h41' : nI (h + 1) - 1 = nI h := by rw [nI_sub1 (by omega), Nat.add_sub_cancel]
            have h40' : nI (6 - r + 1) - 1 = nI (6 - r) := by rw [nI_sub1 (by omega), Nat.add_sub_cancel]
            have w40 : gI (sI m2 225 41 (nI h)) 225 40 = nI (6 - r + 1) := by rw [gI_sI, if_neg (by omega)]; exact k40
            have w35 : gI (sI (sI m2 225 41 (nI h)) 225 40 (nI (6 - r))) 225 35 = nI p := by rw [gI_sI, if_neg (by omega), gI_sI, if_neg (by omega)]; exact k35
            have w41 : gI (sI (sI (sI m2 225 41 (nI h)) 225 40 (nI (6 - r))) 225 35 (nI (p + 1))) 225 41 = nI h := by rw [gI_sI, if_neg (by omega), gI_sI, if_neg (by omega), gI_sI, if_pos ⟨rfl, rfl⟩]
            have nh : ¬ nI h = 0 := fun y => absurd ((nI_eq (b := 0) (by omega) (by omega)).mp y) (by omega)
            have eG : ∀ o, f_X12_goesBehind_61 225 m2 o = bnd (f_X12_ends_0 1000 225 m3 o) (fun _ m o => ((0 : Int32), m, o)) := fun o => by
              unfold f_X12_goesBehind_61
              rw [k41, h41']
              unfold f_X12_goesBehind_71
              rw [w40, h40']
              unfold f_X12_goesBehind_81
              rw [w35, nI_1]
              unfold f_X12_goesBehind_91
              rw [w41, if_neg nh]
              unfold f_X12_goesBehind_104
              rw [← em]
              unfold f_X12_goesBehind_107
              rw [if_pos g42]
              unfold F_X12_ends f_X12_goesBehind_118
              simp (config := {decide := true}) only [gT_sI, shT_225 S2, shT_225 S3, ne_eq, not_false_eq_true, and_self, and_true, true_and, and_false, false_and, true_or, or_true, false_or, or_false, not_true_eq_false, if_false, if_true]
            rw [base2, q4]
            unfold JSt
            rw [eG, bnd_out0]
            unfold ESt KSt
            simp only [if_neg (show ¬ (0 = 1) by omega)]
          · rw [iT_neg c41]
            obtain ⟨m', a1, a2⟩ := k1 c41
            refine ⟨fun e y => ?_, fun p' T' y => (by cases y)⟩
            cases y
            exact ⟨m', fun o => by rw [base2]; exact a1 o, RF_pre F01 a2⟩
    · have eS : sPc s r rcs a = bS (sE s r a) (fun p V => iT (isCmp (s p)) (bS (sE s r (p + 1)) (fun q W => .inr (q, tCmp (s p) V W))) (.inl (1, p))) := by unfold sPc; rw [iT_neg c33, iT_neg c40]
      obtain ⟨hBt, h91⟩ := Pt_B hPt
      obtain ⟨f1, f2⟩ := e_valueR hr ha hR hBt h91
      have base2 : ∀ o, f_X12_pieceOfC_0 (N1 + 1) 225 m o = bnd (F_X12_value 225 m o) (fun _ m1 o1 => f_X12_pieceOfC_43 225 m1 o1) := fun o => by
        rw [base]
        unfold f_X12_pieceOfC_11
        rw [if_neg (by rw [e33]; exact c33), e_here hR, bnd_mk]
        unfold f_X12_pieceOfC_20
        rw [if_neg (by rw [e40]; exact c40)]
        unfold f_X12_pieceOfC_32
        rw [e_good hS h37, bnd_mk]
        unfold f_X12_pieceOfC_36
        rw [if_neg (by decide)]
        simp (config := {decide := true}) only [shT_225 hS, ne_eq, not_false_eq_true, and_self, and_true, true_and, and_false, false_and, true_or, or_true, false_or, or_false, not_true_eq_false, if_false, if_true]
      have b43 : ∀ m1, Sh m1 → ¬ gI m1 225 37 = 0 → ∀ o, f_X12_pieceOfC_43 225 m1 o = ((), m1, o) := fun m1 S1 q o => by
        unfold f_X12_pieceOfC_43
        rw [e_bad S1 q, bnd_mk]
        unfold f_X12_pieceOfC_47
        rw [if_pos rfl]
        simp (config := {decide := true}) only [shT_225 S1, ne_eq, not_false_eq_true, and_self, and_true, true_and, and_false, false_and, true_or, or_true, false_or, or_false, not_true_eq_false, if_false, if_true]
      have vfail : ∀ m' e, (∀ o, F_X12_value 225 m o = ((), m', o)) → RF m m' e → ∀ o, PSt (N1 + 1) (N + 1) m o = ((), m', o) := fun m' e a1 a2 o => by
        have S1 := (RB_Fr hB a2.1).1
        have eP : ∀ o, f_X12_pieceOfC_0 (N1 + 1) 225 m o = ((), m', o) := fun o => by
          rw [base2, a1, bnd_mk, b43 m' S1 (RF_bad a2)]
        unfold PSt
        rw [eP, bnd_mk, c_fail S1 (RF_bad a2)]
      rw [eS]
      cases hfa : sE s r a with
      | inl e =>
        obtain ⟨m', a1, a2⟩ := f1 e hfa
        rw [bS_l]
        refine ⟨fun e' y => ?_, fun p T y => (by cases y)⟩
        cases y
        exact ⟨m', vfail m' e a1 a2, a2⟩
      | inr q =>
        obtain ⟨p, V⟩ := q
        have hpn : a < p ∧ p ≤ n := sE_prog hz r a b1 (p, V) hfa
        obtain ⟨k1, k2⟩ := f2 p V hfa
        rw [bS_r]
        by_cases c93 : s p = 93
        · rw [iT_neg (show ¬ isCmp (s p) by unfold isCmp; omega)]
          obtain ⟨m', a1, a2⟩ := k1 c93
          refine ⟨fun e y => ?_, fun p T y => (by cases y)⟩
          cases y
          exact ⟨m', vfail m' _ a1 a2, a2⟩
        · obtain ⟨m1, c1, a1, R1, F1, x1, x2, x3⟩ := k2 c93
          have S1 := R1.1.1
          have hs1 := RB_256 R1.1 p
          have base3 : ∀ o, f_X12_pieceOfC_0 (N1 + 1) 225 m o = bnd (F_X12_isSign (nI (s p)) m1 o) (fun v1 m1 o1 => f_X12_pieceOfC_60 225 (nI (s p)) v1 m1 o1) := fun o => by
            rw [base2, a1, bnd_mk]
            unfold f_X12_pieceOfC_43
            rw [e_good S1 R1.2.2.1, bnd_mk]
            unfold f_X12_pieceOfC_47
            rw [if_neg (by decide), e_here R1, bnd_mk]
            unfold f_X12_pieceOfC_55
            simp (config := {decide := true}) only [shT_225 S1, ne_eq, not_false_eq_true, and_self, and_true, true_and, and_false, false_and, true_or, or_true, false_or, or_false, not_true_eq_false, if_false, if_true]
          by_cases cc : isCmp (s p)
          · rw [iT_pos cc]
            have hpn' : p < n := lt_of_sg hz (by unfold isCmp at cc; omega)
            obtain ⟨m2, u1, u2, u3, u4, -, u6⟩ := e_puts R1 hpn' (nI (s p))
            have S2 := u2.1.1
            have P2 : Pt m2 (h + 1) := Pt_top hs1 (by unfold isCmp at cc; unfold isTm; omega) (by unfold isCmp at cc; unfold isPl; omega) (by unfold isCmp at cc; omega) u4
            obtain ⟨g1, g2⟩ := e_valueR hr (Nat.succ_pos p) u2 (Pt_B P2).1 (Pt_B P2).2
            have F02 : Fr (rfP h c) m m2 := Fr_trans F1 (Fr_mono u3 (fun q i y => rfP_le y (Nat.le_refl _) (by omega)))
            have base4 : ∀ o, f_X12_pieceOfC_0 (N1 + 1) 225 m o = bnd (F_X12_value 225 m2 o) (fun _ m1 o1 => f_X12_pieceOfC_82 225 m1 o1) := fun o => by
              rw [base3, (e_isSign hs1 m1 _).1 cc, bnd_mk]
              unfold f_X12_pieceOfC_60
              rw [if_neg (by decide), u1, bnd_mk]
              unfold f_X12_pieceOfC_78
              simp (config := {decide := true}) only [shT_225 S1, shT_225 S2, ne_eq, not_false_eq_true, and_self, and_true, true_and, and_false, false_and, true_or, or_true, false_or, or_false, not_true_eq_false, if_false, if_true]
            have vfail2 : ∀ m' e, (∀ o, F_X12_value 225 m2 o = ((), m', o)) → RF m2 m' e → ∀ o, PSt (N1 + 1) (N + 1) m o = ((), m', o) := fun m' e a1 a2 o => by
              have S1 := (RB_Fr u2.1 a2.1).1
              have eP : ∀ o, f_X12_pieceOfC_0 (N1 + 1) 225 m o = ((), m', o) := fun o => by
                rw [base4, a1, bnd_mk]
                unfold f_X12_pieceOfC_82
                rw [e_bad S1 (RF_bad a2), bnd_mk]
                unfold f_X12_pieceOfC_86
                rw [if_pos rfl]
                simp (config := {decide := true}) only [shT_225 S1, ne_eq, not_false_eq_true, and_self, and_true, true_and, and_false, false_and, true_or, or_true, false_or, or_false, not_true_eq_false, if_false, if_true]
              unfold PSt
              rw [eP, bnd_mk, c_fail S1 (RF_bad a2)]
            have F02A := Fr_mono F02 (fun q i y => rfP_A y)
            cases hfb : sE s r (p + 1) with
            | inl e =>
              obtain ⟨m', d1, d2⟩ := g1 e hfb
              rw [bS_l]
              refine ⟨fun e' y => ?_, fun p T y => (by cases y)⟩
              cases y
              exact ⟨m', vfail2 m' e d1 d2, RF_pre F02A d2⟩
            | inr q2 =>
              obtain ⟨p2, W⟩ := q2
              have hpn2 : p + 1 < p2 ∧ p2 ≤ n := sE_prog hz r (p + 1) hpn' (p2, W) hfb
              obtain ⟨l1, l2⟩ := g2 p2 W hfb
              rw [bS_r]
              refine ⟨fun e y => (by cases y), fun p' T' y => ?_⟩
              cases y
              by_cases d93 : s p2 = 93
              · obtain ⟨m', d1, d2⟩ := l1 d93
                exact .inl ⟨d93, m', vfail2 m' _ d1 d2, RF_pre F02A d2⟩
              · obtain ⟨m3, c2, d1, R3, F3, y1, y2, y3⟩ := l2 d93
                have S3 := R3.1.1
                have t3 : gI m3 253 h = nI (s p) := by rw [Fr_at F3 (by unfold rfP; omega)]; exact u4
                have tp3 : tpv m3 (h + 1) = nI (s p) := by unfold tpv; rw [if_neg (by omega), Nat.add_sub_cancel]; exact t3
                obtain ⟨m4, v1, v2, v3, v4, v5⟩ := e_emit S3 R3.2.2.1 (show c2 < 200 by omega) R3.2.2.2.1 (nI (s p)) 0
                have g41 : gI m4 225 41 = nI (h + 1) := by rw [Fr_at v2 (by omega)]; exact R3.2.2.2.2.2.1
                have S4 := Fr_Sh v2 S3
                have F5 : Fr (rfP h c2) m3 (sI m4 225 41 (nI h)) := Fr_sI (Fr_mono v2 (fun q i y => by unfold rfP; omega)) (by unfold rfP; omega) _
                have R5 : RS (sI m4 225 41 (nI h)) n s p2 (c2 + 1) h (6 - r) := ⟨RB_Fr R3.1 (Fr_mono F5 (fun q i y => rfP_A y)), by rw [gI_sI, if_neg (by omega), Fr_at v2 (by omega)]; exact R3.2.1, by rw [gI_sI, if_neg (by omega), Fr_at v2 (by omega)]; exact R3.2.2.1, by rw [gI_sI, if_neg (by omega)]; exact v3, by rw [gI_sI, if_neg (by omega), Fr_at v2 (by omega)]; exact R3.2.2.2.2.1, by rw [gI_sI, if_pos ⟨rfl, rfl⟩], hpn2.2, by omega, by omega⟩
                have F05 : Fr (rfP h c) m (sI m4 225 41 (nI h)) := Fr_trans F02 (Fr_trans (Fr_mono F3 (fun q i y => rfP_le y (by omega) (by omega))) (Fr_mono F5 (fun q i y => rfP_le y (Nat.le_refl _) (by omega))))
                have rowsV : ∀ x, x < c1 → rwD (sI m4 225 41 (nI h)) 4 x = rwD m1 4 x ∧ rwD (sI m4 225 41 (nI h)) 5 x = rwD m1 5 x := fun x hx => by
                  constructor
                  · show gI (sI m4 225 41 (nI h)) 251 x = gI m1 251 x
                    rw [gI_sI, if_neg (by omega), Fr_at v2 (by omega), Fr_at F3 (by unfold rfP; omega), Fr_at u3 (by unfold rfP; omega)]
                  · show gI (sI m4 225 41 (nI h)) 252 x = gI m1 252 x
                    rw [gI_sI, if_neg (by omega), Fr_at v2 (by omega), Fr_at F3 (by unfold rfP; omega), Fr_at u3 (by unfold rfP; omega)]
                have rowsW : ∀ x, x < c2 → rwD (sI m4 225 41 (nI h)) 4 x = rwD m3 4 x ∧ rwD (sI m4 225 41 (nI h)) 5 x = rwD m3 5 x := fun x hx => by
                  constructor
                  · show gI (sI m4 225 41 (nI h)) 251 x = gI m3 251 x
                    rw [gI_sI, if_neg (by omega), Fr_at v2 (by omega)]
                  · show gI (sI m4 225 41 (nI h)) 252 x = gI m3 252 x
                    rw [gI_sI, if_neg (by omega), Fr_at v2 (by omega)]
                have opE : rwD (sI m4 225 41 (nI h)) 4 c2 = nI (s p) := by
                  show gI (sI m4 225 41 (nI h)) 251 c2 = nI (s p)
                  rw [gI_sI, if_neg (by omega)]
                  exact v4
                refine .inr ⟨sI m4 225 41 (nI h), 1, 1000, N + 1, c2 + 1, Nat.le_refl _, by omega, by omega, fun o => ?_, R5, by rw [Fr_at F05 (by unfold rfP; omega)]; exact h42, Fr_mono F05 (fun q i y => .inl y), by omega, by omega, (RE_op (RE_congr x3 (fun x _ b => rowsV x b)) (RE_congr y3 (fun x _ b => rowsW x b)) (.inr cc) opE).2 cc⟩
                have eP : ∀ o, f_X12_pieceOfC_0 (N1 + 1) 225 m o = bnd (f_X12_ends_0 1000 225 (sI m4 225 41 (nI h)) o) (fun _ m o => ((), m, o)) := fun o => by
                  rw [base4, d1, bnd_mk]
                  unfold f_X12_pieceOfC_82
                  rw [e_good S3 R3.2.2.1, bnd_mk]
                  unfold f_X12_pieceOfC_86
                  rw [if_neg (by decide), e_topR S3 (by have := R3.2.2.2.2.2.2.2.2; omega) R3.2.2.2.2.2.1, bnd_mk, tp3]
                  unfold f_X12_pieceOfC_95
                  rw [v1, bnd_mk]
                  unfold f_X12_pieceOfC_99
                  rw [g41, nI_sub1 (by omega), Nat.add_sub_cancel]
                  unfold f_X12_pieceOfC_109 F_X12_ends f_X12_pieceOfC_113
                  simp (config := {decide := true}) only [gT_sI, shT_225 S3, shT_225 S4, ne_eq, not_false_eq_true, and_self, and_true, true_and, and_false, false_and, true_or, or_true, false_or, or_false, not_true_eq_false, if_false, if_true]
                unfold PSt
                rw [eP, bnd_out]
                unfold ESt KSt
                simp only [if_pos]
          · rw [iT_neg cc]
            refine ⟨fun e y => ?_, fun p T y => (by cases y)⟩
            cases y
            have rf := RF_here R1 (f := 1) (by omega) (by omega)
            have S2 := (RB_Fr R1.1 rf.1).1
            have hw : ∀ o, F_X12_wrongs 225 1 (nI p) m1 o = ((), sI m1 225 37 (bdv (1, p)), o) := fun o => e_wrongs S1 R1.2.2.1 1 p o
            have eP : ∀ o, f_X12_pieceOfC_0 (N1 + 1) 225 m o = ((), sI m1 225 37 (bdv (1, p)), o) := fun o => by
              rw [base3, (e_isSign hs1 m1 _).2 cc, bnd_mk]
              unfold f_X12_pieceOfC_60
              rw [if_pos rfl, R1.2.1, hw, bnd_mk]
              unfold f_X12_pieceOfC_72
              simp (config := {decide := true}) only [shT_225 S1, ne_eq, not_false_eq_true, and_self, and_true, true_and, and_false, false_and, true_or, or_true, false_or, or_false, not_true_eq_false, if_false, if_true]
            refine ⟨_, fun o => ?_, RF_pre (Fr_mono F1 (fun q i y => rfP_A y)) rf⟩
            unfold PSt
            rw [eP, bnd_mk, c_fail S2 (RF_bad rf)]
