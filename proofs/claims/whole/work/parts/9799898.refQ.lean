/-! ===== the other side reads conditions ===== -/
theorem c_on {m : Mm} (hS : Sh m) (h37 : gI m 225 37 = 0) (h42 : gI m 225 42 = 0) (N : Nat) (o : Prop) : f_X12_condition_37 (N + 1) 225 1 m o = PSt 1000 N m o := by
  show f_X12_condition_37b (f_X12_condition_37 N) 225 1 m o = _
  unfold f_X12_condition_37b
  rw [e_good hS h37, bnd_mk]
  unfold f_X12_condition_41
  rw [if_neg (by decide), if_pos h42, if_neg (by decide)]
  unfold PSt F_X12_pieceOfC
  simp (config := {decide := true}) only [shT_225 hS, ne_eq, not_false_eq_true, and_self, and_true, true_and, and_false, false_and, true_or, or_true, false_or, or_false, not_true_eq_false, if_false, if_true]
def plQ (H : Nat) (O A : Option VC) (m : Mm) : Prop := (∀ q, O = some q → gI m 253 H = nI 124) ∧ ∀ q, A = some q → gI m 253 (H + pc O) = nI 38
/-- the top while a condition is read -/
theorem top_C {m : Mm} {h : Nat} {O A : Option VC} (h40 : gI m 253 h = nI 40) (hp : plQ (h + 1) O A m) : ∃ ch, (ch = 40 ∨ ch = 124 ∨ ch = 38) ∧ tpv m (h + 1 + pc O + pc A) = nI ch ∧ (A = none → ch ≠ 38) ∧ (A = none → O = none → ch = 40) := by
  have key : ∀ H, 0 < H → tpv m H = gI m 253 (H - 1) := fun H hH => by unfold tpv; rw [if_neg (by omega)]
  cases hA : A with
  | some q =>
    refine ⟨38, by omega, ?_, fun y => (by cases y), fun y => (by cases y)⟩
    show tpv m (h + 1 + pc O + 1) = nI 38
    rw [key _ (by omega), Nat.add_sub_cancel]
    exact hp.2 q hA
  | none =>
    cases hO : O with
    | some q =>
      refine ⟨124, by omega, ?_, fun _ => by omega, fun _ y => (by cases y)⟩
      show tpv m (h + 1 + 1) = nI 124
      rw [key _ (by omega), Nat.add_sub_cancel]
      exact hp.1 q hO
    | none =>
      refine ⟨40, by omega, ?_, fun _ => by omega, fun _ _ => rfl⟩
      show tpv m (h + 1) = nI 40
      rw [key _ (by omega), Nat.add_sub_cancel]
      exact h40
theorem l_condR {n : Nat} {s : Nat → Nat} {kk : Nat} (hkk : kk ≤ 6) {f : Nat → PRs VC} (hpr : ∀ a, a ≤ n → prg n a (f a)) (hf : ∀ N1 N m a c h, 0 < a → 0 < h → RS m n s a c h kk → gI m 225 42 = 0 → Pt m h → n < a + N1 → n + 3 ≤ a + N → SimP N1 N m n s a c h kk (f a)) {m0 : Mm} {c0 a0 h : Nat} (hc0 : c0 ≤ a0) : ∀ (k N1 N : Nat) (O A : Option VC) (a c cm : Nat) (m : Mm), 0 < a → n < a + k → n < a + N1 → n + 3 ≤ a + N → RS m n s a c (h + 1 + pc O + pc A) kk → gI m 225 42 = 0 → gI m 253 h = nI 40 → plQ (h + 1) O A m → Fr (rfC (h + 1) c0) m0 m → c0 ≤ cm → PkR (rwD m) c0 cm O → PkR (rwD m) cm c A → c + pc O + pc A + a0 ≤ c0 + a →
    (∀ e, sCl s f k O A a = .inl e → ∃ m', (∀ o, PSt N1 N m o = ((), m', o)) ∧ RF m0 m' e) ∧ ∀ p T, sCl s f k O A a = .inr (p, T) → (¬ s p = 41 → ∃ m', (∀ o, PSt N1 N m o = ((), m', o)) ∧ RF m0 m' (1, p)) ∧ (s p = 41 → ∃ m' N' c', (∀ o, PSt N1 N m o = JSt N' m' o) ∧ n + 3 ≤ p + N' ∧ RS m' n s p c' (h + 1) kk ∧ gI m' 225 42 = 0 ∧ Fr (rfC (h + 1) c0) m0 m' ∧ c0 < c' ∧ c' + a0 ≤ c0 + p ∧ RE (rwD m') c0 c' (tV T)) := by
  intro k
  induction k with
  | zero =>
    intro N1 N O A a c cm m ha hk hN1 hN hR
    exact absurd hR.2.2.2.2.2.2.1 (by omega)
  | succ k ih =>
    intro N1 N O A a c cm m ha hk hN1 hN hR h42 h40 hpl hF hcm hO hA hcnt
    obtain ⟨hB, h35, h37, h39, h40', h41, b1, b2, b3⟩ := id hR
    have hn := hB.2.2.1
    have hz := hB.2.2.2.2
    have pO := pc_le O
    have pA := pc_le A
    have lA := PkR_le hA
    obtain ⟨ch0, t1, t2, -, -⟩ := top_C h40 hpl
    obtain ⟨f1, f2⟩ := hf N1 N m a c _ ha (by omega) hR h42 ⟨ch0, by omega, by unfold isTm; omega, by unfold isPl; omega, by omega, t2⟩ hN1 hN
    have FA := Fr_mono hF (fun q i y => rfC_A y)
    unfold sCl
    cases hfa : f a with
    | inl e =>
      obtain ⟨m', a1, a2⟩ := f1 e hfa
      rw [bS_l]
      refine ⟨fun e' y => ?_, fun p T y => (by cases y)⟩
      cases y
      exact ⟨m', a1, RF_pre FA a2⟩
    | inr qq =>
      obtain ⟨p, T⟩ := qq
      have hpn : a < p ∧ p ≤ n := hpr a b1 (p, T) hfa
      rw [bS_r]
      rcases f2 p T hfa with ⟨y93, m', a1, a2⟩ | ⟨m1, b, N2, N', c1, q1, q2, q3, q4, R1, q6, F1, q8, q9, q10⟩
      · rw [iT_neg (show ¬ s p = 38 by omega), iT_neg (show ¬ s p = 124 by omega)]
        refine ⟨fun e y => (by cases y), fun p' T' y => ?_⟩
        cases y
        exact ⟨fun _ => ⟨m', a1, RF_pre FA a2⟩, fun y => by omega⟩
      · have g40 : gI m1 253 h = nI 40 := by rw [Fr_at F1 (by unfold rfC rfP; omega)]; exact h40
        have pl1 : plQ (h + 1) O A m1 := by
          refine ⟨fun q y => ?_, fun q y => ?_⟩
          · have : pc O = 1 := by rw [y]; rfl
            rw [Fr_at F1 (by unfold rfC rfP; omega)]; exact hpl.1 q y
          · have : pc A = 1 := by rw [y]; rfl
            rw [Fr_at F1 (by unfold rfC rfP; omega)]; exact hpl.2 q y
        obtain ⟨ch, u1, u2, u3, u4⟩ := top_C g40 pl1
        obtain ⟨N3, e1, e2⟩ := e_end (N2 := N2) R1 q6 (by rw [u2]; intro y; have := (nI_eq (b := 33) (by omega) (by omega)).mp y; omega) q1 (by omega) q3
        obtain ⟨N3, rfl⟩ : ∃ N', N3 = N' + 1 := ⟨N3 - 1, by omega⟩
        have S1 := R1.1.1
        have hs1 := RB_256 R1.1 p
        have base : ∀ o, PSt N1 N m o = GSt (N3 + 1) m1 o := fun o => by rw [q4, e1]
        have rows1 : ∀ x, x < c → rwD m1 4 x = rwD m 4 x ∧ rwD m1 5 x = rwD m 5 x := fun x hx => by
          constructor
          · show gI m1 251 x = gI m 251 x
            exact Fr_at F1 (by unfold rfC rfP; omega)
          · show gI m1 252 x = gI m 252 x
            exact Fr_at F1 (by unfold rfC rfP; omega)
        have F01 : Fr (rfC (h + 1) c0) m0 m1 := Fr_trans hF (Fr_mono F1 (fun q i y => rfC_le y (by omega) (by omega)))
        have hA1 : PkR (rwD m1) cm c A := PkR_congr hA (fun x _ b => rows1 x b)
        have hO1 : PkR (rwD m1) c0 cm O := PkR_congr hO (fun x _ b => rows1 x (by omega))
        have e38 : (nI (s p) = 38) = (s p = 38) := propext (nI_eq (b := 38) (by omega) (by omega))
        have e124 : (nI (s p) = 124) = (s p = 124) := propext (nI_eq (b := 124) (by omega) (by omega))
        have e41 : (nI (s p) = 41) = (s p = 41) := propext (nI_eq (b := 41) (by omega) (by omega))
        -- going on with & or |
        have goon : ∀ (m3 : Mm) (c3 h3 : Nat), RS m3 n s p c3 h3 kk → gI m3 225 42 = 0 → p < n → (∀ o, F_X12_goesBehind 225 m1 o = f_X12_goesBehind_32 225 (nI (s p)) m3 o) → ∃ m4, (∀ o, PSt N1 N m o = PSt 1000 N3 m4 o) ∧ RS m4 n s (p + 1) c3 (h3 + 1) kk ∧ Fr (rfP h3 c3) m3 m4 ∧ gI m4 253 h3 = nI (s p) ∧ gI m4 225 42 = 0 := fun m3 c3 h3 R3 g3 hpn' hst => by
          obtain ⟨m4, v1, v2, v3, v4, -, v6⟩ := e_puts R3 hpn' (nI (s p))
          have g42 : gI m4 225 42 = 0 := by rw [v6]; exact g3
          refine ⟨m4, fun o => ?_, v2, v3, v4, g42⟩
          have eG : ∀ o, F_X12_goesBehind 225 m1 o = (1, m4, o) := fun o => by
            have S3 := R3.1.1
            rw [hst]
            unfold f_X12_goesBehind_32
            rw [v1, bnd_mk]
            unfold f_X12_goesBehind_37
            simp (config := {decide := true}) only [shT_225 S3, ne_eq, not_false_eq_true, and_self, and_true, true_and, and_false, false_and, true_or, or_true, false_or, or_false, not_true_eq_false, if_false, if_true]
          rw [base]
          unfold GSt
          rw [eG, bnd_mk, c_on v2.1.1 v2.2.2.1 g42]
        by_cases c38 : s p = 38
        · rw [iT_pos c38]
          have hpn' : p < n := lt_of_sg hz (by omega)
          obtain ⟨m3, v1, v2, v3, v4⟩ := j_pend (pl := 0) (op := 38) (.inl rfl) (.inl rfl) R1 hA1 (fun q y => pl1.2 q y) q10 (by omega)
          have stop : ∀ N o, f_X12_joins_0 (N + 1) 225 (nI 0) m3 o = ((), m3, o) := fun N o => by
            have g40' : gI m3 253 h = nI 40 := by rw [Fr_at v3 (by omega)]; exact g40
            have pl3 : plQ (h + 1) O none m3 := ⟨fun q y => by rw [Fr_at v3 (by omega)]; exact pl1.1 q y, fun q y => (by cases y)⟩
            obtain ⟨ch', w1, w2, w3, -⟩ := top_C g40' pl3
            have w2 : tpv m3 (h + 1 + pc O) = nI ch' := w2
            refine j_stop v2 (.inl rfl) ?_ (fun y => by omega) N o
            rw [w2]
            intro y
            exact w3 rfl ((nI_eq (b := 38) (by omega) (by omega)).mp y)
          have eJ : ∀ o, F_X12_joins 225 0 m1 o = ((), m3, o) := fun o => by
            have x1 := v1 (1000 - pc A) o
            rw [show 1000 - pc A + pc A = 1000 by omega] at x1
            have x2 := stop (1000 - pc A - 1) o
            rw [show 1000 - pc A - 1 + 1 = 1000 - pc A by omega] at x2
            exact x1.trans x2
          obtain ⟨m4, w1, w2, w3, w4, w5⟩ := goon m3 (c1 + pc A) (h + 1 + pc O) v2 (by rw [Fr_at v3 (by omega)]; exact q6) hpn' (fun o => by
            unfold F_X12_goesBehind f_X12_goesBehind_0
            rw [e_here R1, bnd_mk]
            unfold f_X12_goesBehind_4
            rw [if_pos (by rw [e38]; exact c38)]
            unfold f_X12_goesBehind_17
            rw [if_neg (by rw [e124]; omega)]
            unfold f_X12_goesBehind_29
            rw [eJ, bnd_mk]
            simp (config := {decide := true}) only [shT_225 S1, ne_eq, not_false_eq_true, and_self, and_true, true_and, and_false, false_and, true_or, or_true, false_or, or_false, not_true_eq_false, if_false, if_true])
          have F14 : Fr (rfC (h + 1) c0) m1 m4 := Fr_trans (Fr_mono v3 (fun q i y => by unfold rfC rfP; omega)) (Fr_mono w3 (fun q i y => .inl (rfP_le y (by omega) (by omega))))
          have rows4 : ∀ x, x < c1 + pc A → rwD m4 4 x = rwD m3 4 x ∧ rwD m4 5 x = rwD m3 5 x := fun x hx => by
            constructor
            · show gI m4 251 x = gI m3 251 x
              exact Fr_at w3 (by unfold rfP; omega)
            · show gI m4 252 x = gI m3 252 x
              exact Fr_at w3 (by unfold rfP; omega)
          have rows3 : ∀ x, x < c1 → rwD m3 4 x = rwD m1 4 x ∧ rwD m3 5 x = rwD m1 5 x := fun x hx => by
            constructor
            · show gI m3 251 x = gI m1 251 x
              exact Fr_at v3 (by omega)
            · show gI m3 252 x = gI m1 252 x
              exact Fr_at v3 (by omega)
          obtain ⟨j1, j2⟩ := ih 1000 N3 O (some (jA A T)) (p + 1) (c1 + pc A) cm m4 (by omega) (by omega) (by omega) (by omega) w2 w5 (by rw [Fr_at w3 (by unfold rfP; omega), Fr_at v3 (by omega)]; exact g40) ⟨fun q y => by
            have : pc O = 1 := by rw [y]; rfl
            rw [Fr_at w3 (by unfold rfP; omega), Fr_at v3 (by omega)]; exact pl1.1 q y, fun q y => by rw [w4, c38]⟩ (Fr_trans F01 F14) hcm (PkR_congr hO1 (fun x _ b => ⟨(rows4 x (by omega)).1.trans (rows3 x (by omega)).1, (rows4 x (by omega)).2.trans (rows3 x (by omega)).2⟩)) (by
              show RE (rwD m4) cm (c1 + pc A) (tV (jA A T))
              rw [jA_jC]
              exact RE_congr v4 (fun x _ b => rows4 x b)) (by show c1 + pc A + pc O + 1 + a0 ≤ c0 + (p + 1); omega)
          refine ⟨fun e y => ?_, fun p' T' y => ⟨fun z => ?_, fun z => ?_⟩⟩
          · obtain ⟨m', d1, d2⟩ := j1 e y
            exact ⟨m', fun o => by rw [w1]; exact d1 o, d2⟩
          · obtain ⟨m', d1, d2⟩ := (j2 p' T' y).1 z
            exact ⟨m', fun o => by rw [w1]; exact d1 o, d2⟩
          · obtain ⟨m', Nx, cx, d1, d2⟩ := (j2 p' T' y).2 z
            exact ⟨m', Nx, cx, fun o => by rw [w1]; exact d1 o, d2⟩
        · rw [iT_neg c38]
          -- joins: both
          obtain ⟨m3, v1, v2, v3, v4⟩ := j_pend (pl := 1) (op := 38) (.inr rfl) (.inl rfl) R1 hA1 (fun q y => pl1.2 q y) q10 (by omega)
          have rows3 : ∀ x, x < c1 → rwD m3 4 x = rwD m1 4 x ∧ rwD m3 5 x = rwD m1 5 x := fun x hx => by
            constructor
            · show gI m3 251 x = gI m1 251 x
              exact Fr_at v3 (by omega)
            · show gI m3 252 x = gI m1 252 x
              exact Fr_at v3 (by omega)
          obtain ⟨m4, x1, x2, x3, x4⟩ := j_pend (pl := 1) (op := 124) (.inr rfl) (.inr ⟨rfl, rfl⟩) v2 (PkR_congr hO1 (fun x _ b => rows3 x (by omega))) (fun q y => by rw [Fr_at v3 (by omega)]; exact pl1.1 q y) v4 (by omega)
          have g40' : gI m4 253 h = nI 40 := by rw [Fr_at x3 (by omega), Fr_at v3 (by omega)]; exact g40
          have tp4 : tpv m4 (h + 1) = nI 40 := by unfold tpv; rw [if_neg (by omega), Nat.add_sub_cancel]; exact g40'
          have eJ : ∀ o, F_X12_joins 225 1 m1 o = ((), m4, o) := fun o => by
            have y1 := v1 (1000 - pc A) o
            rw [show 1000 - pc A + pc A = 1000 by omega] at y1
            have y2 := x1 (1000 - pc A - pc O) o
            rw [show 1000 - pc A - pc O + pc O = 1000 - pc A by omega] at y2
            have y3 := j_stop x2 (pl := 1) (.inr rfl) (by rw [tp4]; decide) (fun _ => by rw [tp4]; decide) (1000 - pc A - pc O - 1) o
            rw [show 1000 - pc A - pc O - 1 + 1 = 1000 - pc A - pc O by omega] at y3
            exact (y1.trans y2).trans y3
          have F14 : Fr (rfC (h + 1) c0) m1 m4 := Fr_trans (Fr_mono v3 (fun q i y => by unfold rfC rfP; omega)) (Fr_mono x3 (fun q i y => by unfold rfC rfP; omega))
          have g42 : gI m4 225 42 = 0 := by rw [Fr_at x3 (by omega), Fr_at v3 (by omega)]; exact q6
          have hT : jO O (jA A T) = jC 124 O (jC 38 A T) := by rw [jO_jC, jA_jC]
          by_cases c124 : s p = 124
          · rw [iT_pos c124]
            have hpn' : p < n := lt_of_sg hz (by omega)
            obtain ⟨m5, w1, w2, w3, w4, w5⟩ := goon m4 (c1 + pc A + pc O) (h + 1) x2 g42 hpn' (fun o => by
              unfold F_X12_goesBehind f_X12_goesBehind_0
              rw [e_here R1, bnd_mk]
              unfold f_X12_goesBehind_4
              rw [if_neg (by rw [e38]; exact c38), if_pos (by rw [e124]; exact c124)]
              unfold f_X12_goesBehind_17
              rw [if_pos (by rw [e124]; exact c124)]
              unfold f_X12_goesBehind_29
              rw [eJ, bnd_mk]
              simp (config := {decide := true}) only [shT_225 S1, ne_eq, not_false_eq_true, and_self, and_true, true_and, and_false, false_and, true_or, or_true, false_or, or_false, not_true_eq_false, if_false, if_true])
            have F45 : Fr (rfC (h + 1) c0) m4 m5 := Fr_mono w3 (fun q i y => .inl (rfP_le y (by omega) (by omega)))
            have rows5 : ∀ x, x < c1 + pc A + pc O → rwD m5 4 x = rwD m4 4 x ∧ rwD m5 5 x = rwD m4 5 x := fun x hx => by
              constructor
              · show gI m5 251 x = gI m4 251 x
                exact Fr_at w3 (by unfold rfP; omega)
              · show gI m5 252 x = gI m4 252 x
                exact Fr_at w3 (by unfold rfP; omega)
            obtain ⟨j1, j2⟩ := ih 1000 N3 (some (jO O (jA A T))) none (p + 1) (c1 + pc A + pc O) (c1 + pc A + pc O) m5 (by omega) (by omega) (by omega) (by omega) w2 w5 (by rw [Fr_at w3 (by unfold rfP; omega)]; exact g40') ⟨fun q y => by rw [w4, c124], fun q y => (by cases y)⟩ (Fr_trans F01 (Fr_trans F14 F45)) (by omega) (by
              show RE (rwD m5) c0 (c1 + pc A + pc O) (tV (jO O (jA A T)))
              rw [hT]
              exact RE_congr x4 (fun x _ b => rows5 x b)) rfl (by show c1 + pc A + pc O + 1 + 0 + a0 ≤ c0 + (p + 1); omega)
            refine ⟨fun e y => ?_, fun p' T' y => ⟨fun z => ?_, fun z => ?_⟩⟩
            · obtain ⟨m', d1, d2⟩ := j1 e y
              exact ⟨m', fun o => by rw [w1]; exact d1 o, d2⟩
            · obtain ⟨m', d1, d2⟩ := (j2 p' T' y).1 z
              exact ⟨m', fun o => by rw [w1]; exact d1 o, d2⟩
            · obtain ⟨m', Nx, cx, d1, d2⟩ := (j2 p' T' y).2 z
              exact ⟨m', Nx, cx, fun o => by rw [w1]; exact d1 o, d2⟩
          · rw [iT_neg c124]
            refine ⟨fun e y => (by cases y), fun p' T' y => ?_⟩
            cases y
            refine ⟨fun z => ?_, fun z => ?_⟩
            · have rf := RF_here R1 (f := 1) (by omega) (by omega)
              have S2 := (RB_Fr R1.1 rf.1).1
              have hw : ∀ o, F_X12_wrongs 225 1 (nI p) m1 o = ((), sI m1 225 37 (bdv (1, p)), o) := fun o => e_wrongs S1 R1.2.2.1 1 p o
              have eG : ∀ o, F_X12_goesBehind 225 m1 o = (0, sI m1 225 37 (bdv (1, p)), o) := fun o => by
                unfold F_X12_goesBehind f_X12_goesBehind_0
                rw [e_here R1, bnd_mk]
                unfold f_X12_goesBehind_4
                rw [if_neg (by rw [e38]; exact c38), if_neg (by rw [e124]; exact c124), if_neg (by rw [e41]; exact z), R1.2.1, hw, bnd_mk]
                unfold f_X12_goesBehind_54
                simp (config := {decide := true}) only [shT_225 S1, ne_eq, not_false_eq_true, and_self, and_true, true_and, and_false, false_and, true_or, or_true, false_or, or_false, not_true_eq_false, if_false, if_true]
              refine ⟨_, fun o => ?_, RF_pre (Fr_mono F01 (fun q i y => rfC_A y)) rf⟩
              rw [base]
              unfold GSt
              rw [eG, bnd_mk, c_bad S2 (RF_bad rf)]
            · refine ⟨m4, N3 + 1, c1 + pc A + pc O, fun o => ?_, e2, x2, g42, Fr_trans F01 F14, by have := x4.1; omega, by omega, by rw [hT]; exact x4⟩
              have eG : ∀ o, F_X12_goesBehind 225 m1 o = f_X12_goesBehind_61 225 m4 o := fun o => by
                unfold F_X12_goesBehind f_X12_goesBehind_0
                rw [e_here R1, bnd_mk]
                unfold f_X12_goesBehind_4
                rw [if_neg (by rw [e38]; exact c38), if_neg (by rw [e124]; exact c124), if_pos (by rw [e41]; exact z), eJ, bnd_mk]
                simp (config := {decide := true}) only [shT_225 S1, ne_eq, not_false_eq_true, and_self, and_true, true_and, and_false, false_and, true_or, or_true, false_or, or_false, not_true_eq_false, if_false, if_true]
              rw [base]
              unfold GSt JSt
              rw [eG]
theorem C_of {n : Nat} {s : Nat → Nat} {kk : Nat} (hkk : kk ≤ 6) {f : Nat → PRs VC} (hpr : ∀ a, a ≤ n → prg n a (f a)) (hf : ∀ N1 N m a c h, 0 < a → 0 < h → RS m n s a c h kk → gI m 225 42 = 0 → Pt m h → n < a + N1 → n + 3 ≤ a + N → SimP N1 N m n s a c h kk (f a)) {N1 N : Nat} {m : Mm} {a c h : Nat} (ha : 0 < a) (hR : RS m n s a c (h + 1) kk) (h42 : gI m 225 42 = 0) (h40 : gI m 253 h = nI 40) (hN1 : n < a + N1) (hN : n + 3 ≤ a + N) : SimQ N1 N m n s a c (h + 1) kk (sCl s f 200 none none a) := by
  have hn := hR.1.2.2.1
  exact l_condR hkk hpr hf hR.2.2.2.2.2.2.2.1 200 N1 N none none a c c m ha (by omega) hN1 hN hR h42 h40 ⟨fun q y => (by cases y), fun q y => (by cases y)⟩ (Fr_refl _ _) (Nat.le_refl _) rfl rfl (by show c + 0 + 0 + a ≤ c + a; omega)
theorem P_R {n : Nat} {s : Nat → Nat} (hz : ∀ x, n ≤ x → s x = 0) : ∀ (r N1 N : Nat) (m : Mm) (a c h : Nat), r ≤ 6 → 0 < a → 0 < h → RS m n s a c h (6 - r) → gI m 225 42 = 0 → Pt m h → n < a + N1 → n + 3 ≤ a + N → SimP N1 N m n s a c h (6 - r) (sP s r a) := by
  intro r
  induction r with
  | zero =>
    intro N1 N m a c h hr ha hh hR h42 hPt hN1 hN
    exact e_pieceR (r := 0) (by omega) (fun _ => rfl) (fun y => by omega) ha hh hR h42 hPt hN1 hN
  | succ r ih =>
    intro N1 N m a c h hr ha hh hR h42 hPt hN1 hN
    have e6 : 6 - (r + 1) + 1 = 6 - r := by omega
    refine e_pieceR (r := r + 1) hr (fun y => by omega) (fun _ => ⟨sP s r, rfl, fun b hb => sP_prog hz r b hb, fun N1 N m a c h ha hh hR h42 hPt h1 h2 => ?_, fun N1 N m a c h ha hR h42 h40 h1 h2 => ?_⟩) ha hh hR h42 hPt hN1 hN
    · rw [e6] at hR ⊢
      exact ih N1 N m a c h (by omega) ha hh hR h42 hPt h1 h2
    · rw [e6] at hR ⊢
      exact C_of (by omega) (fun b hb => sP_prog hz r b hb) (fun N1 N m a c h ha hh hR h42 hPt h1 h2 => ih N1 N m a c h (by omega) ha hh hR h42 hPt h1 h2) ha hR h42 h40 h1 h2
