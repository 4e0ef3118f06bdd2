/-! ===== law ===== -/
def lwF (q i : Nat) : Prop := rfL q i ∨ (q = 225 ∧ (i = 1 ∨ i = 36 ∨ i = 22)) ∨ (241 ≤ q ∧ q ≤ 246)
theorem e_lawR0 {n t : Nat} {s : Nat → Nat} {m : Mm} (h : Sh m) (hn1 : 1 ≤ n) (hn : n ≤ 200) (ht : n ≤ t) (ht2 : t ≤ 220) (h1 : gI m 225 1 = nI t) (hs : ∀ i, i < n → gI m 226 i &&& 255 = nI (s i) ∧ s i < 256) (hz : ∀ i, n ≤ i → s i = 0) : (∀ e, sLs s n 15 [] 0 = .inl e → (1 ≤ e.1 ∧ e.1 ≤ 5 ∧ e.2 ≤ 200) ∧ ∃ m', (∀ o, F_X12_law 225 (nI n) m o = (bdv e, m', o)) ∧ Fr (fun q i => lwF q i ∧ ¬ (241 ≤ q ∧ q ≤ 246) ∧ ¬ (q = 225 ∧ i = 22)) m m' ∧ gI m' 225 1 = 0) ∧ (∀ p L, sLs s n 15 [] 0 = .inr (p, L) → ∃ m' c', (∀ o, F_X12_law 225 (nI n) m o = (nI L.length, m', o)) ∧ Fr lwF m m' ∧ gI m' 225 1 = 0 ∧ gI m' 225 22 = nI L.length ∧ c' ≤ 200 ∧ L.length ≤ 14 ∧ ∀ j x, L[j]? = some x → CKR (fun k i => gI m' (241 + k) i) c' x j) := by
  have hl := e_lies (nI n) 1 200 m
  rw [show Int32.toInt64 1 = 1 by decide, show Int32.toInt64 200 = 200 by decide] at hl
  have r1 : ((1 : Int32) ≤ nI n ∧ nI n ≤ 200) = True := eq_true ⟨nI_le (a := 1) hn1 (by omega), nI_le (b := 200) hn (by omega)⟩
  have hle : nI n ≤ nI t := nI_le ht (by omega)
  have em : ∃ m1, m1 = sI (sI (sI (sI (sI (sI m 225 1 0) 225 35 0) 225 36 (nI n)) 225 37 0) 225 38 0) 225 39 0 := ⟨_, rfl⟩
  obtain ⟨m1, em⟩ := em
  have g : ∀ q i, gI m1 q i = if q = 225 ∧ i = 39 then 0 else if q = 225 ∧ i = 38 then 0 else if q = 225 ∧ i = 37 then 0 else if q = 225 ∧ i = 36 then nI n else if q = 225 ∧ i = 35 then 0 else if q = 225 ∧ i = 1 then 0 else gI m q i := fun q i => by rw [em, gI_sI, gI_sI, gI_sI, gI_sI, gI_sI, gI_sI]
  have F1 : Fr (fun q i => q = 225 ∧ (i = 1 ∨ i = 35 ∨ i = 36 ∨ i = 37 ∨ i = 38 ∨ i = 39)) m m1 := ⟨by rw [em]; rfl, fun q i y => by rw [g, if_neg (by omega), if_neg (by omega), if_neg (by omega), if_neg (by omega), if_neg (by omega), if_neg (by omega)]⟩
  have S1 := Fr_Sh F1 h
  have F1' : Fr (fun q i => lwF q i ∧ ¬ (241 ≤ q ∧ q ≤ 246) ∧ ¬ (q = 225 ∧ i = 22)) m m1 := Fr_mono F1 (fun q i y => by unfold lwF rfL rfA; omega)
  have L1 : LSt m1 n s 0 0 ([] : KL).length := ⟨⟨S1, by rw [g, if_neg (by omega), if_neg (by omega), if_neg (by omega), if_pos ⟨rfl, rfl⟩], hn, fun i hi => by rw [Fr_at F1 (by omega)]; exact hs i hi, hz⟩, by rw [g, if_neg (by omega), if_neg (by omega), if_neg (by omega), if_neg (by omega), if_pos ⟨rfl, rfl⟩]; rfl, by rw [g, if_neg (by omega), if_neg (by omega), if_pos ⟨rfl, rfl⟩], by rw [g, if_pos ⟨rfl, rfl⟩]; rfl, by rw [g, if_neg (by omega), if_pos ⟨rfl, rfl⟩]; rfl, Nat.zero_le _, Nat.le_refl _⟩
  obtain ⟨j1, j2⟩ := l_lawR 15 1000 [] 0 0 m1 (by show 0 ≤ 14; omega) rfl (by omega) L1 (fun j x y => by cases y)
  have base : ∀ o, F_X12_law 225 (nI n) m o = f_X12_law_54 1000 225 1 m1 o := fun o => by
    rw [em]
    simp (config := {decide := true}) only [F_X12_law, f_X12_law_0, hl, r1, bnd, bI_0, f_X12_law_9, h1, hle, f_X12_law_27, f_X12_law_32, f_X12_law_37, f_X12_law_42, f_X12_law_47, f_X12_law_52, gT_sI, shT_225 h, bI, ne_eq, not_false_eq_true, and_self, and_true, true_and, and_false, false_and, true_or, or_true, false_or, or_false, not_true_eq_false, if_false, if_true]
  refine ⟨fun e y => ?_, fun p L y => ?_⟩
  · obtain ⟨z1, m', z2, z3⟩ := j1 e y
    exact ⟨z1, m', fun o => by rw [base]; exact z2 o, Fr_trans F1' (Fr_mono z3 (fun q i y => by unfold lwF; unfold rfL rfA at *; omega)), by rw [Fr_at z3 (by unfold rfL rfA; omega), g, if_neg (by omega), if_neg (by omega), if_neg (by omega), if_neg (by omega), if_neg (by omega), if_pos ⟨rfl, rfl⟩]⟩
  · obtain ⟨m2, c', z2, z3, z4, z5, z6, z7, z8⟩ := j2 p L y
    have S2 := Fr_Sh z3 S1
    obtain ⟨m3, x1, x2, x3⟩ := l_142 z7 L.length 1000 0 m2 S2 z4 (by omega) (by omega) (fun t ht i hi => by omega)
    have S3 := Fr_Sh x2 S2
    obtain ⟨m4, y1, y2, y3, y4⟩ := l_206 z6 c' 1000 0 m3 S3 (by rw [Fr_at x2 (by omega)]; exact z5) (by rw [Fr_at x2 (by omega)]; exact z4) (by omega) (by omega) (fun i hi => by omega)
    have x1 : ∀ o, f_X12_law_142 1000 225 0 m2 o = f_X12_law_206 1000 225 0 m3 o := x1
    have y1 : ∀ o, f_X12_law_206 1000 225 0 m3 o = (nI L.length, m4, o) := y1
    have F4 : Fr lwF m m4 := Fr_trans (Fr_mono F1' (fun q i y => y.1)) (Fr_trans (Fr_mono z3 (fun q i y => .inl y)) (Fr_trans (Fr_mono x2 (fun q i y => .inr (.inr (by omega)))) (Fr_mono y2 (fun q i y => by unfold lwF; omega))))
    refine ⟨m4, c', fun o => by rw [base, z2, x1, y1], F4, ?_, y3, z6, z7, fun j x hj => ?_⟩
    · rw [Fr_at y2 (by omega), Fr_at x2 (by omega), Fr_at z3 (by unfold rfL rfA; omega), g, if_neg (by omega), if_neg (by omega), if_neg (by omega), if_neg (by omega), if_neg (by omega), if_pos ⟨rfl, rfl⟩]
    · have hjl : j < L.length := by
        by_cases y : j < L.length
        · exact y
        · rw [List.getElem?_eq_none (by omega)] at hj; cases hj
      refine CKR_keep (z8 j x hj) (Nat.le_refl _) (fun i hi => ?_) (fun q hq => ?_)
      · obtain ⟨u1, u2⟩ := y4 i hi
        refine ⟨?_, ?_⟩
        · show gI m4 245 i = gI m2 251 i
          rw [u1, Fr_at x2 (by omega)]
        · show gI m4 246 i = gI m2 252 i
          rw [u2, Fr_at x2 (by omega)]
      · show gI m4 (241 + q) j = gI m2 (247 + q) j
        rw [Fr_at y2 (by omega)]
        exact x3 q hq j hjl
/-- the two readings of one text are two forms of one law -/
theorem LwP_of {L : KL} {C D : Nat → Nat → Int32} {z c' : Nat} (hz : z ≤ 200) (hc : c' ≤ 200) (hl : L.length ≤ 14) (h8 : ∀ q, q < 10 → C 8 q = 0 ∨ C 8 q = -1) (hC : ∀ j x, L[j]? = some x → CKl C z x j) (hD : ∀ j x, L[j]? = some x → CKR D c' x j) : LwP (nI L.length) C (nI L.length) D := by
  refine ⟨L.length, hl, rfl, rfl, h8, fun k => match L[k]? with
    | none => fun _ => none
    | some x => x.2.2, fun k => match L[k]? with
    | none => fun _ => none
    | some x => if x.1 = 110 then (fun _ => none) else x.2.1, fun k hk => ?_⟩
  obtain ⟨x, hx⟩ : ∃ x, L[k]? = some x := ⟨L[k], List.getElem?_eq_getElem hk⟩
  obtain ⟨vs, cs, ce, e3, e4, e5, e6, b1, b2, b3, b4, b5, b6, b7⟩ := hC k x hx
  obtain ⟨sf, f, t, d0, d1, d2, d3, q1, q2, q3, q4, q5⟩ := hD k x hx
  have dA : ∀ {α : Type} {i j : Nat} {F : (Nat → Int32) → α}, dpn C i j F → dep allm F := fun hd l l' hl => hd l l' (fun y q _ _ _ _ hq => hl q hq rfl)
  have dM : x.1 ≠ 103 → ∀ {α : Type} {i j : Nat} {F : (Nat → Int32) → α}, vs ≤ i → j ≤ ce → dpn C i j F → dep (C 8) F := fun hne _ i j F hi hj hd l l' hl => hd l l' (fun y q a b c d hq => hl q hq (b7 hne y (by omega) (by omega) c q d hq))
  refine ⟨x.1, vs, cs, ce, sf, f, t, ?_, e3, d0, e4, e5, e6, d1, d2, d3, by omega, by omega, ?_⟩
  · unfold isKd at b4; omega
  · simp only [hx]
    by_cases n110 : x.1 = 110
    · simp only [if_pos n110]
      exact ⟨b5.1, q4, fun hne => absurd n110 hne, dA b5.2.2, fun _ _ _ => rfl, fun hne => ⟨dM hne b1 (Nat.le_refl _) b5.2.2, fun hn => absurd n110 hn⟩⟩
    · simp only [if_neg n110]
      exact ⟨b5.1, q4, fun hne => ⟨15, by omega, (b6 hne).1, q5 hne⟩, dA b5.2.2, dA (b6 n110).2.2, fun hne => ⟨dM hne b1 (Nat.le_refl _) b5.2.2, fun hn => dM hne (Nat.le_refl _) (by omega) (b6 hn).2.2⟩⟩
theorem p_law : Pr_law Rel := fun x => PrI_ex (fun m hR => by
  have h := hR.1
  obtain ⟨t, ht, t1, t2, t3⟩ := hR.2.2.2.2.2.1
  have hlies := e_lies x 1 200
  rw [show Int32.toInt64 1 = 1 by decide, show Int32.toInt64 200 = 200 by decide] at hlies
  by_cases qa : 1 ≤ x ∧ x ≤ 200
  · have qa' := eq_true qa
    obtain ⟨n, rfl, hn1, hn⟩ : ∃ n, x = nI n ∧ 1 ≤ n ∧ n ≤ 200 := by
      obtain ⟨j, hj, rfl⟩ := nI_of (x := x) (by rw [i32_nlt]; exact Int32.le_trans (by decide) qa.1)
      exact ⟨j, rfl, (nI_leI (a := 1) (by omega) hj).mp qa.1, (nI_leI (b := 200) hj (by omega)).mp qa.2⟩
    have cle : (nI n ≤ nI t) = (n ≤ t) := propext (nI_leI (by omega) (by omega))
    by_cases qt : n ≤ t
    · have cT := eq_true qt
      rw [← cle] at cT
      -- the two laws' places
      obtain ⟨w, w0, ew0, ew, hw, hne⟩ : ∃ w w0, gR m 1 9 = w0 ∧ gR m 1 10 = w ∧ isW w ∧ (w0 = 205 ∧ w = 215 ∨ w0 = 215 ∧ w = 205) := by
        rcases hR.2.1 with ⟨e1, e2⟩ | ⟨e1, e2⟩
        · exact ⟨215, 205, e1, e2, .inr rfl, .inl ⟨rfl, rfl⟩⟩
        · exact ⟨205, 215, e1, e2, .inl rfl, .inr ⟨rfl, rfl⟩⟩
      obtain ⟨w1, w2, w3, w4⟩ := w_ne hw
      obtain ⟨s, es⟩ : ∃ s : Nat → Nat, s = fun i => if i < n then (gI m 192 i).toNatClampNeg else 0 := ⟨_, rfl⟩
      have hs : ∀ i, i < n → gI m 192 i = nI (s i) ∧ s i < 256 := fun i hi => by
        obtain ⟨⟨b, hb, eb⟩, -⟩ := t3 i (by omega)
        have : s i = b := by
          rw [es]
          show (if i < n then (gI m 192 i).toNatClampNeg else 0) = b
          rw [if_pos hi, eb]
          exact nI_clamp (by omega)
        rw [this]
        exact ⟨eb, hb⟩
      have hz : ∀ i, n ≤ i → s i = 0 := fun i hi => by
        rw [es]
        exact if_neg (by omega)
      obtain ⟨r1, r2⟩ := e_readInto hw h hn hs hz
      have S0 : Sh (sR m 193 1 w) := Sh_sR h (by decide +kernel) w
      -- what both sides leave alone
      have rtA : ∀ q i, rtP w q i → (q = 193 ∨ (205 ≤ q ∧ q ≤ 224)) := fun q i y => by unfold rtP clP at y; omega
      cases hx : sLs s n 15 [] 0 with
      | inl e =>
        obtain ⟨m', a1, a2⟩ := r1 e hx
        have a1 : ∀ o, F_X4_readInto 193 w (nI n) m o = (bdv e, m', o) := a1
        have S1 := Fr_Sh a2 S0
        have F1 : Fr (fun q i => rtP w q i ∨ (q = 191 ∧ i = 1)) (sR m 193 1 w) (sI m' 191 1 0) := Fr_sI (Fr_mono a2 (fun q i y => .inl y)) (.inr ⟨rfl, rfl⟩) _
        have S1' := Fr_Sh F1 S0
        have g1 : ∀ q i, q ≠ 193 → ¬ (205 ≤ q ∧ q ≤ 224) → ¬ (q = 191 ∧ i = 1) → gI (sI m' 191 1 0) q i = gI m q i := fun q i b1 b2 b3 => Fr_at F1 (fun y => by
          rcases y with y | y
          · have := rtA _ _ y
            omega
          · exact b3 y)
        obtain ⟨⟨z1, z2, z3⟩, m2, y1, y2, y3⟩ := (e_lawR0 (s := s) S1' hn1 hn qt ht (by rw [g1 225 1 (by omega) (by omega) (by omega)]; exact t2) (fun i hi => by
          rw [g1 226 i (by omega) (by omega) (by omega), (t3 i (by omega)).2]
          exact hs i hi) hz).1 e hx
        have S2 := Fr_Sh y2 S1'
        have neg : bdv e ≤ 0 := (fa_of_lt (fa_of_nle (bdv_neg z1 z2 z3).1)).1
        have hr9 : gR m2 1 9 = gR m 1 9 := (Fr_R y2 1 9).trans ((Fr_R F1 1 9).trans (by rw [gR_sR, if_neg (by omega)]))
        have hr10 : gR m2 1 10 = gR m 1 10 := (Fr_R y2 1 10).trans ((Fr_R F1 1 10).trans (by rw [gR_sR, if_neg (by omega)]))
        have g2 : ∀ q i, ¬ lwF q i → gI m2 q i = gI (sI m' 191 1 0) q i := fun q i y => Fr_at y2 (fun z => y z.1)
        have rel : Rel m2 := by
          refine Rel_parts hR S2 ⟨hr9, hr10⟩ (Now_frame hR.2.2.1 (fun q i hq => ?_)) (Kept_frame (Rel_kept hR) (fun q i hq => ?_)) ⟨0, by omega, ?_, y3, fun i hi => by omega⟩ (LwR_frame hr9 (fun q i hF => ?_) ?_ (fun q i q1 q2 => ?_) hR.2.2.2.2.2.2)
          · unfold inNow at hq
            rw [g2 q i (by unfold lwF rfL rfA; omega), g1 q i (by omega) (by omega) (by omega)]
          · unfold inKept at hq
            rw [g2 q i (by unfold lwF rfL rfA; omega), g1 q i (by omega) (by omega) (by omega)]
          · rw [g2 191 1 (by unfold lwF rfL rfA; omega), gI_sI, if_pos ⟨rfl, rfl⟩]
            rfl
          · rw [ew0] at hF
            unfold FL at hF
            rw [g2 q i (by unfold lwF rfL rfA; rcases hne with ⟨u, -⟩ | ⟨u, -⟩ <;> omega)]
            exact Fr_at F1 (by unfold rtP clP; rcases hne with ⟨u, v⟩ | ⟨u, v⟩ <;> omega)
          · rw [Fr_at y2 (by omega)]
            exact g1 225 22 (by omega) (by omega) (by omega)
          · rw [Fr_at y2 (by omega)]
            exact g1 q i (by omega) (by omega) (by omega)
        generalize bdv e = v at a1 y1 neg
        refine ⟨v, sI m' 191 1 0, m2, fun o => ?_, S1', y1, rel⟩
        have ee := fun o => e_empty S1 o
        simp (config := {decide := true}) only [f_X11_law_22, f_X11_law_66, f_X11_law_61, f_X11_law_44, f_X11_law_36, f_X11_law_8, f_X11_law_0, F_X11_law, bnd, e_isWithin, qa', bI_0, shT_1 h, shR_1_3 h, shR_1_4 h, shT_191 h, shT_193 h, t1, cT, ew, w4, a1, shT_1 S1, shR_1_3 S1, shT_191 S1, ee, neg, ne_eq, not_false_eq_true, and_self, and_true, true_and, and_false, false_and, true_or, or_true, false_or, or_false, not_true_eq_false, if_false, if_true]
      | inr q =>
        obtain ⟨p, L⟩ := q
        obtain ⟨m', z', a1, a2, a3, a4, a5, a6⟩ := r2 p L hx
        have S1 := Fr_Sh a2 S0
        have F1 : Fr (fun q i => rtP w q i ∨ (q = 191 ∧ i = 1)) (sR m 193 1 w) (sI m' 191 1 0) := Fr_sI (Fr_mono a2 (fun q i y => .inl y)) (.inr ⟨rfl, rfl⟩) _
        have S1' := Fr_Sh F1 S0
        have g1 : ∀ q i, q ≠ 193 → ¬ (205 ≤ q ∧ q ≤ 224) → ¬ (q = 191 ∧ i = 1) → gI (sI m' 191 1 0) q i = gI m q i := fun q i b1 b2 b3 => Fr_at F1 (fun y => by
          rcases y with y | y
          · have := rtA _ _ y
            omega
          · exact b3 y)
        have k9 : gR (sI m' 191 1 0) 1 9 = w0 := (Fr_R F1 1 9).trans ((by rw [gR_sR, if_neg (by omega)] : gR (sR m 193 1 w) 1 9 = gR m 1 9).trans ew0)
        have k10 : gR (sI m' 191 1 0) 1 10 = w := (Fr_R F1 1 10).trans ((by rw [gR_sR, if_neg (by omega)] : gR (sR m 193 1 w) 1 10 = gR m 1 10).trans ew)
        have em1 : ∃ m1, m1 = sR (sR (sI m' 191 1 0) 1 9 w) 1 10 w0 := ⟨_, rfl⟩
        obtain ⟨m1, em1⟩ := em1
        have Sm1 : Sh m1 := by rw [em1]; exact Sh_sR (Sh_sR S1' (by decide +kernel) w) (by decide +kernel) w0
        have i1 : ∀ q i, gI m1 q i = gI (sI m' 191 1 0) q i := fun q i => by rw [em1]; rfl
        obtain ⟨m2, c', y1, y2, y3, y4, y5, y6, y7⟩ := (e_lawR0 (s := s) Sm1 hn1 hn qt ht (by rw [i1, g1 225 1 (by omega) (by omega) (by omega)]; exact t2) (fun i hi => by
          rw [i1, g1 226 i (by omega) (by omega) (by omega), (t3 i (by omega)).2]
          exact hs i hi) hz).2 p L hx
        have S2 := Fr_Sh y2 Sm1
        have g2 : ∀ q i, ¬ lwF q i → gI m2 q i = gI (sI m' 191 1 0) q i := fun q i y => (Fr_at y2 y).trans (i1 q i)
        have h9 : gR m2 1 9 = w := (Fr_R y2 1 9).trans (by rw [em1, gR_sR, if_neg (by omega), gR_sR, if_pos ⟨rfl, rfl⟩])
        have h10 : gR m2 1 10 = w0 := (Fr_R y2 1 10).trans (by rw [em1, gR_sR, if_pos ⟨rfl, rfl⟩])
        have gw : ∀ k i, k ≤ 9 → gI m2 (w + k) i = gI m' (w + k) i := fun k i hk => by
          rw [g2 (w + k) i (by unfold lwF rfL rfA; rcases hw with u | u <;> omega), gI_sI, if_neg (by rcases hw with u | u <;> omega)]
        have lenp : ¬ nI L.length ≤ 0 := nI_ge (a := 0) (by omega) (by omega)
        have hlw : LwR m2 := by
          have e10 : gI m2 w 10 = nI L.length := (gw 0 10 (by omega)).trans a4.1
          unfold LwR
          rw [h9, e10, y4]
          refine LwP_of (z := z') (c' := c') a3 y5 y6 (fun q hq => ?_) (fun j x hj => ?_) (fun j x hj => ?_)
          · show (if 1 ≤ 8 ∧ 8 ≤ 8 ∧ 8 ≠ 7 then gI m2 (w + 8) q else 0) = 0 ∨ (if 1 ≤ 8 ∧ 8 ≤ 8 ∧ 8 ≠ 7 then gI m2 (w + 8) q else 0) = -1
            rw [if_pos (by decide), gw 8 q (by omega)]
            exact a4.2.1 q hq
          · have ec : ∀ k i, 1 ≤ k → k ≤ 8 → k ≠ 7 → (fun k i => if 1 ≤ k ∧ k ≤ 8 ∧ k ≠ 7 then gI m2 (w + k) i else 0) k i = rwC m' w k i := fun k i b1 b2 b3 => by
              show (if 1 ≤ k ∧ k ≤ 8 ∧ k ≠ 7 then gI m2 (w + k) i else 0) = gI m' (w + k) i
              rw [if_pos ⟨b1, b2, b3⟩, gw k i (by omega)]
            exact CKl_keep (a4.2.2 j x hj) (Nat.le_refl _) (fun y _ => ⟨ec 1 y (by omega) (by omega) (by omega), ec 2 y (by omega) (by omega) (by omega)⟩) (fun q q1 q2 => ec q j (by omega) (by omega) (by omega)) (fun q => .inl (ec 8 q (by omega) (by omega) (by omega)))
          · have ed : ∀ k i, k ≤ 5 → (fun k i => if k ≤ 5 then gI m2 (241 + k) i else 0) k i = (fun k i => gI m2 (241 + k) i) k i := fun k i b1 => by
              show (if k ≤ 5 then gI m2 (241 + k) i else 0) = gI m2 (241 + k) i
              rw [if_pos b1]
            exact CKR_keep (y7 j x hj) (Nat.le_refl _) (fun y _ => ⟨ed 4 y (by omega), ed 5 y (by omega)⟩) (fun q hq => ed q j (by omega))
        have kept : KeptR m2 := Kept_frame (Rel_kept hR) (fun q i hq => by
          unfold inKept at hq
          rw [g2 q i (by unfold lwF rfL rfA; omega), g1 q i (by omega) (by omega) (by omega)])
        have rel : Rel m2 := by
          refine ⟨S2, ?_, Now_frame hR.2.2.1 (fun q i hq => ?_), kept.1, kept.2, ⟨0, by omega, ?_, y3, fun i hi => by omega⟩, hlw⟩
          · unfold LawPl
            rw [h9, h10]
            rcases hne with ⟨u, v⟩ | ⟨u, v⟩
            · exact .inr ⟨v, u⟩
            · exact .inl ⟨v, u⟩
          · unfold inNow at hq
            rw [g2 q i (by unfold lwF rfL rfA; omega), g1 q i (by omega) (by omega) (by omega)]
          · rw [g2 191 1 (by unfold lwF rfL rfA; omega), gI_sI, if_pos ⟨rfl, rfl⟩]
            rfl
        refine ⟨nI L.length, m1, m2, fun o => ?_, Sm1, y1, rel⟩
        have ee := fun o => e_empty S1 o
        have n0 : ¬ w0 = 0 := by rcases hne with ⟨u, -⟩ | ⟨u, -⟩ <;> omega
        rw [em1]
        simp (config := {decide := true}) only [f_X11_law_22, f_X11_law_66, f_X11_law_61, f_X11_law_44, f_X11_law_36, f_X11_law_8, f_X11_law_0, F_X11_law, bnd, e_isWithin, qa', bI_0, shT_1 h, shR_1_3 h, shR_1_4 h, shT_191 h, shT_193 h, t1, cT, ew, w4, a1, shT_1 S1, shR_1_3 S1, shT_191 S1, ee, lenp, k9, k10, n0, gT_sI, gT_sR, ne_eq, not_false_eq_true, and_self, and_true, true_and, and_false, false_and, true_or, or_true, false_or, or_false, not_true_eq_false, if_false, if_true]
    · have cF := eq_false qt
      rw [← cle] at cF
      refine ⟨-1, m, m, fun o => ?_, h, fun o => ?_, hR⟩
      · simp (config := {decide := true}) only [f_X11_law_22, f_X11_law_66, f_X11_law_61, f_X11_law_44, f_X11_law_36, f_X11_law_8, f_X11_law_0, F_X11_law, bnd, e_isWithin, qa', bI_0, shT_1 h, shR_1_3 h, shT_191 h, t1, cF, ne_eq, not_false_eq_true, and_self, and_true, true_and, and_false, false_and, true_or, or_true, false_or, or_false, not_true_eq_false, if_false, if_true]
      · simp (config := {decide := true}) only [f_X12_law_20, f_X12_law_125, f_X12_law_115, f_X12_law_101, f_X12_law_92, f_X12_law_91, f_X12_law_73, f_X12_law_69, f_X12_law_198, f_X12_law_186, f_X12_law_174, f_X12_law_162, f_X12_law_238, f_X12_law_226, f_X12_law_252, f_X12_law_128, f_X12_law_62, f_X12_law_52, f_X12_law_47, f_X12_law_42, f_X12_law_37, f_X12_law_32, f_X12_law_27, f_X12_law_9, f_X12_law_0, F_X12_law, bnd, hlies, qa', bI_0, t2, cF, shT_225 h, ne_eq, not_false_eq_true, and_self, and_true, true_and, and_false, false_and, true_or, or_true, false_or, or_false, not_true_eq_false, if_false, if_true]
  · have qa' := eq_false qa
    refine ⟨-1, m, m, fun o => ?_, h, fun o => ?_, hR⟩
    · simp (config := {decide := true}) only [f_X11_law_22, f_X11_law_66, f_X11_law_61, f_X11_law_44, f_X11_law_36, f_X11_law_8, f_X11_law_0, F_X11_law, bnd, e_isWithin, qa', bI_0, shT_1 h, ne_eq, not_false_eq_true, and_self, and_true, true_and, and_false, false_and, true_or, or_true, false_or, or_false, not_true_eq_false, if_false, if_true]
    · simp (config := {decide := true}) only [f_X12_law_20, f_X12_law_125, f_X12_law_115, f_X12_law_101, f_X12_law_92, f_X12_law_91, f_X12_law_73, f_X12_law_69, f_X12_law_198, f_X12_law_186, f_X12_law_174, f_X12_law_162, f_X12_law_238, f_X12_law_226, f_X12_law_252, f_X12_law_128, f_X12_law_62, f_X12_law_52, f_X12_law_47, f_X12_law_42, f_X12_law_37, f_X12_law_32, f_X12_law_27, f_X12_law_9, f_X12_law_0, F_X12_law, bnd, hlies, qa', bI_0, shT_225 h, ne_eq, not_false_eq_true, and_self, and_true, true_and, and_false, false_and, true_or, or_true, false_or, or_false, not_true_eq_false, if_false, if_true])
