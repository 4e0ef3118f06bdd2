/-! ===== whether the words fit: the other side ===== -/
theorem side_back {m4 m5 m6 : Mm} {a : Nat → Nat → Int32} {n c : Nat} (hW : WfA a n c) (s5 : EqA a (rws m4 257) 0 n c d0) (s6 : eN (a 0) (knum m4 0)) (kk : ∀ q i, 257 ≤ q → q ≤ 271 → gI m5 q i = gI m4 q i) (u3 : ∀ (a : Nat → Nat → Int32) (n c : Nat) (d : Nat → Int32), WfA a n c → EqA a (rws m5 257) 0 n c d → eN (a 0) (knum m5 0) → MM m6 a n c d) : MM m6 a n c d0 := by
  refine u3 a n c d0 hW ?_ ?_
  · obtain ⟨q1, q2, q3, q4⟩ := s5
    have ek : ∀ f, f ≤ 13 → ∀ i, rws m5 257 f i = rws m4 257 f i := fun f hf i => kk _ _ (by omega) (by omega)
    refine ⟨fun s hs => ?_, fun i hi => ?_, fun j hj => ?_, fun s hs i hi => ?_⟩
    · have := q1 s hs
      unfold eS at this ⊢
      rw [ek 0 (by omega), ek 1 (by omega), ek 2 (by omega), ek 3 (by omega), ek 4 (by omega), ek 5 (by omega), ek 6 (by omega)]
      exact this
    · obtain ⟨v1, v2, v3, v4, v5⟩ := q2 i hi
      refine ⟨?_, ?_, ?_, ?_, fun j hj => ?_⟩
      · rw [ek 7 (by omega)]; exact v1
      · rw [ek 8 (by omega)]; exact v2
      · rw [ek 9 (by omega)]; exact v3
      · rw [ek 10 (by omega)]; exact v4
      · rw [ek 11 (by omega)]; exact v5 j hj
    · rw [ek 12 (by omega)]; exact q3 j hj
    · rw [ek 13 (by omega)]; exact q4 s hs i hi
  · refine eN_cp (fun j hj => ?_) s6
    exact kk 271 _ (by omega) (by omega)
theorem l_fitM {m : Mm} (h : Sh m) {B : Nat → Nat} (hB : ∀ i, B i < 256) {nw n c t : Nat} (hn30 : nw ≤ 30) (hc : c ≤ 16) (ht : t < 10) (hok : ∀ j, j < nw → okW B n c j) (hw : wrdM B m nw) {X : Nat → Int32} (hX : ∀ x, x < c → gI m 256 x = X x) (K : Nat → Int32 → Int32 → Int32 → Mm → Prop → Int32 × Mm × Prop) : ∀ (k N i : Nat) (P : Prop) (o : Prop), i + k = nw → k < N → f_X12_fits_45 K N 225 (nI nw) (cI P) (nI t) (nI i) m o = K 225 (nI nw) (cI (P ∧ ∀ j, i ≤ j → j < nw → wDay B j = t → X (wCow B j) = wStk B j)) (nI (t + 1)) m o := by
  intro k
  induction k with
  | zero =>
    intro N i P o hi hN
    obtain ⟨N, rfl⟩ : ∃ N1, N = N1 + 1 := ⟨N - 1, by omega⟩
    obtain rfl : i = nw := by omega
    show f_X12_fits_45b K (f_X12_fits_45 K N) 225 (nI i) (cI P) (nI t) (nI i) m o = _
    unfold f_X12_fits_45b f_X12_fits_103
    rw [if_pos (Int32.le_refl _), nI_1]
    congr 2
    exact propext ⟨fun z => ⟨z, fun j h1 h2 => by omega⟩, fun z => z.1⟩
  | succ k ih =>
    intro N i P o hi hN
    obtain ⟨N, rfl⟩ : ∃ N1, N = N1 + 1 := ⟨N - 1, by omega⟩
    obtain ⟨y1, y2, y3⟩ := hw i (by omega)
    obtain ⟨z1, z2, z3⟩ := hok i (by omega)
    have hle : ¬ nI nw ≤ nI i := nI_ge (by omega) (by omega)
    have hin : vp_in (nI i) 30 := vp_in_nI (by omega) (by omega)
    have hin2 : vp_in (nI (wCow B i)) 16 := vp_in_nI (by omega) (by omega)
    have ed : (nI (wDay B i) = nI t) = (wDay B i = t) := propext (nI_eq (by omega) (by omega))
    show f_X12_fits_45b K (f_X12_fits_45 K N) 225 (nI nw) (cI P) (nI t) (nI i) m o = _
    by_cases qP : P
    · have c1 : cI P = 1 := cI_t qP
      have step : ∀ o (Q : Prop), (Q ↔ (wDay B i = t → X (wCow B i) = wStk B i)) → f_X12_fits_45 K N 225 (nI nw) (cI Q) (nI t) (nI (i + 1)) m o = K 225 (nI nw) (cI (P ∧ ∀ j, i ≤ j → j < nw → wDay B j = t → X (wCow B j) = wStk B j)) (nI (t + 1)) m o := fun o Q hQ => by
        rw [ih N (i + 1) Q o (by omega) (by omega)]
        congr 2
        refine propext ⟨fun z => ⟨qP, fun j h1 h2 => ?_⟩, fun z => ⟨hQ.mpr (z.2 i (Nat.le_refl i) (by omega)), fun j h1 h2 => z.2 j (by omega) h2⟩⟩
        by_cases q : j = i
        · rw [q]; exact hQ.mp z.1
        · exact z.2 j (by omega) h2
      unfold f_X12_fits_45b f_X12_fits_90 f_X12_fits_95
      rw [c1]
      simp (config := {decide := true}) only [shT_225 h, shR_225_49 h, shR_225_74 h, shR_225_75 h, shR_225_76 h, shT_256 h, shN_256 h, shT_278 h, shN_278 h, shT_279 h, shN_279 h, shT_280 h, shN_280 h, hle, hin, hin2, ix_nI (show i < 2 ^ 31 by omega), y1, y2, y3, ed, ix_nI (show wCow B i < 2 ^ 31 by omega), hX (wCow B i) z1, nI_1, ne_eq, not_false_eq_true, and_self, and_true, true_and, and_false, false_and, true_or, or_true, false_or, or_false, not_true_eq_false, if_false, if_true]
      by_cases q : wDay B i = t
      · rw [if_pos q]
        by_cases q2 : X (wCow B i) = wStk B i
        · rw [if_pos q2]
          have := step o True ⟨fun _ _ => q2, fun _ => trivial⟩
          rw [cI_t trivial] at this
          exact this
        · rw [if_neg q2]
          have := step o False ⟨fun z => z.elim, fun z => q2 (z q)⟩
          rw [cI_f id] at this
          exact this
      · rw [if_neg q]
        have := step o True ⟨fun _ z => absurd z q, fun _ => trivial⟩
        rw [cI_t trivial] at this
        exact this
    · have c0 : cI P = 0 := cI_f qP
      have c0' : cI (P ∧ ∀ j, i ≤ j → j < nw → wDay B j = t → X (wCow B j) = wStk B j) = 0 := cI_f (fun z => qP z.1)
      unfold f_X12_fits_45b f_X12_fits_103
      rw [if_neg hle, if_pos c0, c0, c0', nI_1]
theorem l_fitsM {C D : Nat → Nat → Int32} {nl : Nat} {T : Nat → (Nat → Int32) → Option Bool} {V : Nat → (Nat → Int32) → Option Int32} (hL : LwM (C 3) D nl T V) {n c nw : Nat} {d : Nat → Int32} {B : Nat → Nat} (hB : ∀ i, B i < 256) (hn30 : nw ≤ 30) (hok : ∀ j, j < nw → okW B n c j) : ∀ (k N t : Nat) (P : Prop) (a : Nat → Nat → Int32) (m : Mm), Sh m → lawM m D nl → MM m a n c d → WfA a n c → wrdM B m nw → t + k = 10 → k < N → ∃ m', (∀ o, f_X12_fits_26 N 225 (nI nw) (cI P) (nI t) m o = f_X12_fits_109 225 (cI (P ∧ FT (Ev C nl T V) (Gv C nl T V) n c B nw k t a)) m' o) ∧ Fr dyM m m' := by
  intro k
  induction k with
  | zero =>
    intro N t P a m h hA hE hW hw ht hN
    obtain ⟨N, rfl⟩ : ∃ N1, N = N1 + 1 := ⟨N - 1, by omega⟩
    obtain rfl : t = 10 := by omega
    refine ⟨m, fun o => ?_, Fr_refl _ m⟩
    show f_X12_fits_26b (f_X12_fits_26 N) 225 (nI nw) (cI P) (nI 10) m o = _
    unfold f_X12_fits_26b
    rw [if_pos (by decide)]
    congr 2
    exact propext ⟨fun z => ⟨z, trivial⟩, fun z => z.1⟩
  | succ k ih =>
    intro N t P a m h hA hE hW hw ht hN
    obtain ⟨N, rfl⟩ : ∃ N1, N = N1 + 1 := ⟨N - 1, by omega⟩
    have hc := hW.1.1.2
    have hle : ¬ (10 : Int32) ≤ nI t := (show ¬ (10 : Int32) ≤ nI (t) from nI_ge (a := t) (b := 10) (by omega) (by omega))
    by_cases qP : P
    · obtain ⟨m1, a1, a2, -, -, a5, a6⟩ := e_dayOne (V := V) hL h hA hE hW
      have h1 := Fr_Sh a6 h
      obtain ⟨W1, S1⟩ := WfA_day (Ev C nl T V) (Gv_nI C nl T V) hW
      have hw1 : wrdM B m1 nw := fun j hj => by
        obtain ⟨y1, y2, y3⟩ := hw j hj
        refine ⟨(Fr_at a6 ?_).trans y1, (Fr_at a6 ?_).trans y2, (Fr_at a6 ?_).trans y3⟩ <;> unfold dyM lmP <;> omega
      have inn := fun K P o => l_fitM h1 hB hn30 hc (show t < 10 by omega) hok hw1 a5 K nw 1000 0 P o (by omega) (by omega)
      rw [nI_0] at inn
      obtain ⟨m2, b1, b2⟩ := ih N (t + 1) (P ∧ ∀ j, 0 ≤ j → j < nw → wDay B j = t → dayT (Ev C nl T V) n c a (wCow B j) = wStk B j) _ m1 h1 (lawM_Fr hA a6 (fun q x hq => by unfold dyM lmP; omega)) a2 W1 hw1 (by omega) (by omega)
      refine ⟨m2, fun o => ?_, Fr_trans a6 b2⟩
      have pre : f_X12_fits_26b (f_X12_fits_26 N) 225 (nI nw) (cI P) (nI t) m o = f_X12_fits_45 (f_X12_fits_26 N) 1000 225 (nI nw) (cI P) (nI t) 0 m1 o := by
        have c1 : ¬ cI P = 0 := fun z => absurd ((cI_t qP).symm.trans z) (by decide)
        unfold f_X12_fits_26b
        rw [if_neg hle, if_neg c1]
        simp (config := {decide := true}) only [f_X12_fits_42, bnd, shT_225 h, a1, ne_eq, not_false_eq_true, and_self, and_true, true_and, and_false, false_and, true_or, or_true, false_or, or_false, not_true_eq_false, if_false, if_true]
      show f_X12_fits_26b (f_X12_fits_26 N) 225 (nI nw) (cI P) (nI t) m o = _
      rw [pre, inn, b1]
      congr 2
      exact propext ⟨fun z => ⟨z.1.1, fun j hj => z.1.2 j (Nat.zero_le j) hj, z.2⟩, fun z => ⟨⟨z.1, fun j _ hj => z.2.1 j hj⟩, z.2.2⟩⟩
    · refine ⟨m, fun o => ?_, Fr_refl _ m⟩
      show f_X12_fits_26b (f_X12_fits_26 N) 225 (nI nw) (cI P) (nI t) m o = _
      unfold f_X12_fits_26b
      have c0 : cI P = 0 := cI_f qP
      have c0' : cI (P ∧ FT (Ev C nl T V) (Gv C nl T V) n c B nw (k + 1) t a) = 0 := cI_f (fun z => qP z.1)
      rw [if_neg hle, if_pos c0, c0, c0']
def ftM (q i : Nat) : Prop := sideP 0 q i ∨ dyM q i ∨ nowP q i
theorem e_fitsM {C D : Nat → Nat → Int32} {nl : Nat} {T : Nat → (Nat → Int32) → Option Bool} {V : Nat → (Nat → Int32) → Option Int32} (hL : LwM (C 3) D nl T V) {a b : Nat → Nat → Int32} {n c nw : Nat} {B : Nat → Nat} (hB : ∀ i, B i < 256) (hn30 : nw ≤ 30) (hok : ∀ j, j < nw → okW B n c j) {m : Mm} (h : Sh m) (hA : lawM m D nl) (hE : MM m a n c d0) (hW : WfA a n c) (hw : wrdM B m nw) (hb : ag (noK a) b n c) (x y z : Int32) (hz : x ≠ -1 → a 0 10 + z = y) (hxy : ∀ b, WfA b n c → WfA (up (up b 0 8 x) 0 9 y) n c) : ∃ m', (∀ o, F_X12_fits 225 x z (nI nw) m o = (cI (FT (Ev C nl T V) (Gv C nl T V) n c B nw 10 0 (up (up b 0 8 x) 0 9 y)), m', o)) ∧ MM m' a n c d0 ∧ Fr ftM m m' := by
  have hc := hW.1.1.2
  obtain ⟨m4, s1, s2, s3, s4⟩ := e_setsAside h (k := 0) (by omega)
  obtain ⟨s5, s6⟩ := s3 a n c d0 hW hE
  have h4 := Fr_Sh s2 h
  have g4 : gI m4 225 4 = a 0 10 := (Fr_at s2 (by unfold sideP; omega)).trans hE.2.2.2.1
  have hE4 : MM m4 b n c (a 3) := ag_MM hb hc (MM_noK (MM_frame hE (fun q i hq => Fr_at s2 (by unfold sideP; omega))))
  generalize hm5 : sI (sI m4 225 6 x) 225 7 (a 0 10 + z) = m5
  have F5 : Fr (fun q i => q = 225 ∧ (i = 6 ∨ i = 7)) m4 m5 := by
    rw [← hm5]
    exact Fr_sI (Fr_sI (Fr_refl _ m4) ⟨rfl, .inl rfl⟩ _) ⟨rfl, .inr rfl⟩ _
  have h5 := Fr_Sh F5 h4
  have hE5 : MM m5 (up (up b 0 8 x) 0 9 y) n c (a 3) := by
    obtain ⟨⟨e1, e2, e3, e4⟩, e5, e6, e7, e8, e9, e10⟩ := hE4
    have u : ∀ j i, j ≠ 0 → up (up b 0 8 x) 0 9 y j i = b j i := fun j i hj => by rw [up_ne _ _ (fun z => hj z.1), up_ne _ _ (fun z => hj z.1)]
    have u' : ∀ j, j ≠ 0 → up (up b 0 8 x) 0 9 y j = b j := fun j hj => funext (fun i => u j i hj)
    have g : ∀ q i, ¬ q = 225 → gI m5 q i = gI m4 q i := fun q i hq => Fr_at F5 (fun z => hq z.1)
    have gr : ∀ f, f ≤ 13 → rws m5 227 f = rws m4 227 f := fun f hf => funext (fun i => g _ _ (by omega))
    refine ⟨⟨fun s hs => ?_, fun i hi => ?_, fun j hj => ?_, fun s hs i hi => ?_⟩, ?_⟩
    · have := e1 s hs
      unfold eS at this ⊢
      rw [gr 0 (by omega), gr 1 (by omega), gr 2 (by omega), gr 3 (by omega), gr 4 (by omega), gr 5 (by omega), gr 6 (by omega), u' _ (by omega)]
      exact this
    · have := e2 i hi
      unfold eC at this ⊢
      rw [gr 7 (by omega), gr 8 (by omega), gr 9 (by omega), gr 10 (by omega), gr 11 (by omega), u' _ (by omega), u' _ (by omega)]
      exact this
    · rw [gr 12 (by omega), u' _ (by omega)]; exact e3 j hj
    · rw [gr 13 (by omega), u' _ (by omega)]; exact e4 s hs i hi
    · refine ⟨?_, ?_, ?_, ?_, fun hx => ?_, ?_⟩
      · rw [show up (up b 0 8 x) 0 9 y 0 6 = b 0 6 from rfl, ← e5, ← hm5]; rfl
      · rw [show up (up b 0 8 x) 0 9 y 0 7 = b 0 7 from rfl, ← e6, ← hm5]; rfl
      · rw [show up (up b 0 8 x) 0 9 y 0 10 = b 0 10 from rfl, ← e7, ← hm5]; rfl
      · rw [show up (up b 0 8 x) 0 9 y 0 8 = x from rfl, ← hm5]; rfl
      · have hx : x ≠ -1 := hx
        rw [show up (up b 0 8 x) 0 9 y 0 9 = y from rfl, ← hz hx, ← hm5]; rfl
      · rw [show up (up b 0 8 x) 0 9 y 0 11 = b 0 11 from rfl, ← e10, ← hm5]; rfl
  have hWb := hxy b (ag_Wf hb (WfA_noK hW))
  have lM4 : lawM m4 D nl := lawM_Fr hA s2 (fun q i hq => by unfold sideP; omega)
  have lM5 : lawM m5 D nl := lawM_Fr lM4 F5 (fun q i hq => by omega)
  have hw5 : wrdM B m5 nw := fun j hj => by
    obtain ⟨y1, y2, y3⟩ := hw j hj
    have g : ∀ q i, 278 ≤ q → gI m5 q i = gI m q i := fun q i hq => (Fr_at F5 (by omega)).trans (Fr_at s2 (by unfold sideP; omega))
    exact ⟨(g _ _ (by omega)).trans y1, (g _ _ (by omega)).trans y2, (g _ _ (by omega)).trans y3⟩
  obtain ⟨m6, t1, t2⟩ := l_fitsM (V := V) hL hB hn30 hok 10 1000 0 True _ m5 h5 lM5 hE5 hWb hw5 (by omega) (by omega)
  have h6 := Fr_Sh t2 h5
  obtain ⟨m7, u1, u2, u3⟩ := e_putsBack h6 (k := 0) (by omega)
  have kk : ∀ q i, 257 ≤ q → q ≤ 271 → gI m6 q i = gI m4 q i := fun q i z1 z2 => (Fr_at t2 (by unfold dyM lmP; omega)).trans (Fr_at F5 (by omega))
  have hE7 := side_back hW s5 s6 kk u3
  rw [nI_0, cI_t trivial] at t1
  rw [nI_0] at s1 u1
  refine ⟨m7, fun o => ?_, hE7, Fr_trans (Fr_trans (Fr_trans (Fr_mono s2 (fun q i hq => .inl hq)) (Fr_mono F5 (fun q i hq => .inr (.inr (by unfold nowP; omega))))) (Fr_mono t2 (fun q i hq => .inr (.inl hq)))) (Fr_mono u2 (fun q i hq => .inr (.inr hq)))⟩
  have h4' : Sh (sI m4 225 6 x) := h4
  have g4' : gI (sI m4 225 6 x) 225 4 = a 0 10 := g4
  have cc : ∀ Q : Prop, (cI Q = 0 ∨ cI Q = 1) = True := fun Q => eq_true (by
    by_cases q : Q
    · exact .inr (cI_t q)
    · exact .inl (cI_f q))
  simp (config := {decide := true}) only [F_X12_fits, f_X12_fits_0, f_X12_fits_5, f_X12_fits_10, f_X12_fits_20, bnd, shT_225 h, s1, shT_225 h4, shT_225 h4', g4', hm5, t1, ne_eq, not_false_eq_true, and_self, and_true, true_and, and_false, false_and, true_or, or_true, false_or, or_false, not_true_eq_false, if_false, if_true]
  simp (config := {decide := true}) only [f_X12_fits_109, f_X12_fits_114, bnd, shT_225 h6, u1, cc, ne_eq, not_false_eq_true, and_self, and_true, true_and, and_false, false_and, true_or, or_true, false_or, or_false, not_true_eq_false, if_false, if_true]
