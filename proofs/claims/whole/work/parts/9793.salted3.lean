/-! ===== salted: both sides ===== -/
theorem ag_refl (a : Nat → Nat → Int32) (n c : Nat) : ag a a n c := ⟨fun _ _ _ => rfl, fun _ _ => ⟨fun _ _ => rfl, fun _ _ => rfl⟩, fun _ _ => ⟨fun _ _ => rfl, fun _ _ => rfl⟩, fun _ _ => rfl⟩
theorem cI_inj {P Q : Prop} (h : cI P = cI Q) : P ↔ Q := by
  constructor
  · intro p
    rw [cI_t p] at h
    by_cases q : Q
    · exact q
    · rw [cI_f q] at h; exact absurd h (by decide)
  · intro q
    rw [cI_t q] at h
    by_cases p : P
    · exact p
    · rw [cI_f p] at h; exact absurd h (by decide)
theorem tape_B {m : Mm} (hR : Rel m) : ∃ (t : Nat) (B : Nat → Nat), t ≤ 220 ∧ (∀ i, B i < 256) ∧ gI m 191 1 = nI t ∧ gI m 225 1 = nI t ∧ ∀ i, i < t → gI m 192 i = nI (B i) ∧ gI m 226 i &&& 255 = nI (B i) := by
  obtain ⟨-, -, -, -, -, ⟨t, ht, h1, h2, h3⟩, -⟩ := hR
  refine ⟨t, fun i => ix (gI m 192 i) % 256, ht, fun i => Nat.mod_lt _ (by omega), h1, h2, fun i hi => ?_⟩
  obtain ⟨⟨b, hb, e⟩, e2⟩ := h3 i hi
  have : ix (gI m 192 i) % 256 = b := by rw [e, ix_nI (by omega)]; omega
  refine ⟨?_, ?_⟩
  · show _ = nI (ix (gI m 192 i) % 256)
    rw [this]; exact e
  · show _ = nI (ix (gI m 192 i) % 256)
    rw [this, e2]; exact e
def fcP (w q i : Nat) : Prop := dyC 128 w q i ∨ v3P q i
/-- the ghost may be any that agrees -/
theorem FT_ag {C D : Nat → Nat → Int32} {nl : Nat} {T : Nat → (Nat → Int32) → Option Bool} {V : Nat → (Nat → Int32) → Option Int32} (hL : LwM (C 3) D nl T V) {a : Nat → Nat → Int32} {n c nw : Nat} {B : Nat → Nat} (hB : ∀ i, B i < 256) (hn30 : nw ≤ 30) (hok : ∀ j, j < nw → okW B n c j) {m : Mm} (h : Sh m) (hA : lawM m D nl) (hE : MM m a n c d0) (hW : WfA a n c) (hw : wrdM B m nw) {b : Nat → Nat → Int32} (hb : ag (noK a) b n c) {x y z : Int32} (hz : x ≠ -1 → a 0 10 + z = y) (hx : (x = -1 ∧ y = -1) ∨ ∃ s, s < n ∧ x = nI s) : FT (Ev C nl T V) (Gv C nl T V) n c B nw 10 0 (up (up b 0 8 x) 0 9 y) ↔ FT (Ev C nl T V) (Gv C nl T V) n c B nw 10 0 (up (up (noK a) 0 8 x) 0 9 y) := by
  obtain ⟨m1, a1, -⟩ := e_fitsM (V := V) hL hB hn30 hok h hA hE hW hw hb x y z hz (fun b hb => WfA_salt hb hx)
  obtain ⟨m2, b1, -⟩ := e_fitsM (V := V) hL hB hn30 hok h hA hE hW hw (ag_refl (noK a) n c) x y z hz (fun b hb => WfA_salt hb hx)
  have := (a1 True).symm.trans (b1 True)
  exact cI_inj (congrArg (fun p => p.1) this)
theorem Rel_empty {m m' : Mm} (hR : Rel m) {a : Nat → Nat → Int32} {n c : Nat} (hS : Sh m') (hr : gR m' 1 9 = gR m 1 9 ∧ gR m' 1 10 = gR m 1 10) (hf : ∀ q i, keepP q i → ¬ (q = 191 ∧ i = 1) → ¬ (q = 225 ∧ i = 1) → gI m' q i = gI m q i) (h1 : gI m' 191 1 = 0) (h2 : gI m' 225 1 = 0) (hM : Md m' 2 a) (hW : WfA a n c) (hE : MM m' a n c d0) : Rel m' := by
  have hR1 : Rel (sI (sI m 191 1 0) 225 1 0) := Tape_0 hR hR.1 ⟨rfl, rfl⟩ (fun q i hq => by
    unfold inTape at hq
    rw [gI_sI, if_neg (by omega), gI_sI, if_neg (by omega)]) rfl rfl
  refine Rel_ghost hR1 hS hr (fun q i hq => ?_) hM hW hE
  by_cases q1 : q = 225 ∧ i = 1
  · obtain ⟨rfl, rfl⟩ := q1
    exact h2
  · rw [gI_sI, if_neg q1]
    by_cases q2 : q = 191 ∧ i = 1
    · obtain ⟨rfl, rfl⟩ := q2
      exact h1
    · rw [gI_sI, if_neg q2]
      exact hf q i hq q2 q1
def scP (w q i : Nat) : Prop := fcP w q i ∨ rdP q i ∨ (q = 191 ∧ i = 1)
def srP (q i : Nat) : Prop := ftM q i ∨ tkP q i ∨ (q = 225 ∧ i = 1)
theorem p_salted : Pr_salted Rel := fun x y => PrI_ex (fun m hR => by
  have h := hR.1
  obtain ⟨a, n, c, C, D, nl, T, V, ⟨hM, hW, hE⟩, l1, l2, l3, l4, l5, l6⟩ := Rel_all hR
  obtain ⟨t, B, ht, hB, t1, t2, tb⟩ := tape_B hR
  have hn := hW.1.1.1
  have hc := hW.1.1.2
  have hw : isW (gR m 1 9) := l1.1
  have h6 : gI m 2 6 = nI n := (hM 0 6 (by omega) (by omega)).trans hW.1.2.1
  have h7 : gI m 2 7 = nI c := (hM 0 7 (by omega) (by omega)).trans hW.1.2.2.1
  have lx := e_lies x 1 30
  have ly := e_lies y 0 2
  rw [show Int32.toInt64 1 = 1 by decide, show Int32.toInt64 30 = 30 by decide] at lx
  rw [show Int32.toInt64 0 = 0 by decide, show Int32.toInt64 2 = 2 by decide] at ly
  by_cases qx : 1 ≤ x ∧ x ≤ 30
  · have rx : (1 ≤ x ∧ x ≤ 30) = True := eq_true qx
    by_cases qy : 0 ≤ y ∧ y ≤ 2
    · have ry : (0 ≤ y ∧ y ≤ 2) = True := eq_true qy
      obtain ⟨nw, hnw, rfl⟩ := rng_in (N := 30) (by decide) ⟨Int32.le_trans (by decide) qx.1, qx.2⟩
      have e3 : (3 : Int32) * nI nw = nI (3 * nw) := by rw [show (3 : Int32) = nI 3 from rfl, pk_mul]
      have le3 : (nI (3 * nw) ≤ nI t) = (3 * nw ≤ t) := propext (nI_leI (by omega) (by omega))
      by_cases qt : 3 * nw ≤ t
      · -- the class reads the words
        generalize hm0 : sI (sI m 197 4 (nI nw)) 197 5 0 = m0
        have F0 : Fr rdP m m0 := by
          rw [← hm0]
          exact Fr_sI (Fr_sI (Fr_refl _ m) (by unfold rdP; omega) _) (by unfold rdP; omega) _
        have h0 := Fr_Sh F0 h
        have f0 : ∀ q i, ¬ rdP q i → gI m0 q i = gI m q i := fun q i hq => Fr_at F0 hq
        obtain ⟨m1, Lm, r, a1, a2, a3, a4, a5, a6, a7, a8, a9⟩ := l_read h0 hB ht qt hnw hn hc ((f0 _ _ (by unfold rdP; omega)).trans t1) (fun i hi => (f0 _ _ (by unfold rdP; omega)).trans (tb i hi).1) ((f0 _ _ (by unfold rdP; omega)).trans h6) ((f0 _ _ (by unfold rdP; omega)).trans h7) nw 1000 0 0 1 m0 (by omega) (by omega) (Fr_refl _ m0) (fun j hj => by omega) (by rw [← hm0]; rfl) (by omega) (fun j hj => by omega) (.inr rfl) ⟨fun _ j hj => by omega, fun _ => rfl⟩
        rw [nI_0] at a1
        have F1 : Fr rdP m m1 := Fr_trans F0 a2
        have h1 := Fr_Sh F1 h
        have g4 : gI m1 197 4 = nI nw := a3.trans (by rw [← hm0]; rfl)
        have rd : ∀ o, F_X10_readFrom 197 191 (nI nw) 2 m o = (r, m1, o) := fun o => by
          simp (config := {decide := true}) only [F_X10_readFrom, f_X10_readFrom_0, f_X10_readFrom_5, f_X10_readFrom_10, shT_197 h, gT_sI, hm0, a1, ne_eq, not_false_eq_true, and_self, and_true, true_and, and_false, false_and, true_or, or_true, false_or, or_false, not_true_eq_false, if_false, if_true]
        generalize hm2 : sI m1 191 1 0 = m2
        have F2 : Fr (fun q i => q = 191 ∧ i = 1) m1 m2 := by
          rw [← hm2]
          exact Fr_sI (Fr_refl _ m1) ⟨rfl, rfl⟩ _
        have h2 := Fr_Sh F2 h1
        have F12 : Fr (scP (gR m 1 9)) m m2 := Fr_trans (Fr_mono F1 (fun q i hq => .inr (.inl hq))) (Fr_mono F2 (fun q i hq => .inr (.inr hq)))
        have z2 : gI m2 191 1 = 0 := by rw [← hm2]; rfl
        have em : ∀ o, F_X9_empty 191 m1 o = ((), m2, o) := fun o => by rw [e_empty h1, hm2]
        have f2 : ∀ q i, ¬ scP (gR m 1 9) q i → gI m2 q i = gI m q i := fun q i hq => Fr_at F12 hq
        -- a frame of the other side's reading, from any memory
        have tk : ∀ m3, Sh m3 → (∀ q i, 225 ≤ q → ¬ (q = 225 ∧ i = 1) → gI m3 q i = gI m q i) → ∃ m4, (∀ o, F_X12_takesWords 225 (nI nw) m3 o = (r, m4, o)) ∧ Fr tkP m3 m4 ∧ wrdM B m4 nw := fun m3 h3 hf => by
          obtain ⟨m4, r', b1, b2, b3, b4, b5⟩ := l_take h3 hB ht qt hnw hn hc (fun i hi => by rw [hf 226 i (by omega) (by omega)]; exact (tb i hi).2) ((hf 225 2 (by omega) (by omega)).trans (hE.2.1.trans hW.1.2.1)) ((hf 225 3 (by omega) (by omega)).trans (hE.2.2.1.trans hW.1.2.2.1)) nw 1000 0 1 m3 (by omega) (by omega) (Fr_refl _ m3) (fun j hj => by omega) (.inr rfl) ⟨fun _ j hj => by omega, fun _ => rfl⟩
          rw [nI_0] at b1
          have er : r' = r := by
            have := b5.trans a9.symm
            rcases b4 with z | z
            · rcases a8 with y | y
              · rw [z, y]
              · exact absurd (z.symm.trans (this.mpr y)) (by decide)
            · rw [z, this.mp z]
          subst er
          exact ⟨m4, b1, b2, b3⟩
        by_cases qr : r = 0
        · -- some word is out of bounds
          have h3 : Sh (sI m2 225 1 0) := h2
          obtain ⟨m4, b1, b2, b3⟩ := tk (sI m2 225 1 0) h3 (fun q i z1 z2 => by rw [gI_sI, if_neg z2]; exact f2 q i (by unfold scP fcP rdP dyC lwP v3P; rcases hw with z | z <;> omega))
          have h4 := Fr_Sh b2 h3
          have F4 : Fr srP m2 m4 := Fr_trans (Fr_sI (Fr_refl _ m2) (.inr (.inr ⟨rfl, rfl⟩)) _) (Fr_mono b2 (fun q i hq => .inr (.inl hq)))
          have f4 : ∀ q i, ¬ tkP q i → ¬ (q = 225 ∧ i = 1) → gI m4 q i = gI m2 q i := fun q i z1 z2 => by rw [Fr_at b2 z1, gI_sI, if_neg z2]
          refine ⟨-2, m2, m4, fun o => ?_, h2, fun o => ?_, Rel_empty hR h4 ⟨(Fr_R F4 1 9).trans (Fr_R F12 1 9), (Fr_R F4 1 10).trans (Fr_R F12 1 10)⟩ (fun q i hq n1 n2 => ?_) ((f4 _ _ (by unfold tkP; omega) (by omega)).trans z2) ((Fr_at b2 (by unfold tkP; omega)).trans rfl) (Md_frame hM (fun q i hq => ?_)) hW (MM_frame hE (fun q i hq => ?_))⟩
          · simp (config := {decide := true}) only [F_X11_salted, f_X11_salted_0, f_X11_salted_7, f_X11_salted_16, f_X11_salted_51, f_X11_salted_59, bnd, e_isWithin, rx, ry, bI_0, e3, t1, le3, qt, shT_1 h, shR_1_0 h, shR_1_3 h, shR_1_6 h, shT_2 h, shT_191 h, shT_197 h, shT_1 h1, shR_1_3 h1, shT_191 h1, rd, em, qr, ne_eq, not_false_eq_true, and_self, and_true, true_and, and_false, false_and, true_or, or_true, false_or, or_false, not_true_eq_false, if_false, if_true]
          · have g1 : gI m2 225 1 = nI t := (f2 _ _ (by unfold scP fcP rdP dyC lwP v3P; rcases hw with z | z <;> omega)).trans t2
            simp (config := {decide := true}) only [F_X12_salted, f_X12_salted_0, f_X12_salted_9, f_X12_salted_21, f_X12_salted_42, f_X12_salted_47, bnd, lx, ly, rx, ry, bI_0, e3, g1, le3, qt, shT_225 h2, shT_225 h3, b1, qr, ne_eq, not_false_eq_true, and_self, and_true, true_and, and_false, false_and, true_or, or_true, false_or, or_false, not_true_eq_false, if_false, if_true]
          · rw [f4 q i (by unfold tkP; unfold keepP inKept inTape inLaw at hq; omega) n2]
            refine f2 q i ?_
            unfold scP fcP rdP dyC lwP v3P
            unfold keepP inKept inTape inLaw at hq
            rcases hw with z | z <;> rw [z] <;> omega
          · unfold inM at hq
            rw [f4 q i (by unfold tkP; omega) (by omega)]
            refine f2 q i ?_
            unfold scP fcP rdP dyC lwP v3P
            rcases hw with z | z <;> rw [z] <;> omega
          · rw [f4 q i (by unfold tkP; omega) (by omega)]
            refine f2 q i ?_
            unfold scP fcP rdP dyC lwP v3P
            rcases hw with z | z <;> rw [z] <;> omega
        · -- all words are good
          have hok : ∀ j, j < nw → okW B n c j := a9.mp (a8.resolve_left qr)
          obtain ⟨mt, -, t4, t5⟩ := tk m h (fun _ _ _ _ => rfl)
          have ht' := Fr_Sh t4 h
          have can : ∀ {b : Nat → Nat → Int32}, ag (noK a) b n c → ∀ {x y z : Int32}, (x ≠ -1 → a 0 10 + z = y) → ((x = -1 ∧ y = -1) ∨ ∃ s, s < n ∧ x = nI s) → (FT (Ev C nl T V) (Gv C nl T V) n c B nw 10 0 (up (up b 0 8 x) 0 9 y) ↔ FT (Ev C nl T V) (Gv C nl T V) n c B nw 10 0 (up (up (noK a) 0 8 x) 0 9 y)) := fun hb _ _ _ hz hx => FT_ag l4 hB hnw hok ht' (lawM_Fr l2 t4 (fun q i hq => by unfold tkP; omega)) (MM_frame hE (fun q i hq => Fr_at t4 (by unfold tkP; omega))) hW t5 hb hz hx
          -- the class
          generalize hm3 : sI (sI (sI m2 197 6 0) 197 7 13) 197 8 13 = m3
          have F3 : Fr v3P m2 m3 := by
            rw [← hm3]
            exact Fr_sI (Fr_sI (Fr_sI (Fr_refl _ m2) (by unfold v3P; omega) _) (by unfold v3P; omega) _) (by unfold v3P; omega) _
          have h3 := Fr_Sh F3 h2
          obtain ⟨m4, b1, b2, b3⟩ := e_forget h3 (p := 128) (.inr (.inr rfl))
          have h4 := Fr_Sh b2 h3
          have F24 : Fr (fcP (gR m 1 9)) m2 m4 := Fr_trans (Fr_mono F3 (fun q i hq => .inr hq)) (Fr_mono b2 (fun q i hq => .inl (.inr ⟨by omega, by omega⟩)))
          have v4 : V3 m4 (0, 13, 13) := by
            refine ⟨(Fr_at b2 (by omega)).trans ?_, (Fr_at b2 (by omega)).trans ?_, (Fr_at b2 (by omega)).trans ?_⟩ <;> rw [← hm3] <;> rfl
          have base : ∀ m', Fr (fcP (gR m 1 9)) m2 m' → Sh m' ∧ lawAt m' (gR m 1 9) C nl ∧ Md m' 2 a ∧ wrdC B m' nw ∧ gI m' 197 4 = nI nw ∧ gI m' 197 5 = nI Lm := fun m' F => by
            have FF' : Fr (scP (gR m 1 9)) m m' := Fr_trans F12 (Fr_mono F (fun q i hq => .inl hq))
            have g1 : ∀ q i, 197 ≤ q → q ≤ 200 → ¬ v3P q i → gI m' q i = gI m1 q i := fun q i z1 z2 z3 => (Fr_at F (by unfold v3P at z3; unfold fcP dyC lwP v3P; rcases hw with z | z <;> rw [z] <;> omega)).trans (Fr_at F2 (by omega))
            refine ⟨Fr_Sh F h2, lawAt_Fr l1 FF' (fun q i hq => ?_), Md_frame hM (fun q i hq => Fr_at FF' ?_), fun j hj => ?_, (g1 _ _ (by omega) (by omega) (by unfold v3P; omega)).trans g4, (g1 _ _ (by omega) (by omega) (by unfold v3P; omega)).trans a5⟩
            · unfold scP fcP rdP dyC lwP v3P
              rcases hw with z | z <;> rw [z] at hq ⊢ <;> omega
            · unfold inM at hq
              unfold scP fcP rdP dyC lwP v3P
              rcases hw with z | z <;> rw [z] <;> omega
            · rw [g1 198 j (by omega) (by omega) (by unfold v3P; omega), g1 199 j (by omega) (by omega) (by unfold v3P; omega), g1 200 j (by omega) (by omega) (by unfold v3P; omega)]
              exact a4 j hj
          have one : ∀ m', (Fr (fcP (gR m 1 9)) m2 m' ∧ KC (Ev C nl T V) (C 8) m' 128 a n c) → ∀ x y z : Int32, (x ≠ -1 → a 0 10 + z = y) → ((x = -1 ∧ y = -1) ∨ ∃ s, s < n ∧ x = nI s) → ∃ m'', (∀ o, F_X10_fits 197 2 (gR m 1 9) x y m' o = (cI (FT (Ev C nl T V) (Gv C nl T V) n c B nw 10 0 (up (up (noK a) 0 8 x) 0 9 y)), m'', o)) ∧ (Fr (fcP (gR m 1 9)) m2 m'' ∧ KC (Ev C nl T V) (C 8) m'' 128 a n c) ∧ Fr (dyC 128 (gR m 1 9)) m' m'' := fun m' hq x y z hz hx => by
            obtain ⟨s1, s2, s3, s4, s5, s6⟩ := base m' hq.1
            obtain ⟨m'', b, d1, d2, d3, d4⟩ := e_fitsC l3 l5 l6 hB hnw hok a6 a7 s1 s2 s3 hW hq.2 s4 s5 s6 x y (fun b hb => WfA_salt hb hx)
            refine ⟨m'', fun o => ?_, ⟨Fr_trans hq.1 (Fr_mono d4 (fun q i hq => .inl hq)), d3⟩, d4⟩
            rw [d1 o, show FT (Ev C nl T V) (Gv C nl T V) n c B nw 10 0 (up (up b 0 8 x) 0 9 y) = FT (Ev C nl T V) (Gv C nl T V) n c B nw 10 0 (up (up (noK a) 0 8 x) 0 9 y) from propext (can d2 hz hx)]
          obtain ⟨m5, c1, c2, c3⟩ := l_ffS hw hn (st := fun s => a (7 + 2 * s) 7) (day := a 0 10) (QC := fun m' => Fr (fcP (gR m 1 9)) m2 m' ∧ KC (Ev C nl T V) (C 8) m' 128 a n c) (fun m' hq => by
              obtain ⟨s1, s2, s3, s4, s5, s6⟩ := base m' hq.1
              exact ⟨s1, fun s hs => Md_at s3 (by omega) (by omega) (by omega), s3 0 10 (by omega) (by omega)⟩) (fun m' hq => by
              obtain ⟨s1, s2, s3, s4, s5, s6⟩ := base m' hq.1
              exact (s3 0 6 (by omega) (by omega)).trans hW.1.2.1) (fun m' m'' hq F => ⟨Fr_trans hq.1 (Fr_mono F (fun q i hq => .inr hq)), KC_Fr hq.2 F (fun i => by unfold v3P; omega)⟩) (FF := fun s d => FT (Ev C nl T V) (Gv C nl T V) n c B nw 10 0 (up (up (noK a) 0 8 (nI s)) 0 9 (a 0 10 + nI d))) (fun m' hq s d hs hd => one m' hq (nI s) (a 0 10 + nI d) (nI d) (fun _ => rfl) (.inr ⟨s, hs, rfl⟩)) (F0 := FT (Ev C nl T V) (Gv C nl T V) n c B nw 10 0 (up (up (noK a) 0 8 (-1)) 0 9 (-1))) (fun m' hq => one m' hq (-1) (-1) 0 (fun z => absurd rfl z) (.inl ⟨rfl, rfl⟩)) n 1000 0 (0, 13, 13) m4 ⟨F24, b3 _ _ _ _ _ hn hc⟩ v4 (by omega) (by omega)
          rw [nI_0] at c1
          have h5 := Fr_Sh c2.1 h2
          have F5 : Fr (scP (gR m 1 9)) m m5 := Fr_trans F12 (Fr_mono c2.1 (fun q i hq => .inl hq))
          have f5 : ∀ q i, ¬ scP (gR m 1 9) q i → gI m5 q i = gI m q i := fun q i hq => Fr_at F5 hq
          have z5 : gI m5 191 1 = 0 := (Fr_at c2.1 (by unfold fcP dyC lwP v3P; rcases hw with z | z <;> rw [z] <;> omega)).trans z2
          -- the other side
          have h6' : Sh (sI m5 225 1 0) := h5
          obtain ⟨m7, d1, d2, d3⟩ := tk (sI m5 225 1 0) h6' (fun q i z1 z2 => by rw [gI_sI, if_neg z2]; exact f5 q i (by unfold scP fcP rdP dyC lwP v3P; rcases hw with z | z <;> omega))
          have h7' := Fr_Sh d2 h6'
          have f7 : ∀ q i, ¬ tkP q i → ¬ (q = 225 ∧ i = 1) → gI m7 q i = gI m5 q i := fun q i z1 z2 => by rw [Fr_at d2 z1, gI_sI, if_neg z2]
          have F57 : Fr srP m5 m7 := Fr_trans (Fr_sI (Fr_refl _ m5) (.inr (.inr ⟨rfl, rfl⟩)) _) (Fr_mono d2 (fun q i hq => .inr (.inl hq)))
          have E7 : MM m7 a n c d0 := MM_frame hE (fun q i hq => (f7 q i (by unfold tkP; omega) (by omega)).trans (f5 q i (by unfold scP fcP rdP dyC lwP v3P; rcases hw with z | z <;> rw [z] <;> omega)))
          have L7 : lawM m7 D nl := lawM_Fr (lawM_Fr l2 F5 (fun q i hq => by unfold scP fcP rdP dyC lwP v3P; rcases hw with z | z <;> rw [z] <;> omega)) F57 (fun q i hq => by unfold srP ftM sideP dyM lmP nowP tkP; omega)
          have oneM : ∀ m', (Fr ftM m7 m' ∧ MM m' a n c d0) → ∀ x y z : Int32, (x ≠ -1 → a 0 10 + z = y) → ((x = -1 ∧ y = -1) ∨ ∃ s, s < n ∧ x = nI s) → ∃ m'', (∀ o, F_X12_fits 225 x z (nI nw) m' o = (cI (FT (Ev C nl T V) (Gv C nl T V) n c B nw 10 0 (up (up (noK a) 0 8 x) 0 9 y)), m'', o)) ∧ (Fr ftM m7 m'' ∧ MM m'' a n c d0) := fun m' hq x y z hz hx => by
            have hL' : lawM m' D nl := lawM_Fr L7 hq.1 (fun q i hq => by unfold ftM sideP dyM lmP nowP; omega)
            have hw' : wrdM B m' nw := fun j hj => by
              have g : ∀ q i, 278 ≤ q → gI m' q i = gI m7 q i := fun q i hx => Fr_at hq.1 (by unfold ftM sideP dyM lmP nowP; omega)
              rw [g _ _ (by omega), g _ _ (by omega), g _ _ (by omega)]
              exact d3 j hj
            obtain ⟨m'', e1, e2, e3⟩ := e_fitsM (V := V) l4 hB hnw hok (Fr_Sh hq.1 h7') hL' hq.2 hW hw' (ag_refl (noK a) n c) x y z hz (fun b hb => WfA_salt hb hx)
            exact ⟨m'', e1, Fr_trans hq.1 e3, e2⟩
          obtain ⟨m8, k1, k2⟩ := l_sS (nw := nw) hn (st := fun s => a (7 + 2 * s) 7) (QM := fun m' => Fr ftM m7 m' ∧ MM m' a n c d0) (fun m' hq => ⟨Fr_Sh hq.1 h7', fun s hs => (MM_at hq.2 hs).2.2.2.2.2.2⟩) (fun m' hq => hq.2.2.1.trans hW.1.2.1) (FF := fun s d => FT (Ev C nl T V) (Gv C nl T V) n c B nw 10 0 (up (up (noK a) 0 8 (nI s)) 0 9 (a 0 10 + nI d))) (fun m' hq s d hs hd => oneM m' hq (nI s) (a 0 10 + nI d) (nI d) (fun _ => rfl) (.inr ⟨s, hs, rfl⟩)) (F0 := FT (Ev C nl T V) (Gv C nl T V) n c B nw 10 0 (up (up (noK a) 0 8 (-1)) 0 9 (-1))) (fun m' hq => oneM m' hq (-1) (-1) 0 (fun z => absurd rfl z) (.inl ⟨rfl, rfl⟩)) y n 1000 0 (0, 13, 13) m7 ⟨Fr_refl _ m7, E7⟩ (by omega) (by omega)
          rw [nI_0] at k1
          have h8 := Fr_Sh k2.1 h7'
          have F8 : Fr srP m5 m8 := Fr_trans F57 (Fr_mono k2.1 (fun q i hq => .inl hq))
          have z8 : gI m8 225 1 = 0 := (Fr_at k2.1 (by unfold ftM sideP dyM lmP nowP; omega)).trans ((Fr_at d2 (by unfold tkP; omega)).trans rfl)
          refine ⟨selF y (stp (FT (Ev C nl T V) (Gv C nl T V) n c B nw 10 0 (up (up (noK a) 0 8 (-1)) 0 9 (-1))) 12 12 (gFS (fun s => a (7 + 2 * s) 7) (fun s d => FT (Ev C nl T V) (Gv C nl T V) n c B nw 10 0 (up (up (noK a) 0 8 (nI s)) 0 9 (a 0 10 + nI d))) n 0 (0, 13, 13))), m5, m8, fun o => ?_, h5, fun o => ?_, Rel_empty hR h8 ⟨(Fr_R F8 1 9).trans (Fr_R F5 1 9), (Fr_R F8 1 10).trans (Fr_R F5 1 10)⟩ (fun q i hq n1 n2 => ?_) ((Fr_at F8 (by unfold srP ftM sideP dyM lmP nowP tkP; omega)).trans z5) z8 (Md_frame hM (fun q i hq => ?_)) hW k2.2⟩
          · have r2 : gR m2 1 9 = gR m 1 9 := Fr_R F12 1 9
            have n9 : ¬ gR m 1 9 = 0 := by rcases hw with z | z <;> omega
            obtain ⟨w0, -⟩ := w_sh h2 hw
            have ff : ∀ o, F_X10_findFits 197 2 (gR m 1 9) m2 o = ((), m5, o) := fun o => by
              simp (config := {decide := true}) only [F_X10_findFits, f_X10_findFits_0, f_X10_findFits_5, f_X10_findFits_11, f_X10_findFits_17, f_X10_findFits_24, bnd, shT_197 h2, gT_sI, hm3, shT_197 h3, shR_197_3 h3, shT_128 h3, b1, c1, ne_eq, not_false_eq_true, and_self, and_true, true_and, and_false, false_and, true_or, or_true, false_or, or_false, not_true_eq_false, if_false, if_true]
            obtain ⟨x1, x2, x3⟩ := c3
            have fin : ∀ o, f_X11_salted_81 1 y m5 o = (selF y (stp (FT (Ev C nl T V) (Gv C nl T V) n c B nw 10 0 (up (up (noK a) 0 8 (-1)) 0 9 (-1))) 12 12 (gFS (fun s => a (7 + 2 * s) 7) (fun s d => FT (Ev C nl T V) (Gv C nl T V) n c B nw 10 0 (up (up (noK a) 0 8 (nI s)) 0 9 (a 0 10 + nI d))) n 0 (0, 13, 13))), m5, o) := fun o => by
              unfold f_X11_salted_81 selF
              by_cases q0 : y = 0
              · simp (config := {decide := true}) only [shT_1 h5, shR_1_6 h5, shT_197 h5, q0, x1, ne_eq, not_false_eq_true, and_self, and_true, true_and, and_false, false_and, true_or, or_true, false_or, or_false, not_true_eq_false, if_false, if_true]
              · by_cases q1 : y = 1
                · simp (config := {decide := true}) only [f_X11_salted_115, shT_1 h5, shR_1_6 h5, shT_197 h5, q1, x2, ne_eq, not_false_eq_true, and_self, and_true, true_and, and_false, false_and, true_or, or_true, false_or, or_false, not_true_eq_false, if_false, if_true]
                · simp (config := {decide := true}) only [f_X11_salted_115, shT_1 h5, shR_1_6 h5, shT_197 h5, q0, q1, x3, ne_eq, not_false_eq_true, and_self, and_true, true_and, and_false, false_and, true_or, or_true, false_or, or_false, not_true_eq_false, if_false, if_true]
            simp (config := {decide := true}) only [F_X11_salted, f_X11_salted_0, f_X11_salted_7, f_X11_salted_16, f_X11_salted_51, f_X11_salted_59, bnd, e_isWithin, rx, ry, bI_0, e3, t1, le3, qt, shT_1 h, shR_1_0 h, shR_1_3 h, shR_1_6 h, shT_2 h, shT_191 h, shT_197 h, shT_1 h1, shR_1_3 h1, shT_191 h1, rd, em, qr, shT_1 h2, shR_1_0 h2, shR_1_6 h2, shT_2 h2, shT_197 h2, r2, n9, w0, ff, fin, ne_eq, not_false_eq_true, and_self, and_true, true_and, and_false, false_and, true_or, or_true, false_or, or_false, not_true_eq_false, if_false, if_true]
          · have g1 : gI m5 225 1 = nI t := (f5 _ _ (by unfold scP fcP rdP dyC lwP v3P; rcases hw with z | z <;> omega)).trans t2
            simp (config := {decide := true}) only [F_X12_salted, f_X12_salted_0, f_X12_salted_9, f_X12_salted_21, f_X12_salted_42, f_X12_salted_47, bnd, lx, ly, rx, ry, bI_0, e3, g1, le3, qt, shT_225 h5, shT_225 h6', d1, qr, shT_225 h7', ne_eq, not_false_eq_true, and_self, and_true, true_and, and_false, false_and, true_or, or_true, false_or, or_false, not_true_eq_false, if_false, if_true]
            exact k1 o
          · have hns : ¬ sideP 0 q i := by
              rcases hq with hq | hq | hq
              · exact side_kept hq
              · unfold inTape at hq; unfold sideP; omega
              · unfold inLaw at hq; unfold sideP; omega
            have hnr : ¬ (dyM q i ∨ nowP q i) ∧ ¬ (tkP q i ∨ (q = 225 ∧ i = 1)) := by
              unfold dyM lmP nowP tkP
              unfold keepP inKept inTape inLaw at hq
              omega
            rw [Fr_at F8 (fun z => by
              rcases z with (z | z) | z
              · exact hns z
              · exact hnr.1 z
              · exact hnr.2 z)]
            refine f5 q i ?_
            unfold scP fcP rdP dyC lwP v3P
            unfold keepP inKept inTape inLaw at hq
            rcases hw with z | z <;> rw [z] <;> omega
          · unfold inM at hq
            rw [Fr_at F8 (by unfold srP ftM sideP dyM lmP nowP tkP; omega)]
            refine f5 q i ?_
            unfold scP fcP rdP dyC lwP v3P
            rcases hw with z | z <;> rw [z] <;> omega
      · have le3' : (3 * nw ≤ t) = False := eq_false qt
        refine ⟨-3, m, m, fun o => ?_, h, fun o => ?_, hR⟩
        · simp (config := {decide := true}) only [F_X11_salted, f_X11_salted_0, f_X11_salted_7, f_X11_salted_16, f_X11_salted_32, bnd, e_isWithin, rx, ry, bI_0, e3, t1, le3, le3', shT_1 h, shR_1_3 h, shT_191 h, ne_eq, not_false_eq_true, and_self, and_true, true_and, and_false, false_and, true_or, or_true, false_or, or_false, not_true_eq_false, if_false, if_true]
        · simp (config := {decide := true}) only [F_X12_salted, f_X12_salted_0, f_X12_salted_9, f_X12_salted_21, f_X12_salted_34, bnd, lx, ly, rx, ry, bI_0, e3, t2, le3, le3', shT_225 h, ne_eq, not_false_eq_true, and_self, and_true, true_and, and_false, false_and, true_or, or_true, false_or, or_false, not_true_eq_false, if_false, if_true]
    · have ry : (0 ≤ y ∧ y ≤ 2) = False := eq_false qy
      refine ⟨-3, m, m, fun o => ?_, h, fun o => ?_, hR⟩
      · simp (config := {decide := true}) only [F_X11_salted, f_X11_salted_0, f_X11_salted_7, f_X11_salted_16, f_X11_salted_32, bnd, e_isWithin, rx, ry, bI_0, shT_1 h, ne_eq, not_false_eq_true, and_self, and_true, true_and, and_false, false_and, true_or, or_true, false_or, or_false, not_true_eq_false, if_false, if_true]
      · simp (config := {decide := true}) only [F_X12_salted, f_X12_salted_0, f_X12_salted_9, f_X12_salted_21, f_X12_salted_34, bnd, lx, ly, rx, ry, bI_0, shT_225 h, ne_eq, not_false_eq_true, and_self, and_true, true_and, and_false, false_and, true_or, or_true, false_or, or_false, not_true_eq_false, if_false, if_true]
  · have rx : (1 ≤ x ∧ x ≤ 30) = False := eq_false qx
    refine ⟨-3, m, m, fun o => ?_, h, fun o => ?_, hR⟩
    · simp (config := {decide := true}) only [F_X11_salted, f_X11_salted_0, f_X11_salted_7, f_X11_salted_32, bnd, e_isWithin, rx, bI_0, ne_eq, not_false_eq_true, and_self, and_true, true_and, and_false, false_and, true_or, or_true, false_or, or_false, not_true_eq_false, if_false, if_true]
    · simp (config := {decide := true}) only [F_X12_salted, f_X12_salted_0, f_X12_salted_9, f_X12_salted_34, bnd, lx, rx, bI_0, ne_eq, not_false_eq_true, and_self, and_true, true_and, and_false, false_and, true_or, or_true, false_or, or_false, not_true_eq_false, if_false, if_true])
