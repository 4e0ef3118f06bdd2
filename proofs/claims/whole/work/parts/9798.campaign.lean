/-! ===== campaign: both sides ===== -/
theorem sel_cases {w : Int32} (h : -1 ≤ w ∧ w ≤ 4) : w = -1 ∨ w = 4 ∨ ∃ j, j < 4 ∧ w = nI j := by
  by_cases q : w < 0
  · left
    have h1 := Int32.le_iff_toInt_le.mp h.1
    have h2 := Int32.lt_iff_toInt_lt.mp q
    rw [show (-1 : Int32).toInt = -1 by decide] at h1
    rw [show (0 : Int32).toInt = 0 by decide] at h2
    refine Int32.toInt_inj.mp ?_
    rw [show (-1 : Int32).toInt = -1 by decide]
    omega
  · obtain ⟨j, hj, e⟩ := rng_in (N := 4) (by decide) ⟨fa_of_nlt q, h.2⟩
    by_cases q4 : j = 4
    · right; left; rw [e, q4]; rfl
    · right; right; exact ⟨j, by omega, e⟩
/-- the ghost may be any that agrees -/
theorem WN_ag {C D : Nat → Nat → Int32} {nl : Nat} {T : Nat → (Nat → Int32) → Option Bool} {V : Nat → (Nat → Int32) → Option Int32} (hL : LwM (C 3) D nl T V) {a b : Nat → Nat → Int32} {n c nd col : Nat} (hnd : nd ≤ 20) (hcol : col < 5) {pl : Nat → Nat} {R : Nat} (hR : R < 256) {p : Nat} (hp4 : p ≤ 4) (hpl : ∀ j, j < p → pl j < n) {m : Mm} (h : Sh m) (hA : lawM m D nl) (hE : MM m a n c d0) (hW : WfA a n c) (hP : plM m (p, pl)) (hb : ag (noK a) b n c) : isWin ((dyI (Ev C nl T V) (Gv C nl T V) n c nd (spG pl (dgI (nI R) p) p 0 b, 0)).1 3) col ↔ isWin ((dyI (Ev C nl T V) (Gv C nl T V) n c nd (spG pl (dgI (nI R) p) p 0 (noK a), 0)).1 3) col := by
  obtain ⟨m1, a1, -⟩ := e_tryM (V := V) (r := nI R) hL hnd hcol hp4 hpl h hA hE hW hP hb (fun _ _ _ _ be _ m o => (be, m, o)) 0 (-1)
  obtain ⟨m2, b1, -⟩ := e_tryM (V := V) (r := nI R) hL hnd hcol hp4 hpl h hA hE hW hP (ag_refl (noK a) n c) (fun _ _ _ _ be _ m o => (be, m, o)) 0 (-1)
  have e := (a1 True).symm.trans (b1 True)
  have v : ∀ (P : Prop) m', (f_X12_campaign_200 (fun _ _ _ _ be _ m o => (be, m, o)) 225 (nI col) (nI nd) 0 (-1) (nI R) (cI P) m' True).1 = (if cI P = 0 then -1 else nI R) := fun P m' => by
    unfold f_X12_campaign_200 f_X12_campaign_209
    by_cases q : cI P = 0
    · rw [if_pos q, if_pos q]
    · rw [if_neg q, if_neg q]
  have e1 := congrArg (fun z => z.1) e
  rw [v, v] at e1
  have nb : ¬ nI R = -1 := nI_ne_m1 (by omega)
  have f : ∀ P : Prop, (if cI P = 0 then -1 else nI R) = nI R ↔ P := fun P => by
    by_cases q : P
    · rw [cI_t q, if_neg (by decide)]; exact ⟨fun _ => q, fun _ => rfl⟩
    · rw [cI_f q, if_pos rfl]; exact ⟨fun z => absurd z.symm nb, fun z => absurd z q⟩
  exact (f _).symm.trans ((iff_of_eq (congrArg (fun z => z = nI R) e1)).trans (f _))
def cmC (w q i : Nat) : Prop := plCP q i ∨ dyC 128 w q i ∨ q = 196 ∨ inM 2 q
def ccP (w q i : Nat) : Prop := dyC 128 w q i ∨ q = 196
def cmM (q i : Nat) : Prop := plMP q i ∨ tyM q i
theorem p_campaign : Pr_campaign Rel := fun x y w => PrI_ex (fun m hR => by
  have h := hR.1
  obtain ⟨a, n, c, C, D, nl, T, V, ⟨hM, hW, hE⟩, l1, l2, l3, l4, l5, l6⟩ := Rel_all hR
  have hn := hW.1.1.1
  have hc := hW.1.1.2
  have hww : isW (gR m 1 9) := l1.1
  have h6 : gI m 2 6 = nI n := (hM 0 6 (by omega) (by omega)).trans hW.1.2.1
  have ly := e_lies y 1 6
  have lw := e_lies w (-1) 4
  rw [show Int32.toInt64 1 = 1 by decide, show Int32.toInt64 6 = 6 by decide] at ly
  rw [show Int32.toInt64 (-1) = -1 by decide, show Int32.toInt64 4 = 4 by decide] at lw
  by_cases qx : 0 ≤ x ∧ x ≤ 4
  · have rx : (0 ≤ x ∧ x ≤ 4) = True := eq_true qx
    by_cases qy : 1 ≤ y ∧ y ≤ 6
    · have ry : (1 ≤ y ∧ y ≤ 6) = True := eq_true qy
      by_cases qw : -1 ≤ w ∧ w ≤ 4
      · have rw' : (-1 ≤ w ∧ w ≤ 4) = True := eq_true qw
        obtain ⟨col, hcol', rfl⟩ := rng_in (N := 4) (by decide) qx
        have hcol : col < 5 := by omega
        obtain ⟨nd, hnd', rfl⟩ := rng_in (N := 6) (by decide) ⟨Int32.le_trans (by decide) qy.1, qy.2⟩
        have hnd : nd ≤ 20 := by omega
        -- the places
        obtain ⟨p, pl, hz⟩ : ∃ p pl, plS (fun s => a (7 + 2 * s) 7) (fun s => a (7 + 2 * s) 2) (nI col) n 0 (0, fun _ => 0) = (p, pl) := ⟨_, _, rfl⟩
        have ok := plS_ok (fun s => a (7 + 2 * s) 7) (fun s => a (7 + 2 * s) 2) (nI col) n 0 (0, fun _ => 0) (by omega : 0 + n = n) ⟨by show 0 ≤ 4; omega, fun j hj => absurd hj (Nat.not_lt_zero j)⟩
        rw [hz] at ok
        have hp4 : p ≤ 4 := ok.1
        have hpl : ∀ j, j < p → pl j < n := ok.2
        have h256 := rows_le hp4
        have F0 : Fr plCP m (sI m 194 3 0) := Fr_sI (Fr_refl _ m) (by unfold plCP; omega) _
        obtain ⟨m1, a1, a2, a3⟩ := l_plC (f7 := fun s => a (7 + 2 * s) 7) (f2 := fun s => a (7 + 2 * s) 2) (x := nI col) hn n 1000 0 (0, fun _ => 0) (sI m 194 3 0) (Fr_Sh F0 h) h6 (fun s hs => ⟨(Fr_at F0 (by unfold plCP; omega)).trans (Md_at hM (by omega) (by omega) (by omega)), (Fr_at F0 (by unfold plCP; omega)).trans (Md_at hM (by omega) (by omega) (by omega))⟩) ⟨by show 0 ≤ 4; omega, fun j hj => absurd hj (Nat.not_lt_zero j)⟩ ⟨rfl, fun j hj => absurd hj (Nat.not_lt_zero j)⟩ (by omega) (by omega)
        rw [hz] at a2
        rw [nI_0] at a1
        have F1 : Fr plCP m m1 := Fr_trans F0 a3
        have h1 := Fr_Sh F1 h
        have g13 : gI m1 194 3 = nI p := a2.1
        have cp : ∀ o, F_X0_choosePlaces 194 2 (nI col) m o = ((), m1, o) := fun o => by
          simp (config := {decide := true}) only [F_X0_choosePlaces, f_X0_choosePlaces_0, f_X0_choosePlaces_5, shT_194 h, a1, ne_eq, not_false_eq_true, and_self, and_true, true_and, and_false, false_and, true_or, or_true, false_or, or_false, not_true_eq_false, if_false, if_true]
        -- the other side's places, from any memory
        have pm : ∀ m3, Sh m3 → (∀ q i, 225 ≤ q → gI m3 q i = gI m q i) → ∃ m4, (∀ o, f_X12_campaign_41 225 (nI col) (nI nd) w (sI m3 225 69 0) o = f_X12_campaign_112 225 (nI col) (nI nd) w m4 o) ∧ plM m4 (p, pl) ∧ Fr plMP m3 m4 := fun m3 h3 hf => by
          have G0 : Fr plMP m3 (sI m3 225 69 0) := Fr_sI (Fr_refl _ m3) (by unfold plMP; omega) _
          obtain ⟨m4, b1, b2, b3⟩ := l_plM (f7 := fun s => a (7 + 2 * s) 7) (f2 := fun s => a (7 + 2 * s) 2) (x := nI col) hn (nI nd) w n 1000 0 (0, fun _ => 0) (sI m3 225 69 0) (Fr_Sh G0 h3) ((Fr_at G0 (by unfold plMP; omega)).trans ((hf _ _ (by omega)).trans (hE.2.1.trans hW.1.2.1))) (fun s hs => ⟨(Fr_at G0 (by unfold plMP; omega)).trans ((hf _ _ (by omega)).trans (MM_at hE hs).2.2.2.2.2.2), (Fr_at G0 (by unfold plMP; omega)).trans ((hf _ _ (by omega)).trans (MM_at hE hs).2.1)⟩) ⟨by show 0 ≤ 4; omega, fun j hj => absurd hj (Nat.not_lt_zero j)⟩ ⟨rfl, fun j hj => absurd hj (Nat.not_lt_zero j)⟩ (by omega) (by omega)
          rw [hz] at b2
          rw [nI_0] at b1
          exact ⟨m4, b1, b2, Fr_trans G0 b3⟩
        have lp : ∀ m o, F_X12_lies (Int32.toInt64 w) (Int32.toInt64 (nI p)) 3 m o = (bI (nI p ≤ w ∧ w ≤ 3), m, o) := fun m o => by
          have := e_lies w (nI p) 3 m o
          rw [show Int32.toInt64 3 = 3 by decide] at this
          exact this
        -- the end
        have fin : ∀ (mC mR : Mm) (a' : Nat → Nat → Int32), Fr (cmC (gR m 1 9)) m mC → Fr cmM mC mR → Md mC 2 a' → WfA a' n c → MM mR a' n c d0 → Rel mR := fun mC mR a' Fc Fm hM' hW' hE' => by
          refine Rel_ghost hR (Fr_Sh Fm (Fr_Sh Fc h)) ⟨(Fr_R Fm 1 9).trans (Fr_R Fc 1 9), (Fr_R Fm 1 10).trans (Fr_R Fc 1 10)⟩ (fun q i hq => ?_) (Md_frame hM' (fun q i hq => Fr_at Fm (by unfold inM at hq; unfold cmM plMP tyM sideP rnM dyM lmP nowP; omega))) hW' hE'
          have hns : ¬ sideP 0 q i := by
            rcases hq with hq | hq | hq
            · exact side_kept hq
            · unfold inTape at hq; unfold sideP; omega
            · unfold inLaw at hq; unfold sideP; omega
          have hnr : ¬ plMP q i ∧ ¬ (rnM q i ∨ nowP q i) := by
            unfold plMP rnM dyM lmP nowP
            unfold keepP inKept inTape inLaw at hq
            omega
          rw [Fr_at Fm (fun z => by
            rcases z with z | z | z
            · exact hnr.1 z
            · exact hns z
            · exact hnr.2 z)]
          refine Fr_at Fc ?_
          unfold cmC plCP dyC lwP inM
          unfold keepP inKept inTape inLaw at hq
          rcases hww with z | z <;> rw [z] <;> omega
        have F1c : Fr (cmC (gR m 1 9)) m m1 := Fr_mono F1 (fun q i hq => .inl hq)
        have f225 : ∀ mC, Fr (cmC (gR m 1 9)) m mC → ∀ q i, 225 ≤ q → gI mC q i = gI m q i := fun mC Fc q i hq => Fr_at Fc (by unfold cmC plCP dyC lwP inM; rcases hww with z | z <;> rw [z] <;> omega)
        have hM1 : Md m1 2 a := Md_frame hM (fun q i hq => Fr_at F1 (by unfold inM at hq; unfold plCP; omega))
        by_cases qs : nI p ≤ w ∧ w ≤ 3
        · -- no such place
          have hs : ¬ w = -1 ∧ ¬ w = 4 ∧ ¬ w < nI p := ⟨fun z => by
              have := Int32.le_trans (nI_pos' (n := p) (by omega)) qs.1
              rw [z] at this; exact absurd this (by decide), fun z => by
              have := qs.2; rw [z] at this; exact absurd this (by decide), fun z => (fa_of_lt z).2.1 qs.1⟩
          obtain ⟨m4, b1, b2, b3⟩ := pm m1 h1 (f225 m1 F1c)
          have h4 := Fr_Sh b3 h1
          refine ⟨-3, m1, m4, fun o => ?_, h1, fun o => ?_, fin m1 m4 a F1c (Fr_mono b3 (fun q i hq => .inl hq)) hM1 hW (MM_frame hE (fun q i hq => (Fr_at b3 (by unfold plMP; omega)).trans (f225 m1 F1c q i (by omega))))⟩
          · simp (config := {decide := true}) only [F_X11_campaign, f_X11_campaign_0, f_X11_campaign_4, f_X11_campaign_14, f_X11_campaign_23, f_X11_campaign_41, f_X11_campaign_56, bnd, e_isColour, e_isWithin, rx, ry, rw', bI_0, shT_1 h, shR_1_0 h, shR_1_5 h, shT_2 h, shT_194 h, cp, shT_1 h1, shR_1_5 h1, shT_194 h1, g13, hs.1, hs.2.1, hs.2.2, ne_eq, not_false_eq_true, and_self, and_true, true_and, and_false, false_and, true_or, or_true, false_or, or_false, not_true_eq_false, if_false, if_true]
          · simp (config := {decide := true}) only [F_X12_campaign, f_X12_campaign_0, f_X12_campaign_4, f_X12_campaign_16, f_X12_campaign_30, bnd, e_isColourM, ly, lw, rx, ry, rw', bI_0, shT_225 h1, b1, ne_eq, not_false_eq_true, and_self, and_true, true_and, and_false, false_and, true_or, or_true, false_or, or_false, not_true_eq_false, if_false, if_true]
            simp (config := {decide := true}) only [f_X12_campaign_112, f_X12_campaign_125, bnd, shT_225 h4, b2.1, lp, eq_true qs, bI_0, ne_eq, not_false_eq_true, and_self, and_true, true_and, and_false, false_and, true_or, or_true, false_or, or_false, not_true_eq_false, if_false, if_true]
        · -- the rows
          obtain ⟨mt, -, t2, t3⟩ := pm m h (fun _ _ _ => rfl)
          have ht := Fr_Sh t3 h
          generalize hWN : (fun R => isWin ((dyI (Ev C nl T V) (Gv C nl T V) n c nd (spG pl (dgI (nI R) p) p 0 (noK a), 0)).1 3) col) = W
          have can : ∀ (b : Nat → Nat → Int32) (R : Nat), R < 4 ^ p → ag (noK a) b n c → (isWin ((dyI (Ev C nl T V) (Gv C nl T V) n c nd (spG pl (dgI (nI R) p) p 0 b, 0)).1 3) col ↔ W R) := fun b R hR hb => by
            rw [← hWN]
            exact WN_ag l4 hnd hcol (by omega) hp4 hpl ht (lawM_Fr l2 t3 (fun q i hq => by unfold plMP; omega)) (MM_frame hE (fun q i hq => Fr_at t3 (by unfold plMP; omega))) hW t2 hb
          -- the class
          obtain ⟨m2, b1, b2, b3⟩ := e_forget h1 (p := 128) (.inr (.inr rfl))
          have F12 : Fr (ccP (gR m 1 9)) m1 m2 := Fr_mono b2 (fun q i hq => .inl (.inr ⟨by omega, by omega⟩))
          have h2 := Fr_Sh F12 h1
          have base : ∀ m', Fr (ccP (gR m 1 9)) m1 m' → Sh m' ∧ lawAt m' (gR m 1 9) C nl ∧ Md m' 2 a ∧ gI m' 194 3 = nI p ∧ (∀ j, j < p → gI m' 195 j = nI (pl j)) ∧ Fr (cmC (gR m 1 9)) m m' := fun m' F => by
            have FF' : Fr (cmC (gR m 1 9)) m m' := Fr_trans F1c (Fr_mono F (fun q i hq => .inr (by rcases hq with z | z; exact .inl z; exact .inr (.inl z))))
            refine ⟨Fr_Sh F h1, lawAt_Fr l1 FF' (fun q i hq => ?_), Md_frame hM1 (fun q i hq => Fr_at F ?_), (Fr_at F ?_).trans g13, fun j hj => (Fr_at F ?_).trans (a2.2 j hj), FF'⟩
            · unfold cmC plCP dyC lwP inM
              rcases hww with z | z <;> rw [z] at hq ⊢ <;> omega
            · unfold inM at hq
              unfold ccP dyC lwP
              rcases hww with z | z <;> rw [z] <;> omega
            · unfold ccP dyC lwP
              rcases hww with z | z <;> rw [z] <;> omega
            · unfold ccP dyC lwP
              rcases hww with z | z <;> rw [z] <;> omega
          obtain ⟨m5, v, c1, c2, c3⟩ := l_chP (w := gR m 1 9) (nd := nd) (col := col) hp4 (QC := fun m' => Fr (ccP (gR m 1 9)) m1 m' ∧ KC (Ev C nl T V) (C 8) m' 128 a n c) (fun m' hq => (base m' hq.1).1) (fun m' hq => (base m' hq.1).2.2.2.1) hww (W := W) (fun m' R hq hR => by
              obtain ⟨s1, s2, s3, s4, s5, s6⟩ := base m' hq.1
              obtain ⟨m'', d1, d2, d3⟩ := e_row hp4 hR s1 s4
              exact ⟨m'', d1, d2, Fr_trans hq.1 (Fr_mono d3 (fun q i hq => .inr hq)), KC_Fr hq.2 d3 (fun i => by omega)⟩) (fun m' R hq hR hd => by
              obtain ⟨s1, s2, s3, s4, s5, s6⟩ := base m' hq.1
              obtain ⟨m'', b, d1, d2, d3, d4⟩ := e_winsC l3 l5 l6 hnd hcol (dg := dgI (nI R) p) hp4 hpl (fun j hj => ⟨DG R p j, by unfold DG; omega, dg_nI (by omega) hp4 hj⟩) s1 s2 s3 hW hq.2 s4 (fun j hj => ⟨s5 j hj, hd j hj⟩)
              refine ⟨m'', fun o => ?_, fun j hj => (Fr_at d4 (by unfold dyC lwP; rcases hww with z | z <;> rw [z] <;> omega)).trans (hd j hj), Fr_trans hq.1 (Fr_mono d4 (fun q i hq => .inl hq)), d3⟩
              rw [d1 o, propext (can b R hR d2)]) (3 * p + 1) 1000 0 m2 ⟨F12, b3 _ _ _ _ _ hn hc⟩ (by omega) (by omega) (fun R _ hlt => by omega)
          rw [nI_0] at c1
          obtain ⟨h5, -, hM5, g53, g5, F5⟩ := base m5 c2.1
          have n9 : ¬ gR m 1 9 = 0 := by rcases hww with z | z <;> omega
          obtain ⟨w0, -⟩ := w_sh h1 hww
          have r1 : gR m1 1 9 = gR m 1 9 := Fr_R F1 1 9
          have ch : ∀ o, F_X0_cheapest 194 2 (gR m 1 9) (nI col) (nI nd) m1 o = (v, m5, o) := fun o => by
            simp (config := {decide := true}) only [F_X0_cheapest, f_X0_cheapest_0, f_X0_cheapest_17, bnd, shT_194 h1, shR_194_2 h1, shT_128 h1, g13, rows_n hp4, b1, c1, ne_eq, not_false_eq_true, and_self, and_true, true_and, and_false, false_and, true_or, or_true, false_or, or_false, not_true_eq_false, if_false, if_true]
          -- up to the choice, both sides
          have preC : ∀ o, F_X11_campaign 1 (nI col) (nI nd) w m o = f_X11_campaign_94 1 w (if w = -1 ∨ w = 4 then 0 else 1) v m5 o := fun o => by
            have tail : ∀ u o, (u = 0 ∨ w < nI p) → f_X11_campaign_56 1 (nI col) (nI nd) w u m1 o = f_X11_campaign_94 1 w u v m5 o := fun u o hu => by
              have t77 : ∀ o, f_X11_campaign_77 1 (nI col) (nI nd) w u m1 o = f_X11_campaign_94 1 w u v m5 o := fun o => by
                simp (config := {decide := true}) only [f_X11_campaign_77, bnd, shT_1 h1, shR_1_0 h1, shR_1_5 h1, shT_2 h1, shT_194 h1, r1, n9, w0, ch, ne_eq, not_false_eq_true, and_self, and_true, true_and, and_false, false_and, true_or, or_true, false_or, or_false, not_true_eq_false, if_false, if_true]
              unfold f_X11_campaign_56
              by_cases q : u = 0
              · rw [if_pos q, t77]
              · rw [if_neg q]
                simp (config := {decide := true}) only [shT_1 h1, shR_1_5 h1, shT_194 h1, g13, hu.resolve_left q, t77, ne_eq, not_false_eq_true, and_self, and_true, true_and, and_false, false_and, true_or, or_true, false_or, or_false, not_true_eq_false, if_false, if_true]
            have t41 : ∀ o, f_X11_campaign_41 1 (nI col) (nI nd) w m1 o = f_X11_campaign_94 1 w (if w = -1 ∨ w = 4 then 0 else 1) v m5 o := fun o => by
              unfold f_X11_campaign_41 f_X11_campaign_55
              by_cases q1 : w = -1
              · rw [if_pos q1, if_pos (.inl q1), tail 0 o (.inl rfl)]
              · rw [if_neg q1]
                by_cases q2 : w = 4
                · rw [if_pos q2, if_pos (.inr q2), tail 0 o (.inl rfl)]
                · rw [if_neg q2, if_neg (fun z => z.elim q1 q2), tail 1 o (.inr ?_)]
                  rcases sel_cases qw with z | z | ⟨j, hj, z⟩
                  · exact absurd z q1
                  · exact absurd z q2
                  · have : w ≤ 3 := by rw [z]; exact nI_le (a := j) (b := 3) (by omega) (by omega)
                    exact fa_of_nle (fun y => qs ⟨y, this⟩)
            simp (config := {decide := true}) only [F_X11_campaign, f_X11_campaign_0, f_X11_campaign_4, f_X11_campaign_14, f_X11_campaign_23, bnd, e_isColour, e_isWithin, rx, ry, rw', bI_0, shT_1 h, shR_1_0 h, shR_1_5 h, shT_2 h, shT_194 h, cp, t41, ne_eq, not_false_eq_true, and_self, and_true, true_and, and_false, false_and, true_or, or_true, false_or, or_false, not_true_eq_false, if_false, if_true]
          have preM : ∀ mC, Fr (cmC (gR m 1 9)) m mC → ∃ m8 be, (∀ o, F_X12_campaign 225 (nI col) (nI nd) w mC o = enM w be m8 o) ∧ Sh m8 ∧ plM m8 (p, pl) ∧ MM m8 a n c d0 ∧ Fr cmM mC m8 ∧ bsI W be (4 ^ p) := fun mC Fc => by
            have hC := Fr_Sh Fc h
            obtain ⟨m4, d1, d2, d3⟩ := pm mC hC (f225 mC Fc)
            have h4 := Fr_Sh d3 hC
            have E4 : MM m4 a n c d0 := MM_frame hE (fun q i hq => (Fr_at d3 (by unfold plMP; omega)).trans (f225 mC Fc q i (by omega)))
            have L4 : lawM m4 D nl := lawM_Fr (lawM_Fr l2 Fc (fun q i hq => by unfold cmC plCP dyC lwP inM; rcases hww with z | z <;> rw [z] <;> omega)) d3 (fun q i hq => by unfold plMP; omega)
            have bM : ∀ m', Fr tyM m4 m' → plM m' (p, pl) := fun m' F => ⟨(Fr_at F (by unfold tyM sideP rnM dyM lmP nowP; omega)).trans d2.1, fun j hj => (Fr_at F (by unfold tyM sideP rnM dyM lmP nowP; omega)).trans (d2.2 j hj)⟩
            obtain ⟨m8, be, e1, e2, e3⟩ := l_bestM (nd := nd) (col := col) hp4 w (QM := fun m' => Fr tyM m4 m' ∧ MM m' a n c d0) (fun m' hq => Fr_Sh hq.1 h4) (fun m' hq => (bM m' hq.1).1) (W := W) (fun m' R be K hq hR => by
              obtain ⟨m'', k1, k2, k3⟩ := e_tryM (V := V) (r := nI R) l4 hnd hcol hp4 hpl (Fr_Sh hq.1 h4) (lawM_Fr L4 hq.1 (fun q i hq => by unfold tyM sideP rnM dyM lmP nowP; omega)) hq.2 hW (bM m' hq.1) (ag_refl (noK a) n c) K w be
              refine ⟨m'', fun o => ?_, Fr_trans hq.1 k3, k2⟩
              rw [k1 o, propext (can (noK a) R hR (ag_refl (noK a) n c))]) (4 ^ p) 1000 0 (-1) m4 ⟨Fr_refl _ m4, E4⟩ (.inl ⟨rfl, fun R hR => by omega⟩) (by omega) (by omega)
            rw [nI_0] at e1
            refine ⟨m8, be, fun o => ?_, Fr_Sh e2.1 h4, bM m8 e2.1, e2.2, Fr_trans (Fr_mono d3 (fun q i hq => .inl hq)) (Fr_mono e2.1 (fun q i hq => .inr hq)), e3⟩
            simp (config := {decide := true}) only [F_X12_campaign, f_X12_campaign_0, f_X12_campaign_4, f_X12_campaign_16, f_X12_campaign_30, bnd, e_isColourM, ly, lw, rx, ry, rw', bI_0, shT_225 hC, d1, ne_eq, not_false_eq_true, and_self, and_true, true_and, and_false, false_and, true_or, or_true, false_or, or_false, not_true_eq_false, if_false, if_true]
            simp (config := {decide := true}) only [f_X12_campaign_112, f_X12_campaign_125, bnd, shT_225 h4, d2.1, lp, eq_false qs, bI_0, e1, ne_eq, not_false_eq_true, and_self, and_true, true_and, and_false, false_and, true_or, or_true, false_or, or_false, not_true_eq_false, if_false, if_true]
          rcases c3 with ⟨rfl, hno⟩ | ⟨R, hb, rfl, hdg⟩
          · obtain ⟨m8, be, e1, h8, e2, e3, e4, e5⟩ := preM m5 F5
            have hbe : be = -1 := by
              rcases e5 with z | ⟨R, -, z⟩
              · exact z.1
              · exact absurd z.2.1 (hno R z.1)
            refine ⟨-2, m5, m8, fun o => ?_, h5, fun o => ?_, fin m5 m8 a F5 e4 hM5 hW e3⟩
            · rw [preC]
              unfold f_X11_campaign_94
              rw [if_pos rfl]
            · rw [e1]
              unfold enM
              rw [if_pos hbe]
          · have hR := hb.1
            have nb : ¬ nI (PN R) = -1 := nI_ne_m1 (by have := PN_le hp4 hR; omega)
            have nb' : ¬ nI R = -1 := nI_ne_m1 (by omega)
            have one : ∀ be, bsI W be (4 ^ p) → be = nI R := fun be e5 => by
              rcases e5 with z | ⟨R', z1, z2⟩
              · exact absurd hb.2.1 (z.2 R hR)
              · rw [z1, bst_one z2 hb]
            have pn : ∀ m o, F_X12_pence (nI R) m o = (nI (PN R), m, o) := fun m o => e_pence (by omega) m o
            by_cases q4 : w = 4
            · -- the clover is spread
              have hdv : ∀ j, j < p → ∃ v, v ≤ 3 ∧ dgI (nI R) p j = nI v := fun j hj => ⟨DG R p j, by unfold DG; omega, dg_nI (by omega) hp4 hj⟩
              obtain ⟨m6, k1, k2, k3⟩ := l_spread (P := 2) (.inl rfl) (dg := dgI (nI R) p) hn hp4 hpl hdv p 1000 0 a m5 h5 hM5 hW g53 (fun j hj => ⟨g5 j hj, hdg j hj⟩) (by omega) (by omega)
              rw [nI_0] at k1
              have F6 : Fr (cmC (gR m 1 9)) m m6 := Fr_trans F5 (Fr_mono k3 (fun q i hq => .inr (.inr (.inr hq))))
              have h6' := Fr_Sh F6 h
              obtain ⟨m8, be, e1, h8, e2, e3, e4, e5⟩ := preM m6 F6
              have hbe := one be e5
              obtain ⟨m9, s1, s2, s3⟩ := l_spreadM (r := nI R) hn hp4 hpl p 1000 0 a m8 h8 e3 e2.1 e2.2 (by omega) (by omega)
              rw [nI_0] at s1
              have h9 := Fr_Sh s3 h8
              refine ⟨nI (PN R), m6, m9, fun o => ?_, h6', fun o => ?_, fin m6 m9 (spG pl (dgI (nI R) p) p 0 a) F6 (Fr_trans e4 (Fr_mono s3 (fun q i hq => .inr (.inr (.inr (by unfold nowP; omega)))))) k2 (WfA_sp (c := c) hn hpl hdv p 0 a (by omega) hW).1 s2⟩
              · rw [preC]
                unfold f_X11_campaign_94
                rw [if_neg nb, if_pos (show (if w = -1 ∨ w = 4 then (0 : Int32) else 1) = 0 from if_pos (.inr q4)), if_pos q4]
                simp (config := {decide := true}) only [f_X11_campaign_136, F_X0_spreadOn, f_X0_spreadOn_0, bnd, shT_1 h5, shR_1_0 h5, shR_1_5 h5, shT_2 h5, shT_194 h5, k1, ne_eq, not_false_eq_true, and_self, and_true, true_and, and_false, false_and, true_or, or_true, false_or, or_false, not_true_eq_false, if_false, if_true]
              · rw [e1]
                unfold enM
                rw [hbe, if_neg nb', if_pos q4]
                have nw : ¬ w = -1 := fun z => absurd (q4.symm.trans z) (by decide)
                simp (config := {decide := true}) only [F_X12_spreads, f_X12_spreads_0, f_X12_campaign_235, f_X12_campaign_245, f_X12_campaign_250, f_X12_campaign_263, bnd, shT_225 h8, s1, q4, pn, ite_self, ne_eq, not_false_eq_true, and_self, and_true, true_and, and_false, false_and, true_or, or_true, false_or, or_false, not_true_eq_false, if_false, if_true]
            · obtain ⟨m8, be, e1, h8, e2, e3, e4, e5⟩ := preM m5 F5
              have hbe := one be e5
              by_cases q1 : w = -1
              · refine ⟨nI (PN R), m5, m8, fun o => ?_, h5, fun o => ?_, fin m5 m8 a F5 e4 hM5 hW e3⟩
                · rw [preC]
                  unfold f_X11_campaign_94 f_X11_campaign_136
                  rw [if_neg nb, if_pos (show (if w = -1 ∨ w = 4 then (0 : Int32) else 1) = 0 from if_pos (.inl q1)), if_neg q4]
                · rw [e1]
                  unfold enM
                  rw [hbe, if_neg nb', if_neg q4]
                  simp (config := {decide := true}) only [f_X12_campaign_235, f_X12_campaign_245, f_X12_campaign_250, f_X12_campaign_263, bnd, q1, pn, ne_eq, not_false_eq_true, and_self, and_true, true_and, and_false, false_and, true_or, or_true, false_or, or_false, not_true_eq_false, if_false, if_true]
              · obtain ⟨j, hj, hwj⟩ := (sel_cases qw).resolve_left q1 |>.resolve_left q4
                have hjp : j < p := by
                  by_cases z : j < p
                  · exact z
                  · exact absurd ⟨by rw [hwj]; exact nI_le (by omega) (by omega), by rw [hwj]; exact nI_le (a := j) (b := 3) (by omega) (by omega)⟩ qs
                have hin : vp_in (nI j) 4 := vp_in_nI (by omega) (by omega)
                refine ⟨dgI (nI R) p j, m5, m8, fun o => ?_, h5, fun o => ?_, fin m5 m8 a F5 e4 hM5 hW e3⟩
                · rw [preC]
                  unfold f_X11_campaign_94
                  rw [if_neg nb, if_neg (show ¬ (if w = -1 ∨ w = 4 then (0 : Int32) else 1) = 0 by rw [if_neg (fun z => z.elim q1 q4)]; decide), hwj]
                  simp (config := {decide := true}) only [shT_1 h5, shR_1_5 h5, shT_194 h5, shR_194_1 h5, shT_196 h5, shN_196 h5, hin, ix_nI (show j < 2 ^ 31 by omega), hdg j hjp, ne_eq, not_false_eq_true, and_self, and_true, true_and, and_false, false_and, true_or, or_true, false_or, or_false, not_true_eq_false, if_false, if_true]
                · rw [e1]
                  unfold enM
                  have ed : ∀ m o, F_X12_digit (nI R) (nI p) w m o = (dgI (nI R) p j, m, o) := fun m o => by rw [hwj]; rfl
                  rw [hbe, if_neg nb', if_neg q4]
                  simp (config := {decide := true}) only [f_X12_campaign_235, f_X12_campaign_263, bnd, q1, q4, shT_225 h8, e2.1, ed, ne_eq, not_false_eq_true, and_self, and_true, true_and, and_false, false_and, true_or, or_true, false_or, or_false, not_true_eq_false, if_false, if_true]
      · have rw' : (-1 ≤ w ∧ w ≤ 4) = False := eq_false qw
        refine ⟨-3, m, m, fun o => ?_, h, fun o => ?_, hR⟩
        · simp (config := {decide := true}) only [F_X11_campaign, f_X11_campaign_0, f_X11_campaign_4, f_X11_campaign_14, f_X11_campaign_23, f_X11_campaign_26, bnd, e_isColour, e_isWithin, rx, ry, rw', bI_0, ne_eq, not_false_eq_true, and_self, and_true, true_and, and_false, false_and, true_or, or_true, false_or, or_false, not_true_eq_false, if_false, if_true]
        · simp (config := {decide := true}) only [F_X12_campaign, f_X12_campaign_0, f_X12_campaign_4, f_X12_campaign_16, f_X12_campaign_30, f_X12_campaign_33, bnd, e_isColourM, ly, lw, rx, ry, rw', bI_0, ne_eq, not_false_eq_true, and_self, and_true, true_and, and_false, false_and, true_or, or_true, false_or, or_false, not_true_eq_false, if_false, if_true]
    · have ry : (1 ≤ y ∧ y ≤ 6) = False := eq_false qy
      refine ⟨-3, m, m, fun o => ?_, h, fun o => ?_, hR⟩
      · simp (config := {decide := true}) only [F_X11_campaign, f_X11_campaign_0, f_X11_campaign_4, f_X11_campaign_14, f_X11_campaign_26, bnd, e_isColour, e_isWithin, rx, ry, bI_0, ne_eq, not_false_eq_true, and_self, and_true, true_and, and_false, false_and, true_or, or_true, false_or, or_false, not_true_eq_false, if_false, if_true]
      · simp (config := {decide := true}) only [F_X12_campaign, f_X12_campaign_0, f_X12_campaign_4, f_X12_campaign_16, f_X12_campaign_33, bnd, e_isColourM, ly, rx, ry, bI_0, ne_eq, not_false_eq_true, and_self, and_true, true_and, and_false, false_and, true_or, or_true, false_or, or_false, not_true_eq_false, if_false, if_true]
  · have rx : (0 ≤ x ∧ x ≤ 4) = False := eq_false qx
    refine ⟨-3, m, m, fun o => ?_, h, fun o => ?_, hR⟩
    · simp (config := {decide := true}) only [F_X11_campaign, f_X11_campaign_0, f_X11_campaign_4, f_X11_campaign_26, bnd, e_isColour, rx, bI_0, ne_eq, not_false_eq_true, and_self, and_true, true_and, and_false, false_and, true_or, or_true, false_or, or_false, not_true_eq_false, if_false, if_true]
    · simp (config := {decide := true}) only [F_X12_campaign, f_X12_campaign_0, f_X12_campaign_4, f_X12_campaign_33, bnd, e_isColourM, rx, bI_0, ne_eq, not_false_eq_true, and_self, and_true, true_and, and_false, false_and, true_or, or_true, false_or, or_false, not_true_eq_false, if_false, if_true])
