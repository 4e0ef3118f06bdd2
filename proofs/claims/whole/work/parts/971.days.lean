/-! ===== would, chooses, days ===== -/
theorem anN_dep {K : Nat → Int32} {T : Nat → (Nat → Int32) → Option Bool} {l l' : Nat → Int32} {nl : Nat} (h : ∀ k, k < nl → K k = 110 → T k l = T k l') : ∀ (k i : Nat), i + k ≤ nl → anN K T l i k = anN K T l' i k
  | 0, _, _ => rfl
  | k + 1, i, hi => by
    unfold anN
    rw [anN_dep h k (i + 1) (by omega)]
    by_cases q : K i = 110
    · rw [h i (by omega) q]
    · rw [if_neg (fun z => q z.1), if_neg (fun z => q z.1)]
theorem fsV_dep {K : Nat → Int32} {T : Nat → (Nat → Int32) → Option Bool} {V : Nat → (Nat → Int32) → Option Int32} {ch most : Int32} {l l' : Nat → Int32} {nl : Nat} (h : ∀ k, k < nl → K k = ch → T k l = T k l' ∧ V k l = V k l') : ∀ (k i : Nat), i + k ≤ nl → fsV K T V ch most l i k = fsV K T V ch most l' i k
  | 0, _, _ => rfl
  | k + 1, i, hi => by
    unfold fsV
    rw [fsV_dep h k (i + 1) (by omega)]
    by_cases q : K i = ch
    · rw [(h i (by omega) q).1, (h i (by omega) q).2]
    · rw [if_neg (fun z => q z.1), if_neg (fun z => q z.1)]
theorem Ev_dep {C : Nat → Nat → Int32} {nl : Nat} {T : Nat → (Nat → Int32) → Option Bool} {V : Nat → (Nat → Int32) → Option Int32} {mk : Nat → Int32} (h : ∀ k, k < nl → ∃ ch, C 3 k = nI ch ∧ ch < 128 ∧ (ch ≠ 103 → dep mk (T k) ∧ (ch ≠ 110 → dep mk (V k)))) : dep mk (Ev C nl T V) := fun l l' hl => by
  unfold Ev
  rw [anN_dep (l' := l') (nl := nl) (fun k hk q => ?_) nl 0 (by omega), fsV_dep (l' := l') (nl := nl) (fun k hk q => ?_) nl 0 (by omega)]
  · obtain ⟨ch, e, hc, hd⟩ := h k hk
    rw [e] at q
    have : ch = 101 := (nI_eq (a := ch) (b := 101) (by omega) (by omega)).mp q
    obtain ⟨d1, d2⟩ := hd (by omega)
    exact ⟨d1 l l' hl, d2 (by omega) l l' hl⟩
  · obtain ⟨ch, e, hc, hd⟩ := h k hk
    rw [e] at q
    have : ch = 110 := (nI_eq (a := ch) (b := 110) (by omega) (by omega)).mp q
    exact (hd (by omega)).1 l l' hl
/-- all that the calls below need of a common state -/
theorem Rel_all {m : Mm} (hR : Rel m) : ∃ (a : Nat → Nat → Int32) (n c : Nat) (C D : Nat → Nat → Int32) (nl : Nat) (T : Nat → (Nat → Int32) → Option Bool) (V : Nat → (Nat → Int32) → Option Int32), (Md m 2 a ∧ WfA a n c ∧ MM m a n c d0) ∧ lawAt m (gR m 1 9) C nl ∧ lawM m D nl ∧ LwF C nl T V ∧ LwM (C 3) D nl T V ∧ (∀ j, j < 10 → C 8 j = 0 ∨ C 8 j = -1) ∧ dep (C 8) (Ev C nl T V) := by
  obtain ⟨a, n, c, h1, h2, h3⟩ := ghost_of hR
  obtain ⟨C, D, nl, T, V, l1, l2, l3, l4, l5, l6⟩ := law_of_Rel hR
  exact ⟨a, n, c, C, D, nl, T, V, ⟨h1, h2, h3⟩, l1, l2, l3, l4, l5, Ev_dep l6⟩
theorem p_would : Pr_would Rel := fun x y => PrI_ex (fun m hR => by
  have h := hR.1
  obtain ⟨a, n, c, C, D, nl, T, V, ⟨hM, hW, hE⟩, l1, l2, l3, l4, l5, l6⟩ := Rel_all hR
  have hn := hW.1.1.1
  have hc := hW.1.1.2
  have h6 : gI m 2 6 = nI n := (hM 0 6 (by omega) (by omega)).trans hW.1.2.1
  have h7 : gI m 2 7 = nI c := (hM 0 7 (by omega) (by omega)).trans hW.1.2.2.1
  have g2 : gI m 225 2 = nI n := hE.2.1.trans hW.1.2.1
  have g3 : gI m 225 3 = nI c := hE.2.2.1.trans hW.1.2.2.1
  obtain ⟨k1, k2⟩ := law_at h hR.2.1
  by_cases qa : ∃ e, e < c ∧ x = nI e
  · obtain ⟨e, he, rfl⟩ := qa
    have ra : (0 ≤ nI e ∧ nI e ≤ nI c - 1) = True := eq_true ((rng_n (by omega)).mpr ⟨e, he, rfl⟩)
    by_cases qb : ∃ s, s < n ∧ y = nI s
    · obtain ⟨s, hs, rfl⟩ := qb
      have gs : gI m (9 + 2 * s) 7 = a (7 + 2 * s) 7 := Md_at hM (by omega) (by omega) (by omega)
      have gr := (MM_at hE hs).2.2.2.2.2.2
      by_cases qs : a (7 + 2 * s) 7 = 0
      · refine ⟨-1, m, m, fun o => ?_, h, fun o => ?_, hR⟩
        · simp (config := {decide := true}) only [f_X11_would_16, f_X11_would_31, f_X11_would_13, f_X11_would_5, f_X11_would_0, F_X11_would, bnd, e_hasCow _ h, h7, ra, bI_0, e_standing h hn hs h6, gs, qs, shT_1 h, ne_eq, not_false_eq_true, and_self, and_true, true_and, and_false, false_and, true_or, or_true, false_or, or_false, not_true_eq_false, if_false, if_true]
        · simp (config := {decide := true}) only [f_X12_would_26, f_X12_would_22, f_X12_would_25, f_X12_would_13, f_X12_would_5, f_X12_would_0, F_X12_would, bnd, e_isCowM _ h, g3, ra, bI_0, e_thereM h hn hs g2, gr, qs, shT_225 h, ne_eq, not_false_eq_true, and_self, and_true, true_and, and_false, false_and, true_or, or_true, false_or, or_false, not_true_eq_false, if_false, if_true]
      · obtain ⟨-, -, ⟨k, hk, ek⟩, -⟩ := hW.2.1 s hs
        obtain ⟨m1, a1, a2⟩ := e_wouldEat l3 h l1 (p := 2) (.inl rfl) (show s < 12 by omega) (show e < 16 by omega) hM hk ek
        have hw : 205 ≤ gR m 1 9 ∧ gR m 1 9 ≤ 215 := by rcases l1.1 with z | z <;> omega
        have h1 := Fr_Sh a2 h
        have hE1 : MM m1 a n c d0 := MM_frame hE (fun q i hq => Fr_at a2 (by unfold lwP; omega))
        obtain ⟨m2, b1, b2⟩ := e_wouldEatM l4 h1 (lawM_Fr l2 a2 (fun q i hq => by unfold lwP; omega)) hE1 hW hs he
        refine ⟨Ev C nl T V (letE a s e), m1, m2, fun o => ?_, h1, fun o => ?_, Rel_same hR (Fr_Sh b2 h1) ⟨?_, ?_⟩ (fun q i hq => ?_)⟩
        · simp (config := {decide := true}) only [f_X11_would_16, f_X11_would_31, f_X11_would_13, f_X11_would_5, f_X11_would_0, F_X11_would, bnd, e_hasCow _ h, h7, ra, bI_0, e_standing h hn hs h6, gs, qs, shT_1 h, shR_1_0 h, shT_2 h, k1, k2, a1, ne_eq, not_false_eq_true, and_self, and_true, true_and, and_false, false_and, true_or, or_true, false_or, or_false, not_true_eq_false, if_false, if_true]
        · have gr1 := (MM_at hE1 hs).2.2.2.2.2.2
          have g21 : gI m1 225 2 = nI n := hE1.2.1.trans hW.1.2.1
          have g31 : gI m1 225 3 = nI c := hE1.2.2.1.trans hW.1.2.2.1
          simp (config := {decide := true}) only [f_X12_would_26, f_X12_would_22, f_X12_would_25, f_X12_would_13, f_X12_would_5, f_X12_would_0, F_X12_would, bnd, e_isCowM _ h1, g31, ra, bI_0, e_thereM h1 hn hs g21, gr1, qs, shT_225 h1, b1, ne_eq, not_false_eq_true, and_self, and_true, true_and, and_false, false_and, true_or, or_true, false_or, or_false, not_true_eq_false, if_false, if_true]
        · rw [Fr_R b2]; exact Fr_R a2 1 9
        · rw [Fr_R b2]; exact Fr_R a2 1 10
        · rcases l1.1 with z | z
          · rw [Fr_at b2 (by unfold lmP; unfold inAny inNow inKept inTape inLaw at hq; omega), Fr_at a2 (by rw [z]; unfold lwP; unfold inAny inNow inKept inTape inLaw at hq; omega)]
          · rw [Fr_at b2 (by unfold lmP; unfold inAny inNow inKept inTape inLaw at hq; omega), Fr_at a2 (by rw [z]; unfold lwP; unfold inAny inNow inKept inTape inLaw at hq; omega)]
    · refine ⟨-1, m, m, fun o => ?_, h, fun o => ?_, hR⟩
      · simp (config := {decide := true}) only [f_X11_would_16, f_X11_would_31, f_X11_would_13, f_X11_would_5, f_X11_would_0, F_X11_would, bnd, e_hasCow _ h, h7, ra, bI_0, e_standing0 y h hn qb h6, shT_1 h, ne_eq, not_false_eq_true, and_self, and_true, true_and, and_false, false_and, true_or, or_true, false_or, or_false, not_true_eq_false, if_false, if_true]
      · simp (config := {decide := true}) only [f_X12_would_26, f_X12_would_22, f_X12_would_25, f_X12_would_13, f_X12_would_5, f_X12_would_0, F_X12_would, bnd, e_isCowM _ h, g3, ra, bI_0, e_thereM0 y h hn qb g2, shT_225 h, ne_eq, not_false_eq_true, and_self, and_true, true_and, and_false, false_and, true_or, or_true, false_or, or_false, not_true_eq_false, if_false, if_true]
  · have ra : (0 ≤ x ∧ x ≤ nI c - 1) = False := eq_false (fun z => qa ((rng_n (by omega)).mp z))
    refine ⟨-1, m, m, fun o => ?_, h, fun o => ?_, hR⟩
    · simp (config := {decide := true}) only [f_X11_would_16, f_X11_would_31, f_X11_would_13, f_X11_would_5, f_X11_would_0, F_X11_would, bnd, e_hasCow _ h, h7, ra, bI_0, shT_1 h, ne_eq, not_false_eq_true, and_self, and_true, true_and, and_false, false_and, true_or, or_true, false_or, or_false, not_true_eq_false, if_false, if_true]
    · simp (config := {decide := true}) only [f_X12_would_26, f_X12_would_22, f_X12_would_25, f_X12_would_13, f_X12_would_5, f_X12_would_0, F_X12_would, bnd, e_isCowM _ h, g3, ra, bI_0, shT_225 h, ne_eq, not_false_eq_true, and_self, and_true, true_and, and_false, false_and, true_or, or_true, false_or, or_false, not_true_eq_false, if_false, if_true])
/-- amounts forgotten -/
theorem l_forget {m : Mm} (h : Sh m) {p : Nat} (hp : isMd p) : ∀ (k N i : Nat) (o : Prop), i + k = 192 → k < N → f_X5_forgetAmounts_2 N p (nI i) (fil m (p + 5) 0 i (fun _ => -1)) o = ((), fil m (p + 5) 0 192 (fun _ => -1), o) := by
  intro k
  induction k with
  | zero =>
    intro N i o hi hN
    obtain ⟨N, rfl⟩ : ∃ N1, N = N1 + 1 := ⟨N - 1, by omega⟩
    show f_X5_forgetAmounts_2b (f_X5_forgetAmounts_2 N) p (nI i) _ o = _
    obtain rfl : i = 192 := by omega
    unfold f_X5_forgetAmounts_2b
    rw [if_pos (by decide)]
  | succ k ih =>
    intro N i o hi hN
    obtain ⟨N, rfl⟩ : ∃ N1, N = N1 + 1 := ⟨N - 1, by omega⟩
    have h' : Sh (fil m (p + 5) 0 i (fun _ => -1)) := h
    obtain ⟨t1, -⟩ := md_top h' hp
    obtain ⟨-, -, -, v4, v5, v6, -⟩ := md_top2 h' hp
    have n5 : ¬ p + 5 = 0 := by omega
    have hin : vp_in (nI i) 192 := vp_in_nI (by omega) (by omega)
    have hs := fil_1 m (p + 5) 0 i (fun _ => -1)
    rw [Nat.zero_add] at hs
    show f_X5_forgetAmounts_2b (f_X5_forgetAmounts_2 N) p (nI i) _ o = _
    unfold f_X5_forgetAmounts_2b f_X5_forgetAmounts_16
    rw [if_neg (show ¬ (192 : Int32) ≤ nI (i) from nI_ge (a := i) (b := 192) (by omega) (by omega))]
    simp (config := {decide := true}) only [t1, v4, v5, v6, n5, hin, ix_nI (show i < 2 ^ 31 by omega), hs, nI_1, ne_eq, not_false_eq_true, and_self, and_true, true_and, and_false, false_and, true_or, or_true, false_or, or_false, not_true_eq_false, if_false, if_true]
    exact ih N (i + 1) o (by omega) (by omega)
theorem e_forget {m : Mm} (h : Sh m) {p : Nat} (hp : isMd p) : ∃ m', (∀ o, F_X5_forgetAmounts p m o = ((), m', o)) ∧ Fr (fun q _ => q = p + 5) m m' ∧ ∀ (E : (Nat → Int32) → Int32) (mk : Nat → Int32) (a : Nat → Nat → Int32) (n c : Nat), n ≤ 12 → c ≤ 16 → KC E mk m' p a n c := by
  have hl := fun o => l_forget h hp 192 1000 0 o (by omega) (by omega)
  rw [fil_0, nI_0] at hl
  refine ⟨_, hl, ⟨rfl, fun q i hq => ?_⟩, fun E mk a n c hn hc e s he hs => .inl ?_⟩
  · rw [gI_fil, if_neg (fun z => hq z.1)]
  · rw [gI_fil, if_pos ⟨rfl, by omega, by omega⟩]
/-- after the class, then the other side, have worked on the meadow 'now' -/
theorem Rel_two {m m1 m2 : Mm} (hR : Rel m) {w : Nat} (hw : w = gR m 1 9) (hF1 : Fr (fun q x => dyC 2 w q x) m m1) (hF2 : Fr dyM m1 m2) {a : Nat → Nat → Int32} {n c : Nat} (hM : Md m1 2 a) (hW : WfA a n c) (hE : MM m2 a n c d0) : Rel m2 := by
  have hwi : isW w := by rw [hw]; rcases hR.2.1 with ⟨e, -⟩ | ⟨e, -⟩ <;> rw [e]; exact .inl rfl; exact .inr rfl
  refine Rel_ghost hR (Fr_Sh hF2 (Fr_Sh hF1 hR.1)) ⟨(Fr_R hF2 1 9).trans (Fr_R hF1 1 9), (Fr_R hF2 1 10).trans (Fr_R hF1 1 10)⟩ (fun q i hq => ?_) (Md_frame hM (fun q i hq => Fr_at hF2 (by unfold dyM lmP; unfold inM at hq; omega))) hW hE
  rw [Fr_at hF2 (by unfold dyM lmP; unfold keepP inKept inTape inLaw at hq; omega)]
  refine Fr_at hF1 ?_
  unfold dyC lwP
  unfold keepP inKept inTape inLaw at hq
  rcases hwi with rfl | rfl <;> omega
theorem p_chooses : Pr_chooses Rel := fun x => PrI_ex (fun m hR => by
  have h := hR.1
  obtain ⟨a, n, c, C, D, nl, T, V, ⟨hM, hW, hE⟩, l1, l2, l3, l4, l5, l6⟩ := Rel_all hR
  have hn := hW.1.1.1
  have hc := hW.1.1.2
  have h7 : gI m 2 7 = nI c := (hM 0 7 (by omega) (by omega)).trans hW.1.2.2.1
  have g3 : gI m 225 3 = nI c := hE.2.2.1.trans hW.1.2.2.1
  obtain ⟨k1, k2⟩ := law_at h hR.2.1
  by_cases qa : ∃ e, e < c ∧ x = nI e
  · obtain ⟨e, he, rfl⟩ := qa
    have ra : (0 ≤ nI e ∧ nI e ≤ nI c - 1) = True := eq_true ((rng_n (by omega)).mpr ⟨e, he, rfl⟩)
    obtain ⟨m1, a1, a2, a3⟩ := e_forget h (p := 2) (.inl rfl)
    have h1 := Fr_Sh a2 h
    have hw : isW (gR m 1 9) := l1.1
    have hA1 : lawAt m1 (gR m 1 9) C nl := lawAt_Fr l1 a2 (fun q i hq => by rcases hw with z | z <;> omega)
    have hM1 : Md m1 2 a := Md_frame hM (fun q i hq => Fr_at a2 (by unfold inM at hq; omega))
    obtain ⟨m2, b1, b2, b3⟩ := l_best l3 l5 l6 (p := 2) (.inl rfl) hW (sta_refl a n c) he n 1000 0 (-1) 0 m1 h1 hA1 hM1 (a3 _ _ _ _ _ hn hc) (by omega) (by omega)
    rw [nI_0] at b1
    have b1 : ∀ o, F_X5_bestStack 2 (gR m 1 9) (nI e) m1 o = (chF (Ev C nl T V) a e (-1) 0 0 n, m2, o) := b1
    have h2 := Fr_Sh b2 h1
    have F2 : Fr (fun q x => dyC 2 (gR m 1 9) q x) m m2 := Fr_trans (Fr_mono a2 (fun q i hq => .inr ⟨by omega, by omega⟩)) (Fr_mono b2 (fun q i hq => by unfold bsP at hq; unfold dyC; rcases hq with hq | hq | hq; exact .inl hq; exact .inr ⟨by omega, by omega⟩; exact .inr ⟨by omega, by omega⟩))
    have hM2 : Md m2 2 a := Md_frame hM1 (fun q i hq => Fr_at b2 (by unfold bsP lwP; unfold inM at hq; rcases hw with z | z <;> omega))
    have hE2 : MM m2 a n c d0 := MM_frame hE (fun q i hq => Fr_at F2 (by unfold dyC lwP; rcases hw with z | z <;> omega))
    obtain ⟨m3, c1, c2⟩ := l_choice l4 hW he n 1000 0 (-1) 0 m2 h2 (lawM_Fr l2 F2 (fun q i hq => by unfold dyC lwP; rcases hw with z | z <;> omega)) hE2 (by omega) (by omega)
    rw [nI_0] at c1
    have c1 : ∀ o, F_X12_choice 225 (nI e) m2 o = (chF (Ev C nl T V) a e (-1) 0 0 n, m3, o) := c1
    have k1' : gR m1 1 9 = gR m 1 9 := Fr_R a2 1 9
    have k2' : gT m1 (gR m 1 9) = 4 := (w_sh h1 hw).1
    refine ⟨chF (Ev C nl T V) a e (-1) 0 0 n, m2, m3, fun o => ?_, h2, fun o => ?_, Rel_two hR rfl F2 (Fr_mono c2 (fun q i hq => .inl hq)) hM2 hW (MM_frame hE2 (fun q i hq => Fr_at c2 (by unfold lmP; omega)))⟩
    · simp (config := {decide := true}) only [f_X11_chooses_29, f_X11_chooses_17, f_X11_chooses_5, f_X11_chooses_0, F_X11_chooses, bnd, e_hasCow _ h, h7, ra, bI_0, shT_1 h, shR_1_0 h, shT_2 h, shT_1 h1, shR_1_0 h1, shT_2 h1, a1, k1', k2', k1, b1, ne_eq, not_false_eq_true, and_self, and_true, true_and, and_false, false_and, true_or, or_true, false_or, or_false, not_true_eq_false, if_false, if_true]
    · have g32 : gI m2 225 3 = nI c := hE2.2.2.1.trans hW.1.2.2.1
      simp (config := {decide := true}) only [f_X12_chooses_17, f_X12_chooses_13, f_X12_chooses_5, f_X12_chooses_0, F_X12_chooses, bnd, e_isCowM _ h2, g32, ra, bI_0, shT_225 h2, c1, ne_eq, not_false_eq_true, and_self, and_true, true_and, and_false, false_and, true_or, or_true, false_or, or_false, not_true_eq_false, if_false, if_true]
  · have ra : (0 ≤ x ∧ x ≤ nI c - 1) = False := eq_false (fun z => qa ((rng_n (by omega)).mp z))
    refine ⟨-1, m, m, fun o => ?_, h, fun o => ?_, hR⟩
    · simp (config := {decide := true}) only [f_X11_chooses_29, f_X11_chooses_17, f_X11_chooses_5, f_X11_chooses_0, F_X11_chooses, bnd, e_hasCow _ h, h7, ra, bI_0, shT_1 h, ne_eq, not_false_eq_true, and_self, and_true, true_and, and_false, false_and, true_or, or_true, false_or, or_false, not_true_eq_false, if_false, if_true]
    · simp (config := {decide := true}) only [f_X12_chooses_17, f_X12_chooses_13, f_X12_chooses_5, f_X12_chooses_0, F_X12_chooses, bnd, e_isCowM _ h, g3, ra, bI_0, shT_225 h, ne_eq, not_false_eq_true, and_self, and_true, true_and, and_false, false_and, true_or, or_true, false_or, or_false, not_true_eq_false, if_false, if_true])
/-- days one after another: meadow, hay eaten -/
def dyI (E G : (Nat → Int32) → Int32) (n c : Nat) : Nat → (Nat → Nat → Int32) × Int32 → (Nat → Nat → Int32) × Int32
  | 0, z => z
  | k + 1, z => dyI E G n c k (dayA E G n c z.1, z.2 + dayH E n c z.1)
theorem WfA_dyI (E : (Nat → Int32) → Int32) {G : (Nat → Int32) → Int32} (hG : ∀ l, ∃ v, v ≤ 99 ∧ G l = nI v) {n c : Nat} : ∀ (k : Nat) (z : (Nat → Nat → Int32) × Int32), WfA z.1 n c → WfA (dyI E G n c k z).1 n c ∧ sta z.1 (dyI E G n c k z).1 n c
  | 0, _, hW => ⟨hW, sta_refl _ _ _⟩
  | k + 1, z, hW => by
    obtain ⟨h1, h2⟩ := WfA_day E hG hW
    obtain ⟨h3, h4⟩ := WfA_dyI E hG k (dayA E G n c z.1, z.2 + dayH E n c z.1) h1
    exact ⟨h3, sta_trans h2 h4⟩
theorem l_days {C : Nat → Nat → Int32} {nl : Nat} {T : Nat → (Nat → Int32) → Option Bool} {V : Nat → (Nat → Int32) → Option Int32} (hL : LwF C nl T V) (hmk : ∀ j, j < 10 → C 8 j = 0 ∨ C 8 j = -1) (hdE : dep (C 8) (Ev C nl T V)) {w : Nat} {a0 : Nat → Nat → Int32} {n c nd : Nat} (hnd : nd ≤ 20) : ∀ (k N i : Nat) (z : (Nat → Nat → Int32) × Int32) (m : Mm), Sh m → gR m 1 9 = w → lawAt m w C nl → Md m 2 z.1 → WfA z.1 n c → sta a0 z.1 n c → KC (Ev C nl T V) (C 8) m 2 a0 n c → i + k = nd → k < N → ∃ m', (∀ o, f_X11_days_23 N 1 (nI nd) z.2 (nI i) m o = ((dyI (Ev C nl T V) (Gv C nl T V) n c k z).2, m', o)) ∧ Md m' 2 (dyI (Ev C nl T V) (Gv C nl T V) n c k z).1 ∧ Fr (dyC 2 w) m m' := by
  intro k
  induction k with
  | zero =>
    intro N i z m h hr hA hM hW hS hK hi hN
    obtain ⟨N, rfl⟩ : ∃ N1, N = N1 + 1 := ⟨N - 1, by omega⟩
    have hle : nI nd ≤ nI i := nI_le (by omega) (by omega)
    refine ⟨m, fun o => ?_, hM, Fr_refl _ m⟩
    show f_X11_days_23b (f_X11_days_23 N) 1 (nI nd) z.2 (nI i) m o = _
    unfold f_X11_days_23b
    rw [if_pos hle]
    rfl
  | succ k ih =>
    intro N i z m h hr hA hM hW hS hK hi hN
    obtain ⟨N, rfl⟩ : ∃ N1, N = N1 + 1 := ⟨N - 1, by omega⟩
    have hle : ¬ nI nd ≤ nI i := nI_ge (by omega) (by omega)
    obtain ⟨m1, a1, a2, a3, -, a5⟩ := e_passDay hL hmk hdE (p := 2) (.inl rfl) h hA hM hW hS hK
    have h1 := Fr_Sh a5 h
    obtain ⟨W1, S1⟩ := WfA_day (Ev C nl T V) (Gv_nI C nl T V) hW
    have hA1 : lawAt m1 w C nl := lawAt_Fr hA a5 (fun q x hq => by unfold dyC lwP; rcases hA.1 with z | z <;> omega)
    obtain ⟨m2, b1, b2, b3⟩ := ih N (i + 1) (dayA (Ev C nl T V) (Gv C nl T V) n c z.1, z.2 + dayH (Ev C nl T V) n c z.1) m1 h1 ((Fr_R a5 1 9).trans hr) hA1 a2 W1 (sta_trans hS S1) a3 (by omega) (by omega)
    have n9 : ¬ w = 0 := by rcases hA.1 with z | z <;> omega
    obtain ⟨w0, -⟩ := w_sh h hA.1
    refine ⟨m2, fun o => ?_, b2, Fr_trans a5 b3⟩
    show f_X11_days_23b (f_X11_days_23 N) 1 (nI nd) z.2 (nI i) m o = _
    unfold f_X11_days_23b
    rw [if_neg hle]
    simp (config := {decide := true}) only [f_X11_days_40, bnd, shT_1 h, shR_1_0 h, shT_2 h, hr, w0, n9, a1, nI_1, ne_eq, not_false_eq_true, and_self, and_true, true_and, and_false, false_and, true_or, or_true, false_or, or_false, not_true_eq_false, if_false, if_true]
    exact b1 o
theorem l_daysM {C D : Nat → Nat → Int32} {nl : Nat} {T : Nat → (Nat → Int32) → Option Bool} {V : Nat → (Nat → Int32) → Option Int32} (hL : LwM (C 3) D nl T V) {n c nd : Nat} {d : Nat → Int32} (hnd : nd ≤ 20) : ∀ (k N i : Nat) (z : (Nat → Nat → Int32) × Int32) (m : Mm), Sh m → lawM m D nl → MM m z.1 n c d → WfA z.1 n c → gI m 225 51 = z.2 → i + k = nd → k < N → ∃ m', (∀ o, f_X12_days_16 N 225 (nI nd) (nI i) m o = ((dyI (Ev C nl T V) (Gv C nl T V) n c k z).2, m', o)) ∧ MM m' (dyI (Ev C nl T V) (Gv C nl T V) n c k z).1 n c d ∧ Fr dyM m m' := by
  intro k
  induction k with
  | zero =>
    intro N i z m h hA hE hW h51 hi hN
    obtain ⟨N, rfl⟩ : ∃ N1, N = N1 + 1 := ⟨N - 1, by omega⟩
    have hle : nI nd ≤ nI i := nI_le (by omega) (by omega)
    refine ⟨m, fun o => ?_, hE, Fr_refl _ m⟩
    show f_X12_days_16b (f_X12_days_16 N) 225 (nI nd) (nI i) m o = _
    simp (config := {decide := true}) only [f_X12_days_16b, hle, h51, shT_225 h, dyI, ne_eq, not_false_eq_true, and_self, and_true, true_and, and_false, false_and, true_or, or_true, false_or, or_false, not_true_eq_false, if_false, if_true]
  | succ k ih =>
    intro N i z m h hA hE hW h51 hi hN
    obtain ⟨N, rfl⟩ : ∃ N1, N = N1 + 1 := ⟨N - 1, by omega⟩
    have hle : ¬ nI nd ≤ nI i := nI_ge (by omega) (by omega)
    obtain ⟨m1, a1, a2, a3, a4, a5, a6⟩ := e_dayOne (V := V) hL h hA hE hW
    have h1 := Fr_Sh a6 h
    obtain ⟨W1, S1⟩ := WfA_day (Ev C nl T V) (Gv_nI C nl T V) hW
    obtain ⟨m2, b1, b2, b3⟩ := ih N (i + 1) (dayA (Ev C nl T V) (Gv C nl T V) n c z.1, z.2 + dayH (Ev C nl T V) n c z.1) m1 h1 (lawM_Fr hA a6 (fun q x hq => by unfold dyM lmP; omega)) a2 W1 (by rw [a3, h51]) (by omega) (by omega)
    refine ⟨m2, fun o => ?_, b2, Fr_trans a6 b3⟩
    show f_X12_days_16b (f_X12_days_16 N) 225 (nI nd) (nI i) m o = _
    simp (config := {decide := true}) only [f_X12_days_16b, f_X12_days_25, bnd, hle, shT_225 h, a1, nI_1, ne_eq, not_false_eq_true, and_self, and_true, true_and, and_false, false_and, true_or, or_true, false_or, or_false, not_true_eq_false, if_false, if_true]
    exact b1 o
theorem p_days : Pr_days Rel := fun x => PrI_ex (fun m hR => by
  have h := hR.1
  by_cases qa : 1 ≤ x ∧ x ≤ 20
  · have ra : (1 ≤ x ∧ x ≤ 20) = True := eq_true qa
    obtain ⟨nd, hnd, rfl⟩ := rng_in (N := 20) (by decide) ⟨Int32.le_trans (by decide) qa.1, qa.2⟩
    obtain ⟨a, n, c, C, D, nl, T, V, ⟨hM, hW, hE⟩, l1, l2, l3, l4, l5, l6⟩ := Rel_all hR
    have hn := hW.1.1.1
    have hc := hW.1.1.2
    have hw : isW (gR m 1 9) := l1.1
    obtain ⟨m1, a1, a2, a3⟩ := e_forget h (p := 2) (.inl rfl)
    have h1 := Fr_Sh a2 h
    have hA1 : lawAt m1 (gR m 1 9) C nl := lawAt_Fr l1 a2 (fun q i hq => by rcases hw with z | z <;> omega)
    have hM1 : Md m1 2 a := Md_frame hM (fun q i hq => Fr_at a2 (by unfold inM at hq; omega))
    obtain ⟨m2, b1, b2, b3⟩ := l_days l3 l5 l6 hnd nd 1000 0 (a, 0) m1 h1 (Fr_R a2 1 9) hA1 hM1 hW (sta_refl a n c) (a3 _ _ _ _ _ hn hc) (by omega) (by omega)
    rw [nI_0] at b1
    have h2 := Fr_Sh b3 h1
    have F2 : Fr (fun q x => dyC 2 (gR m 1 9) q x) m m2 := Fr_trans (Fr_mono a2 (fun q i hq => .inr ⟨by omega, by omega⟩)) b3
    have hE2 : MM (sI m2 225 51 0) a n c d0 := MM_frame hE (fun q i hq => by
      rw [gI_sI, if_neg (by omega)]
      exact Fr_at F2 (by unfold dyC lwP; rcases hw with z | z <;> omega))
    have h2' : Sh (sI m2 225 51 0) := h2
    have lM2 : lawM (sI m2 225 51 0) D nl := lawM_Fr (lawM_Fr l2 F2 (fun q i hq => by unfold dyC lwP; rcases hw with z | z <;> omega)) (Fr_sI (Fr_refl (fun q x => q = 225 ∧ x = 51) m2) ⟨rfl, rfl⟩ 0) (fun q i hq => by omega)
    obtain ⟨m3, c1, c2, c3⟩ := l_daysM l4 hnd nd 1000 0 (a, 0) (sI m2 225 51 0) h2' lM2 hE2 hW rfl (by omega) (by omega)
    rw [nI_0] at c1
    refine ⟨(dyI (Ev C nl T V) (Gv C nl T V) n c nd (a, 0)).2, m2, m3, fun o => ?_, h2, fun o => ?_, Rel_two hR rfl F2 (Fr_trans (Fr_sI (Fr_refl dyM m2) (by unfold dyM; omega) 0) c3) b2 (WfA_dyI (Ev C nl T V) (Gv_nI C nl T V) nd (a, 0) hW).1 c2⟩
    · simp (config := {decide := true}) only [f_X11_days_40, f_X11_days_21, f_X11_days_7, f_X11_days_0, F_X11_days, bnd, e_isWithin, ra, bI_0, shT_1 h, shR_1_0 h, shT_2 h, a1, b1, ne_eq, not_false_eq_true, and_self, and_true, true_and, and_false, false_and, true_or, or_true, false_or, or_false, not_true_eq_false, if_false, if_true]
    · simp (config := {decide := true}) only [f_X12_days_25, f_X12_days_14, f_X12_days_4, f_X12_days_0, F_X12_days, bnd, e_areDaysM, ra, bI_0, shT_225 h2, c1, ne_eq, not_false_eq_true, and_self, and_true, true_and, and_false, false_and, true_or, or_true, false_or, or_false, not_true_eq_false, if_false, if_true]
  · have ra : (1 ≤ x ∧ x ≤ 20) = False := eq_false qa
    refine ⟨-1, m, m, fun o => ?_, h, fun o => ?_, hR⟩
    · simp (config := {decide := true}) only [f_X11_days_40, f_X11_days_21, f_X11_days_7, f_X11_days_0, F_X11_days, bnd, e_isWithin, ra, bI_0, ne_eq, not_false_eq_true, and_self, and_true, true_and, and_false, false_and, true_or, or_true, false_or, or_false, not_true_eq_false, if_false, if_true]
    · simp (config := {decide := true}) only [f_X12_days_25, f_X12_days_14, f_X12_days_4, f_X12_days_0, F_X12_days, bnd, e_areDaysM, ra, bI_0, ne_eq, not_false_eq_true, and_self, and_true, true_and, and_false, false_and, true_or, or_true, false_or, or_false, not_true_eq_false, if_false, if_true])
