/-! ===== run ===== -/
theorem l_runsK {m : Mm} (h : Sh m) : ∀ (k N i : Nat) (o : Prop), i + k = 5 → k < N → f_X12_runs_24 N 225 (nI i) (fil m 272 0 i (fun j => gI m 239 j - gI m 269 j)) o = ((), fil m 272 0 5 (fun j => gI m 239 j - gI m 269 j), o) := by
  intro k
  induction k with
  | zero =>
    intro N i o hi hN
    obtain ⟨N, rfl⟩ : ∃ N1, N = N1 + 1 := ⟨N - 1, by omega⟩
    show f_X12_runs_24b (f_X12_runs_24 N) 225 (nI i) _ o = _
    obtain rfl : i = 5 := by omega
    unfold f_X12_runs_24b
    rw [if_pos (by decide)]
  | succ k ih =>
    intro N i o hi hN
    obtain ⟨N, rfl⟩ : ∃ N1, N = N1 + 1 := ⟨N - 1, by omega⟩
    have h' : Sh (fil m 272 0 i (fun j => gI m 239 j - gI m 269 j)) := h
    have hin : vp_in (nI i) 5 := vp_in_nI (by omega) (by omega)
    have hin2 : vp_in (nI i) 10 := vp_in_nI (by omega) (by omega)
    have hs := fil_1 m 272 0 i (fun j => gI m 239 j - gI m 269 j)
    rw [Nat.zero_add] at hs
    have g1 : gI (fil m 272 0 i (fun j => gI m 239 j - gI m 269 j)) 239 i = gI m 239 i := by rw [gI_fil, if_neg (by omega)]
    have g2 : gI (fil m 272 0 i (fun j => gI m 239 j - gI m 269 j)) 269 i = gI m 269 i := by rw [gI_fil, if_neg (by omega)]
    show f_X12_runs_24b (f_X12_runs_24 N) 225 (nI i) _ o = _
    unfold f_X12_runs_24b f_X12_runs_48
    rw [if_neg (show ¬ (5 : Int32) ≤ nI (i) from nI_ge (a := i) (b := 5) (by omega) (by omega))]
    simp (config := {decide := true}) only [shT_225 h', shR_225_20 h', shR_225_64 h', shR_225_67 h', shT_239 h', shN_239 h', shT_269 h', shN_269 h', shT_272 h', shN_272 h', hin, hin2, ix_nI (show i < 2 ^ 31 by omega), g1, g2, hs, nI_1, ne_eq, not_false_eq_true, and_self, and_true, true_and, and_false, false_and, true_or, or_true, false_or, or_false, not_true_eq_false, if_false, if_true]
    exact ih N (i + 1) o (by omega) (by omega)
theorem l_runsM {C D : Nat → Nat → Int32} {nl : Nat} {T : Nat → (Nat → Int32) → Option Bool} {V : Nat → (Nat → Int32) → Option Int32} (hL : LwM (C 3) D nl T V) {n c nd : Nat} {d : Nat → Int32} (hnd : nd ≤ 20) (r : Mm → Prop → Unit × Mm × Prop) (hr : ∀ m o, f_X12_runs_24 1000 225 0 m o = r m o) : ∀ (k N i : Nat) (z : (Nat → Nat → Int32) × Int32) (m : Mm), Sh m → lawM m D nl → MM m z.1 n c d → WfA z.1 n c → gI m 225 50 = z.2 → i + k = nd → k < N → ∃ m', (∀ o, f_X12_runs_7 N 225 (nI nd) (nI i) m o = r m' o) ∧ MM m' (dyB (Ev C nl T V) (Gv C nl T V) n c k z).1 n c d ∧ gI m' 225 50 = (dyB (Ev C nl T V) (Gv C nl T V) n c k z).2 ∧ Fr dyM m m' := by
  intro k
  induction k with
  | zero =>
    intro N i z m h hA hE hW h50 hi hN
    obtain ⟨N, rfl⟩ : ∃ N1, N = N1 + 1 := ⟨N - 1, by omega⟩
    have hle : nI nd ≤ nI i := nI_le (by omega) (by omega)
    refine ⟨m, fun o => ?_, hE, h50, Fr_refl _ m⟩
    show f_X12_runs_7b (f_X12_runs_7 N) 225 (nI nd) (nI i) m o = _
    unfold f_X12_runs_7b
    rw [if_pos hle, hr]
  | succ k ih =>
    intro N i z m h hA hE hW h50 hi hN
    obtain ⟨N, rfl⟩ : ∃ N1, N = N1 + 1 := ⟨N - 1, by omega⟩
    have hle : ¬ nI nd ≤ nI i := nI_ge (by omega) (by omega)
    obtain ⟨m1, a1, a2, a3, a4, a5, a6⟩ := e_dayOne (V := V) hL h hA hE hW
    have h1 := Fr_Sh a6 h
    obtain ⟨W1, S1⟩ := WfA_day (Ev C nl T V) (Gv_nI C nl T V) hW
    obtain ⟨m2, b1, b2, b3, b4⟩ := ih N (i + 1) (dayA (Ev C nl T V) (Gv C nl T V) n c z.1, z.2 + dayB (Ev C nl T V) (Gv C nl T V) n c z.1) m1 h1 (lawM_Fr hA a6 (fun q x hq => by unfold dyM lmP; omega)) a2 W1 (by rw [a4, h50]) (by omega) (by omega)
    refine ⟨m2, fun o => ?_, b2, b3, Fr_trans a6 b4⟩
    show f_X12_runs_7b (f_X12_runs_7 N) 225 (nI nd) (nI i) m o = _
    unfold f_X12_runs_7b
    rw [if_neg hle]
    simp (config := {decide := true}) only [f_X12_runs_16, bnd, shT_225 h, a1, nI_1, ne_eq, not_false_eq_true, and_self, and_true, true_and, and_false, false_and, true_or, or_true, false_or, or_false, not_true_eq_false, if_false, if_true]
    exact b1 o
def rnM (q i : Nat) : Prop := dyM q i ∨ q = 272
/-- a run of the other side: its counts since then, how many burnt -/
theorem e_runs {C D : Nat → Nat → Int32} {nl : Nat} {T : Nat → (Nat → Int32) → Option Bool} {V : Nat → (Nat → Int32) → Option Int32} (hL : LwM (C 3) D nl T V) {b : Nat → Nat → Int32} {n c nd : Nat} {d : Nat → Int32} (hnd : nd ≤ 20) {m : Mm} (h : Sh m) (hA : lawM m D nl) (hE : MM m b n c d) (hW : WfA b n c) (hd : ∀ j, j < 5 → gI m 269 j = d j) : ∃ m', (∀ o, F_X12_runs 225 (nI nd) m o = ((), m', o)) ∧ MM m' (dyB (Ev C nl T V) (Gv C nl T V) n c nd (b, 0)).1 n c d ∧ gI m' 225 50 = (dyB (Ev C nl T V) (Gv C nl T V) n c nd (b, 0)).2 ∧ (∀ j, j < 5 → gI m' 272 j = (dyB (Ev C nl T V) (Gv C nl T V) n c nd (b, 0)).1 3 j) ∧ Fr rnM m m' := by
  have F0 : Fr dyM m (sI m 225 50 0) := Fr_sI (Fr_refl _ m) (by unfold dyM; omega) _
  have h0 := Fr_Sh F0 h
  have hE0 : MM (sI m 225 50 0) b n c d := MM_frame hE (fun q i hq => by rw [gI_sI, if_neg (by omega)])
  obtain ⟨m1, a1, a2, a3, a4⟩ := l_runsM (V := V) hL hnd _ (fun _ _ => rfl) nd 1000 0 (b, 0) (sI m 225 50 0) h0 (lawM_Fr hA F0 (fun q x hq => by unfold dyM lmP; omega)) hE0 hW rfl (by omega) (by omega)
  have h1 := Fr_Sh a4 h0
  have hl := fun o => l_runsK h1 5 1000 0 o (by omega) (by omega)
  rw [fil_0, nI_0] at hl
  rw [nI_0] at a1
  have g : ∀ q i, q ≠ 272 → gI (fil m1 272 0 5 (fun j => gI m1 239 j - gI m1 269 j)) q i = gI m1 q i := fun q i hq => by rw [gI_fil, if_neg (fun z => hq z.1)]
  refine ⟨fil m1 272 0 5 (fun j => gI m1 239 j - gI m1 269 j), fun o => ?_, MM_frame a2 (fun q i hq => g q i (by omega)), (g 225 50 (by omega)).trans a3, fun j hj => ?_, Fr_trans (Fr_mono (Fr_trans F0 a4) (fun q i hq => .inl hq)) ⟨rfl, fun q i hq => g q i (fun z => hq (.inr z))⟩⟩
  · simp (config := {decide := true}) only [f_X12_runs_16, f_X12_runs_48, f_X12_runs_5, f_X12_runs_0, F_X12_runs, shT_225 h, a1, hl, ne_eq, not_false_eq_true, and_self, and_true, true_and, and_false, false_and, true_or, or_true, false_or, or_false, not_true_eq_false, if_false, if_true]
  · have e269 : gI m1 269 j = d j := by
      rw [Fr_at a4 (by unfold dyM lmP; omega), gI_sI, if_neg (by omega)]
      exact hd j hj
    have this := a2.1.2.2.1 j hj
    rw [Nat.mul_zero, Nat.zero_add] at this
    have this : gI m1 239 j = (dyB (Ev C nl T V) (Gv C nl T V) n c nd (b, 0)).1 3 j + d j := this
    rw [gI_fil, if_pos ⟨rfl, by omega, by omega⟩, Nat.sub_zero, e269, this, Int32.add_sub_cancel]
theorem l_runC {C : Nat → Nat → Int32} {nl : Nat} {T : Nat → (Nat → Int32) → Option Bool} {V : Nat → (Nat → Int32) → Option Int32} (hL : LwF C nl T V) (hmk : ∀ j, j < 10 → C 8 j = 0 ∨ C 8 j = -1) (hdE : dep (C 8) (Ev C nl T V)) {w : Nat} {a0 : Nat → Nat → Int32} {n c nd : Nat} (hnd : nd ≤ 20) (x y : Int32) (r : Mm → Prop → Int32 × Mm × Prop) (hr : ∀ m N o, f_X11_run_70b (f_X11_run_70 N) 1 (nI nd) x y (nI nd) m o = r m o) : ∀ (k N i : Nat) (z : (Nat → Nat → Int32) × Int32) (m : Mm), Sh m → gR m 1 9 = w → lawAt m w C nl → Md m 128 z.1 → WfA z.1 n c → sta a0 z.1 n c → KC (Ev C nl T V) (C 8) m 128 a0 n c → i + k = nd → k < N → ∃ m', (∀ o, f_X11_run_70 N 1 (nI nd) x y (nI i) m o = r m' o) ∧ Md m' 128 (dyI (Ev C nl T V) (Gv C nl T V) n c k z).1 ∧ Fr (dyC 128 w) m m' := by
  intro k
  induction k with
  | zero =>
    intro N i z m h hg hA hM hW hS hK hi hN
    obtain ⟨N, rfl⟩ : ∃ N1, N = N1 + 1 := ⟨N - 1, by omega⟩
    obtain rfl : i = nd := by omega
    exact ⟨m, fun o => hr m N o, hM, Fr_refl _ m⟩
  | succ k ih =>
    intro N i z m h hg hA hM hW hS hK hi hN
    obtain ⟨N, rfl⟩ : ∃ N1, N = N1 + 1 := ⟨N - 1, by omega⟩
    have hle : ¬ nI nd ≤ nI i := nI_ge (by omega) (by omega)
    obtain ⟨m1, a1, a2, a3, -, a5⟩ := e_passDay hL hmk hdE (p := 128) (.inr (.inr rfl)) h hA hM hW hS hK
    have h1 := Fr_Sh a5 h
    obtain ⟨W1, S1⟩ := WfA_day (Ev C nl T V) (Gv_nI C nl T V) hW
    have hA1 : lawAt m1 w C nl := lawAt_Fr hA a5 (fun q x hq => by unfold dyC lwP; rcases hA.1 with z | z <;> omega)
    obtain ⟨m2, b1, b2, b3⟩ := ih N (i + 1) (dayA (Ev C nl T V) (Gv C nl T V) n c z.1, z.2 + dayH (Ev C nl T V) n c z.1) m1 h1 ((Fr_R a5 1 9).trans hg) hA1 a2 W1 (sta_trans hS S1) a3 (by omega) (by omega)
    have n9 : ¬ w = 0 := by rcases hA.1 with z | z <;> omega
    obtain ⟨w0, -⟩ := w_sh h hA.1
    refine ⟨m2, fun o => ?_, b2, Fr_trans a5 b3⟩
    show f_X11_run_70b (f_X11_run_70 N) 1 (nI nd) x y (nI i) m o = _
    unfold f_X11_run_70b
    rw [if_neg hle]
    simp (config := {decide := true}) only [f_X11_run_87, bnd, shT_1 h, shR_1_2 h, shT_128 h, hg, w0, n9, a1, nI_1, ne_eq, not_false_eq_true, and_self, and_true, true_and, and_false, false_and, true_or, or_true, false_or, or_false, not_true_eq_false, if_false, if_true]
    exact b1 o
theorem side_kept {q i : Nat} (h : inKept q i) : ¬ sideP 0 q i := by
  unfold inKept at h
  unfold sideP
  have o1 : q ≤ 263 → 257 ≤ q → off (q - 257) = 12 := fun a b => by unfold off; rw [if_pos (by omega)]
  have o2 : 264 ≤ q → q ≤ 267 → off (q - 257) = 16 := fun a b => by unfold off; rw [if_neg (by omega), if_pos (by omega)]
  have o3 : q = 268 → off (q - 257) = 80 := by rintro rfl; rfl
  have o4 : q = 269 → off (q - 257) = 5 := by rintro rfl; rfl
  have o5 : q = 270 → off (q - 257) = 192 := by rintro rfl; rfl
  rintro (z | z | z | z | z | z)
  · rw [o1 (by omega) (by omega)] at h; omega
  · rw [o2 (by omega) (by omega)] at h; omega
  · rw [o3 (by omega)] at h; omega
  · rw [o4 (by omega)] at h; omega
  · rw [o5 (by omega)] at h; omega
  · omega
/-- what is asked of a run -/
noncomputable def rnA (x : Int32) (a b : Nat → Nat → Int32) (n : Nat) : Int32 := if x = 6 then stN a n - stN b n else if x = 5 then winF (b 3) else if x < 5 then b 3 (ix x) else b (7 + 2 * ix (x - 10)) 3
theorem stN_Md {m : Mm} (h : Sh m) {p : Nat} (hp : isMd p) {a : Nat → Nat → Int32} {n c : Nat} (hM : Md m p a) (hW : WfA a n c) (o : Prop) : F_X5_standingCount p m o = (stN a n, m, o) := by
  have hn := hW.1.1.1
  rw [e_standingCount h hp hn ((hM 0 6 (by omega) (by omega)).trans hW.1.2.1)]
  congr 1
  exact sumI_congr n 0 0 (fun t _ ht => Md_at hM (by omega) (by omega) (by omega))
/-- whether a run is asked for -/
def okR (x : Int32) (n : Nat) : Prop := (0 ≤ x ∧ x ≤ 6) ∨ ∃ s, s < n ∧ x = nI (10 + s)
theorem e_runEnd {m : Mm} (h : Sh m) {a b : Nat → Nat → Int32} {n c : Nat} (hM : Md m 2 a) (hMb : Md m 128 b) (hW : WfA a n c) (hWb : WfA b n c) (x : Int32) (nd : Int32) (hok : okR x n) (K : Nat → Int32 → Int32 → Int32 → Int32 → Mm → Prop → Int32 × Mm × Prop) (o : Prop) : f_X11_run_70b K 1 nd x (if x < 10 then 0 else 1) nd m o = (rnA x a b n, m, o) := by
  have hn := hW.1.1.1
  have hle : nd ≤ nd := Int32.le_refl _
  have hs1 := fun o => stN_Md h (p := 2) (.inl rfl) hM hW o
  have hs2 := fun o => stN_Md h (p := 128) (.inr (.inr rfl)) hMb hWb o
  have hw := fun o => e_winner h (p := 128) (.inr (.inr rfl)) o
  have ew : winF (gI m 131) = winF (b 3) := winF_congr (fun j hj => hMb 3 j (by omega) (by omega))
  unfold f_X11_run_70b rnA
  rw [if_pos hle]
  rcases hok with q | ⟨s, hs, rfl⟩
  · obtain ⟨k, hk, rfl⟩ := rng_in (N := 6) (by decide) q
    have l10 : nI k < (10 : Int32) := nI_lt (a := k) (b := 10) (by omega) (by omega)
    have e6 : (nI k = (6 : Int32)) = (k = 6) := propext (nI_eq (a := k) (b := 6) (by omega) (by omega))
    have e5 : (nI k = (5 : Int32)) = (k = 5) := propext (nI_eq (a := k) (b := 5) (by omega) (by omega))
    have l5 : (nI k < (5 : Int32)) = (k < 5) := propext (nI_ltI (a := k) (b := 5) (by omega) (by omega))
    rw [if_pos l10, if_pos rfl]
    simp only [e6, e5, l5]
    by_cases q6 : k = 6
    · rw [if_pos q6, if_pos q6]
      simp (config := {decide := true}) only [f_X11_run_127, f_X11_run_134, bnd, shT_1 h, shR_1_0 h, shR_1_2 h, shT_2 h, shT_128 h, hs1, hs2, ne_eq, not_false_eq_true, and_self, and_true, true_and, and_false, false_and, true_or, or_true, false_or, or_false, not_true_eq_false, if_false, if_true]
    · rw [if_neg q6, if_neg q6]
      by_cases q5 : k = 5
      · rw [if_pos q5, if_pos q5]
        simp (config := {decide := true}) only [f_X11_run_148, f_X11_run_160, bnd, shT_1 h, shR_1_2 h, shT_128 h, hw, ne_eq, not_false_eq_true, and_self, and_true, true_and, and_false, false_and, true_or, or_true, false_or, or_false, not_true_eq_false, if_false, if_true]
        rw [← ew]
      · rw [if_neg q5, if_neg q5, if_pos (by omega)]
        have hin : vp_in (nI k) 5 := vp_in_nI (by omega) (by omega)
        have g3 : gI m 131 k = b 3 k := hMb 3 k (by omega) (by omega)
        simp (config := {decide := true}) only [f_X11_run_160, shT_1 h, shR_1_2 h, shT_128 h, shR_128_2 h, shT_131 h, shN_131 h, hin, ix_nI (show k < 2 ^ 31 by omega), g3, ne_eq, not_false_eq_true, and_self, and_true, true_and, and_false, false_and, true_or, or_true, false_or, or_false, not_true_eq_false, if_false, if_true]
  · have l10 : ¬ nI (10 + s) < (10 : Int32) := nI_nlt (a := 10 + s) (b := 10) (by omega) (by omega)
    have e6 : ¬ nI (10 + s) = (6 : Int32) := fun z => by have := (nI_eq (a := 10 + s) (b := 6) (by omega) (by omega)).mp z; omega
    have e5 : ¬ nI (10 + s) = (5 : Int32) := fun z => by have := (nI_eq (a := 10 + s) (b := 5) (by omega) (by omega)).mp z; omega
    have l5 : ¬ nI (10 + s) < (5 : Int32) := nI_nlt (a := 10 + s) (b := 5) (by omega) (by omega)
    have es : nI (10 + s) - (10 : Int32) = nI s := by
      rw [show (10 : Int32) = nI 10 from rfl, pk_sub (by omega), Nat.add_sub_cancel_left]
    obtain ⟨u1, u2, -⟩ := md_stk h (p := 128) (.inr (.inr rfl)) (show s < 12 by omega)
    have u1 : gR m 129 s = 128 + 7 + 2 * s := u1
    have n2 : ¬ 128 + 7 + 2 * s = 0 := by omega
    have hin : vp_in (nI s) 12 := vp_in_nI (by omega) (by omega)
    have g3 : gI m (128 + 7 + 2 * s) 3 = b (7 + 2 * s) 3 := Md_at hMb (by omega) (by omega) (by omega)
    rw [if_neg l10, if_neg (by decide), if_neg e6, if_neg e5, if_neg l5, es, ix_nI (show s < 2 ^ 31 by omega), shR_1_2 h, shR_128_0 h, u1, g3]
    simp (config := {decide := true}) only [shT_1 h, shT_128 h, shT_129 h, shN_129 h, u2, n2, hin, ne_eq, not_false_eq_true, and_self, and_true, true_and, and_false, false_and, true_or, or_true, false_or, or_false, not_true_eq_false, if_false, if_true]
theorem e_runEndM {m : Mm} (h : Sh m) {a b : Nat → Nat → Int32} {n c : Nat} {d : Nat → Int32} (hE : MM m b n c d) (hWb : WfA b n c) (x : Int32) (hok : okR x n) (h50 : gI m 225 50 = stN a n - stN b n) (hg : ∀ j, j < 5 → gI m 272 j = b 3 j) (o : Prop) : f_X12_run_50 225 x m o = f_X12_run_98 225 (rnA x a b n) m o := by
  have hn := hWb.1.1.1
  have hw := fun o => e_winnerM h o
  have ew : winF (gI m 272) = winF (b 3) := winF_congr hg
  unfold f_X12_run_50 rnA
  rcases hok with q | ⟨s, hs, rfl⟩
  · obtain ⟨k, hk, rfl⟩ := rng_in (N := 6) (by decide) q
    have e6 : (nI k = (6 : Int32)) = (k = 6) := propext (nI_eq (a := k) (b := 6) (by omega) (by omega))
    have e5 : (nI k = (5 : Int32)) = (k = 5) := propext (nI_eq (a := k) (b := 5) (by omega) (by omega))
    have l5 : (nI k < (5 : Int32)) = (k < 5) := propext (nI_ltI (a := k) (b := 5) (by omega) (by omega))
    have g5 : ((5 : Int32) ≤ nI k) = (5 ≤ k) := propext (nI_leI (a := 5) (b := k) (by omega) (by omega))
    simp only [e6, e5, l5, g5]
    by_cases q6 : k = 6
    · rw [if_pos q6, if_pos (by omega), if_neg (by omega), if_pos q6]
      simp (config := {decide := true}) only [shT_225 h, h50, ne_eq, not_false_eq_true, and_self, and_true, true_and, and_false, false_and, true_or, or_true, false_or, or_false, not_true_eq_false, if_false, if_true]
    · by_cases q5 : k = 5
      · simp only [if_neg q6, if_pos q5, if_pos (show 5 ≤ k by omega)]
        simp (config := {decide := true}) only [f_X12_run_73, bnd, shT_225 h, hw, ew, ne_eq, not_false_eq_true, and_self, and_true, true_and, and_false, false_and, true_or, or_true, false_or, or_false, not_true_eq_false, if_false, if_true]
      · simp only [if_neg q6, if_neg q5, if_pos (show k < 5 by omega), if_neg (show ¬ 5 ≤ k by omega)]
        have hin : vp_in (nI k) 5 := vp_in_nI (by omega) (by omega)
        simp (config := {decide := true}) only [shT_225 h, shR_225_67 h, shT_272 h, shN_272 h, hin, ix_nI (show k < 2 ^ 31 by omega), hg k (by omega), ne_eq, not_false_eq_true, and_self, and_true, true_and, and_false, false_and, true_or, or_true, false_or, or_false, not_true_eq_false, if_false, if_true]
  · have e6 : ¬ nI (10 + s) = (6 : Int32) := fun z => by have := (nI_eq (a := 10 + s) (b := 6) (by omega) (by omega)).mp z; omega
    have e5 : ¬ nI (10 + s) = (5 : Int32) := fun z => by have := (nI_eq (a := 10 + s) (b := 5) (by omega) (by omega)).mp z; omega
    have l5 : ¬ nI (10 + s) < (5 : Int32) := nI_nlt (a := 10 + s) (b := 5) (by omega) (by omega)
    have g5 : (5 : Int32) ≤ nI (10 + s) := nI_le (a := 5) (b := 10 + s) (by omega) (by omega)
    have es : nI (10 + s) - (10 : Int32) = nI s := by
      rw [show (10 : Int32) = nI 10 from rfl, pk_sub (by omega), Nat.add_sub_cancel_left]
    have hin : vp_in (nI s) 12 := vp_in_nI (by omega) (by omega)
    have g3 := (MM_at hE hs).2.2.1
    rw [if_pos g5, if_neg e5, if_neg e6, if_neg e6, if_neg e5, if_neg l5, es, ix_nI (show s < 2 ^ 31 by omega), shR_225_10 h, g3]
    simp (config := {decide := true}) only [shT_225 h, shT_229 h, shN_229 h, hin, ne_eq, not_false_eq_true, and_self, and_true, true_and, and_false, false_and, true_or, or_true, false_or, or_false, not_true_eq_false, if_false, if_true]
theorem p_run : Pr_run Rel := fun x y => PrI_ex (fun m hR => by
  have h := hR.1
  obtain ⟨a, n, c, C, D, nl, T, V, ⟨hM, hW, hE⟩, l1, l2, l3, l4, l5, l6⟩ := Rel_all hR
  have hn := hW.1.1.1
  have hc := hW.1.1.2
  have h6 : gI m 2 6 = nI n := (hM 0 6 (by omega) (by omega)).trans hW.1.2.1
  have hasC : ∀ o, F_X11_hasStack 1 (y - 10) m o = (bI (0 ≤ y - 10 ∧ y - 10 ≤ nI n - 1), m, o) := fun o => by rw [e_hasStack _ h, h6]
  have hasEq : ¬ y < 10 → ((0 ≤ y - 10 ∧ y - 10 ≤ nI n - 1) ↔ ∃ s, s < n ∧ y = nI (10 + s)) := fun hy => by
    rw [rng_n (show n < 2 ^ 30 by omega)]
    have hy0 : ¬ y < 0 := fun z => hy (fa_trans z (by decide))
    obtain ⟨k, hk, rfl⟩ := nI_of hy0
    have hk10 : 10 ≤ k := (nI_leI (a := 10) (b := k) (by omega) hk).mp (fa_of_nlt hy)
    have es : nI k - (10 : Int32) = nI (k - 10) := by rw [show (10 : Int32) = nI 10 from rfl, pk_sub hk10]
    rw [es]
    constructor
    · rintro ⟨s, hs, e⟩
      have := (nI_eq (by omega) (by omega)).mp e
      exact ⟨s, hs, by rw [show 10 + s = k by omega]⟩
    · rintro ⟨s, hs, e⟩
      have := (nI_eq hk (by omega)).mp e
      exact ⟨s, hs, by rw [show k - 10 = s by omega]⟩
  have hl6 := e_lies y 0 6
  rw [show Int32.toInt64 0 = 0 by decide, show Int32.toInt64 6 = 6 by decide] at hl6
  have hlN : ∀ m o, F_X12_lies (Int32.toInt64 y) 10 (Int32.toInt64 ((9 : Int32) + nI n)) m o = (bI (10 ≤ y ∧ y ≤ nI (9 + n)), m, o) := fun m o => by
    have := e_lies y 10 (nI (9 + n)) m o
    rw [show Int32.toInt64 10 = 10 by decide] at this
    rw [show (9 : Int32) = nI 9 from rfl, nI_add]
    exact this
  have hNeq : (10 ≤ y ∧ y ≤ nI (9 + n)) ↔ ∃ s, s < n ∧ y = nI (10 + s) := by
    constructor
    · rintro ⟨z1, z2⟩
      obtain ⟨k, hk, rfl⟩ := nI_of (x := y) (fun z => (fa_of_lt (fa_trans z (show (0 : Int32) ≤ 10 by decide))).2.1 z1)
      have k1 := (nI_leI (a := 10) (b := k) (by omega) hk).mp z1
      have k2 := (nI_leI hk (by omega)).mp z2
      exact ⟨k - 10, by omega, by rw [show 10 + (k - 10) = k by omega]⟩
    · rintro ⟨s, hs, rfl⟩
      exact ⟨nI_le (a := 10) (b := 10 + s) (by omega) (by omega), nI_le (by omega) (by omega)⟩
  by_cases qa : 1 ≤ x ∧ x ≤ 20
  · have ra : (1 ≤ x ∧ x ≤ 20) = True := eq_true qa
    by_cases qb : okR y n
    · obtain ⟨nd, hnd, rfl⟩ := rng_in (N := 20) (by decide) ⟨Int32.le_trans (by decide) qa.1, qa.2⟩
      have hw : isW (gR m 1 9) := l1.1
      -- the class
      obtain ⟨m1, a1, a2, a3⟩ := e_forget h (p := 128) (.inr (.inr rfl))
      have h1 := Fr_Sh a2 h
      have hM1 : Md m1 2 a := Md_frame hM (fun q i hq => Fr_at a2 (by unfold inM at hq; omega))
      obtain ⟨m2, b, b1, b2, b3, b4⟩ := e_startRun h1 hM1 hW
      have h2 := Fr_Sh b2 h1
      have hWb := ag_Wf b4 (WfA_noK hW)
      have F2 : Fr (dyC 128 (gR m 1 9)) m m2 := Fr_trans (Fr_mono a2 (fun q i hq => .inr ⟨by omega, by omega⟩)) (Fr_mono b2 (fun q i hq => by unfold inM at hq; exact .inr ⟨by omega, by omega⟩))
      have hA2 : lawAt m2 (gR m 1 9) C nl := lawAt_Fr l1 F2 (fun q i hq => by unfold dyC lwP; rcases hw with z | z <;> omega)
      have K2 : KC (Ev C nl T V) (C 8) m2 128 b n c := KC_Fr (a3 _ _ _ _ _ hn hc) b2 (fun i => by unfold inM; omega)
      obtain ⟨hWn, -⟩ := WfA_dyI (Ev C nl T V) (Gv_nI C nl T V) nd (b, 0) hWb
      have r2 : gR m2 1 9 = gR m 1 9 := Fr_R F2 1 9
      obtain ⟨m3, c1, c2, c3⟩ := l_runC l3 l5 l6 hnd y (if y < 10 then 0 else 1) (fun m o => f_X11_run_70b (f_X11_run_70 0) 1 (nI nd) y (if y < 10 then 0 else 1) (nI nd) m o) (fun m N o => by unfold f_X11_run_70b; rw [if_pos (Int32.le_refl _), if_pos (Int32.le_refl _)]) nd 1000 0 (b, 0) m2 h2 r2 hA2 b3 hWb (sta_refl b n c) K2 (by omega) (by omega)
      have h3 := Fr_Sh c3 h2
      have F3 : Fr (dyC 128 (gR m 1 9)) m m3 := Fr_trans F2 c3
      have hM3 : Md m3 2 a := Md_frame hM (fun q i hq => Fr_at F3 (by unfold dyC lwP; unfold inM at hq; rcases hw with z | z <;> omega))
      have e3 := fun N o => e_runEnd h3 hM3 c2 hW hWn y (nI nd) qb (f_X11_run_70 N) o
      rw [nI_0] at c1
      have hend : ∀ o, f_X11_run_70 1000 1 (nI nd) y (if y < 10 then 0 else 1) 0 m2 o = (rnA y a (dyI (Ev C nl T V) (Gv C nl T V) n c nd (b, 0)).1 n, m3, o) := fun o => by
        rw [c1 o]
        exact e3 0 o
      -- the other side
      have hE3 : MM m3 a n c d0 := MM_frame hE (fun q i hq => Fr_at F3 (by unfold dyC lwP; rcases hw with z | z <;> omega))
      obtain ⟨m4, s1, s2, s3, s4⟩ := e_setsAside h3 (k := 0) (by omega)
      obtain ⟨s5, s6⟩ := s3 a n c d0 hW hE3
      have h4 := Fr_Sh s2 h3
      have lM3 : lawM m3 D nl := lawM_Fr l2 F3 (fun q i hq => by unfold dyC lwP; rcases hw with z | z <;> omega)
      have lM4 : lawM m4 D nl := lawM_Fr lM3 s2 (fun q i hq => by unfold sideP; omega)
      have hE4 : MM m4 b n c (a 3) := ag_MM b4 hc (MM_noK (MM_frame hE3 (fun q i hq => Fr_at s2 (by unfold sideP; omega))))
      have hd4 : ∀ j, j < 5 → gI m4 269 j = a 3 j := fun j hj => by
        have e1 := s4 j hj
        rw [Nat.mul_zero, Nat.zero_add] at e1
        rw [e1]
        have e2 := hE3.1.2.2.1 j hj
        rw [Nat.mul_zero, Nat.zero_add, d0, Int32.add_zero] at e2
        exact e2
      obtain ⟨m5, t1, t2, t3, t4, t5⟩ := e_runs (V := V) l4 hnd h4 lM4 hE4 hWb hd4
      have h5 := Fr_Sh t5 h4
      have e1 := dyB_1 (Ev C nl T V) (Gv C nl T V) n c nd b 0 0
      rw [e1] at t2 t4
      have hst := stN_dyB (Ev C nl T V) (Gv_nI C nl T V) (n := n) (c := c) nd (b, 0) hWb
      rw [e1, Int32.add_zero] at hst
      have hab : stN b n = stN a n := sumI_congr n 0 0 (fun t _ ht => by
        rw [(b4.2.1 t (by omega)).1 7 (by omega), noK_ne a (by omega)])
      have h50 : gI m5 225 50 = stN a n - stN (dyI (Ev C nl T V) (Gv C nl T V) n c nd (b, 0)).1 n := by
        rw [t3, ← hab, ← hst, Int32.add_comm, Int32.add_sub_cancel]
      have e5 := fun o => e_runEndM (a := a) h5 t2 hWn y qb h50 t4 o
      obtain ⟨m6, u1, u2, u3⟩ := e_putsBack h5 (k := 0) (by omega)
      have kk : ∀ q i, 257 ≤ q → q ≤ 271 → gI m5 q i = gI m4 q i := fun q i z1 z2 => Fr_at t5 (by unfold rnM dyM lmP; omega)
      have er : rws m5 257 = rws m4 257 ∨ True := .inr trivial
      have E6 : MM m6 a n c d0 := by
        refine u3 a n c d0 hW ?_ ?_
        · obtain ⟨q1, q2, q3, q4⟩ := s5
          have ek : ∀ f, f ≤ 13 → ∀ i, rws m5 257 f i = rws m4 257 f i := fun f hf i => kk _ _ (by omega) (by omega)
          refine ⟨fun s hs => ?_, fun i hi => ?_, fun j hj => ?_, fun s hs i hi => ?_⟩
          · have := q1 s hs
            unfold eS at this ⊢
            rw [ek 0 (by omega), ek 1 (by omega), ek 2 (by omega), ek 3 (by omega), ek 4 (by omega), ek 5 (by omega), ek 6 (by omega)]
            exact this
          · obtain ⟨v1, v2, v3, v4, v5⟩ := q2 i hi
            refine ⟨?_, ?_, ?_, ?_, fun j hj => ?_⟩
            · rw [ek 7 (by omega)]; exact v1
            · rw [ek 8 (by omega)]; exact v2
            · rw [ek 9 (by omega)]; exact v3
            · rw [ek 10 (by omega)]; exact v4
            · rw [ek 11 (by omega)]; exact v5 j hj
          · rw [ek 12 (by omega)]; exact q3 j hj
          · rw [ek 13 (by omega)]; exact q4 s hs i hi
        · refine eN_cp (fun j hj => ?_) s6
          exact kk 271 _ (by omega) (by omega)
      have h6' := Fr_Sh u2 h5
      have F6 : Fr (fun q i => sideP 0 q i ∨ rnM q i ∨ nowP q i) m3 m6 := Fr_trans (Fr_trans (Fr_mono s2 (fun q i hq => .inl hq)) (Fr_mono t5 (fun q i hq => .inr (.inl hq)))) (Fr_mono u2 (fun q i hq => .inr (.inr hq)))
      refine ⟨rnA y a (dyI (Ev C nl T V) (Gv C nl T V) n c nd (b, 0)).1 n, m3, m6, fun o => ?_, h3, fun o => ?_, Rel_ghost hR h6' ⟨(Fr_R F6 1 9).trans (Fr_R F3 1 9), (Fr_R F6 1 10).trans (Fr_R F3 1 10)⟩ (fun q i hq => ?_) (Md_frame hM3 (fun q i hq => Fr_at F6 (by unfold sideP rnM dyM lmP nowP; unfold inM at hq; omega))) hW E6⟩
      · have tail : ∀ o, f_X11_run_49 1 (nI nd) y (if y < 10 then 0 else 1) m o = (rnA y a (dyI (Ev C nl T V) (Gv C nl T V) n c nd (b, 0)).1 n, m3, o) := fun o => by
          simp (config := {decide := true}) only [f_X11_run_49, f_X11_run_56, f_X11_run_67, bnd, shT_1 h, shR_1_2 h, shT_128 h, shT_1 h1, shR_1_0 h1, shR_1_2 h1, shT_2 h1, shT_128 h1, a1, b1, hend, ne_eq, not_false_eq_true, and_self, and_true, true_and, and_false, false_and, true_or, or_true, false_or, or_false, not_true_eq_false, if_false, if_true]
        by_cases z : y < 10
        · rw [if_pos z] at tail
          have q6 : 0 ≤ y ∧ y ≤ 6 := qb.resolve_right (fun ⟨s, hs, e⟩ => by rw [e] at z; exact nI_nlt (a := 10 + s) (b := 10) (by omega) (by omega) z)
          simp (config := {decide := true}) only [F_X11_run, f_X11_run_0, f_X11_run_21, f_X11_run_22, f_X11_run_30, f_X11_run_40, bnd, z, e_isWithin, ra, eq_true q6, bI_0, tail, ne_eq, not_false_eq_true, and_self, and_true, true_and, and_false, false_and, true_or, or_true, false_or, or_false, not_true_eq_false, if_false, if_true]
        · rw [if_neg z] at tail
          have hs : ∃ s, s < n ∧ y = nI (10 + s) := qb.resolve_left (fun q => z (fa_trans (show y < 7 from by
            obtain ⟨k, hk, rfl⟩ := rng_in (N := 6) (by decide) q
            exact nI_lt (a := k) (b := 7) (by omega) (by omega)) (by decide)))
          have hh := eq_true ((hasEq z).mpr hs)
          simp (config := {decide := true}) only [F_X11_run, f_X11_run_0, f_X11_run_14, f_X11_run_22, f_X11_run_30, f_X11_run_40, bnd, z, hasC, hh, e_isWithin, ra, bI_0, shT_1 h, tail, ite_self, ne_eq, not_false_eq_true, and_self, and_true, true_and, and_false, false_and, true_or, or_true, false_or, or_false, not_true_eq_false, if_false, if_true]
      · have g2 : gI m3 225 2 = nI n := hE3.2.1.trans hW.1.2.1
        have z0 : nI 0 = (0 : Int32) := rfl
        rw [z0] at s1 u1
        have tail : ∀ o, f_X12_run_40 225 (nI nd) y m3 o = (rnA y a (dyI (Ev C nl T V) (Gv C nl T V) n c nd (b, 0)).1 n, m6, o) := fun o => by
          simp (config := {decide := true}) only [f_X12_run_40, f_X12_run_45, bnd, shT_225 h3, shT_225 h4, s1, t1, e5, ne_eq, not_false_eq_true, and_self, and_true, true_and, and_false, false_and, true_or, or_true, false_or, or_false, not_true_eq_false, if_false, if_true]
          simp (config := {decide := true}) only [f_X12_run_98, f_X12_run_104, bnd, shT_225 h5, u1, ne_eq, not_false_eq_true, and_self, and_true, true_and, and_false, false_and, true_or, or_true, false_or, or_false, not_true_eq_false, if_false, if_true]
        rcases qb with q6 | hs
        · simp (config := {decide := true}) only [F_X12_run, f_X12_run_0, f_X12_run_4, f_X12_run_16, bnd, e_areDaysM, ra, hl6, eq_true q6, bI_0, shT_225 h3, tail, ne_eq, not_false_eq_true, and_self, and_true, true_and, and_false, false_and, true_or, or_true, false_or, or_false, not_true_eq_false, if_false, if_true]
        · have q10 := eq_true (hNeq.mpr hs)
          have n6 : ¬ (0 ≤ y ∧ y ≤ 6) := fun q => by
            obtain ⟨s, hs', e⟩ := hs
            rw [e] at q
            exact nI_ge (a := 6) (b := 10 + s) (by omega) (by omega) q.2
          simp (config := {decide := true}) only [F_X12_run, f_X12_run_0, f_X12_run_4, f_X12_run_16, f_X12_run_35, bnd, e_areDaysM, ra, hl6, eq_false n6, g2, hlN, q10, bI_0, shT_225 h3, tail, ne_eq, not_false_eq_true, and_self, and_true, true_and, and_false, false_and, true_or, or_true, false_or, or_false, not_true_eq_false, if_false, if_true]
      · have hns : ¬ sideP 0 q i := by
          rcases hq with hq | hq | hq
          · exact side_kept hq
          · unfold inTape at hq; unfold sideP; omega
          · unfold inLaw at hq; unfold sideP; omega
        have hnr : ¬ rnM q i ∧ ¬ nowP q i := by
          unfold rnM dyM lmP nowP
          unfold keepP inKept inTape inLaw at hq
          omega
        rw [Fr_at F6 (fun z => by rcases z with z | z | z; exact hns z; exact hnr.1 z; exact hnr.2 z)]
        refine Fr_at F3 ?_
        unfold dyC lwP
        unfold keepP inKept inTape inLaw at hq
        rcases hw with z | z <;> rw [z] <;> omega
    · have nb1 : ¬ (0 ≤ y ∧ y ≤ 6) := fun z => qb (.inl z)
      have nb2 : ¬ ∃ s, s < n ∧ y = nI (10 + s) := fun z => qb (.inr z)
      refine ⟨-1, m, m, fun o => ?_, h, fun o => ?_, hR⟩
      · by_cases z : y < 10
        · simp (config := {decide := true}) only [f_X11_run_47, f_X11_run_87, f_X11_run_134, f_X11_run_127, f_X11_run_160, f_X11_run_148, f_X11_run_67, f_X11_run_56, f_X11_run_49, f_X11_run_40, f_X11_run_30, f_X11_run_22, f_X11_run_21, f_X11_run_14, f_X11_run_0, F_X11_run, bnd, z, e_isWithin, ra, eq_false nb1, bI_0, ne_eq, not_false_eq_true, and_self, and_true, true_and, and_false, false_and, true_or, or_true, false_or, or_false, not_true_eq_false, if_false, if_true]
        · have hh := eq_false (fun w => nb2 ((hasEq z).mp w))
          simp (config := {decide := true}) only [f_X11_run_47, f_X11_run_87, f_X11_run_134, f_X11_run_127, f_X11_run_160, f_X11_run_148, f_X11_run_67, f_X11_run_56, f_X11_run_49, f_X11_run_40, f_X11_run_30, f_X11_run_22, f_X11_run_21, f_X11_run_14, f_X11_run_0, F_X11_run, bnd, z, hasC, hh, e_isWithin, ra, eq_false nb1, bI_0, shT_1 h, ne_eq, not_false_eq_true, and_self, and_true, true_and, and_false, false_and, true_or, or_true, false_or, or_false, not_true_eq_false, if_false, if_true]
      · have g2 : gI m 225 2 = nI n := hE.2.1.trans hW.1.2.1
        have hh := eq_false (fun w => nb2 (hNeq.mp w))
        simp (config := {decide := true}) only [f_X12_run_38, f_X12_run_104, f_X12_run_98, f_X12_run_73, f_X12_run_50, f_X12_run_45, f_X12_run_40, f_X12_run_35, f_X12_run_16, f_X12_run_4, f_X12_run_0, F_X12_run, bnd, e_areDaysM, ra, hl6, eq_false nb1, g2, hlN, hh, bI_0, shT_225 h, ne_eq, not_false_eq_true, and_self, and_true, true_and, and_false, false_and, true_or, or_true, false_or, or_false, not_true_eq_false, if_false, if_true]
  · have ra : (1 ≤ x ∧ x ≤ 20) = False := eq_false qa
    refine ⟨-1, m, m, fun o => ?_, h, fun o => ?_, hR⟩
    · by_cases z : y < 10
      · simp (config := {decide := true}) only [f_X11_run_47, f_X11_run_87, f_X11_run_134, f_X11_run_127, f_X11_run_160, f_X11_run_148, f_X11_run_67, f_X11_run_56, f_X11_run_49, f_X11_run_40, f_X11_run_30, f_X11_run_22, f_X11_run_21, f_X11_run_14, f_X11_run_0, F_X11_run, bnd, z, e_isWithin, ra, bI_0, ne_eq, not_false_eq_true, and_self, and_true, true_and, and_false, false_and, true_or, or_true, false_or, or_false, not_true_eq_false, if_false, if_true]
      · by_cases w : 0 ≤ y - 10 ∧ y - 10 ≤ nI n - 1
        · simp (config := {decide := true}) only [f_X11_run_47, f_X11_run_87, f_X11_run_134, f_X11_run_127, f_X11_run_160, f_X11_run_148, f_X11_run_67, f_X11_run_56, f_X11_run_49, f_X11_run_40, f_X11_run_30, f_X11_run_22, f_X11_run_21, f_X11_run_14, f_X11_run_0, F_X11_run, bnd, z, hasC, eq_true w, e_isWithin, ra, bI_0, shT_1 h, ne_eq, not_false_eq_true, and_self, and_true, true_and, and_false, false_and, true_or, or_true, false_or, or_false, not_true_eq_false, if_false, if_true]
        · simp (config := {decide := true}) only [f_X11_run_47, f_X11_run_87, f_X11_run_134, f_X11_run_127, f_X11_run_160, f_X11_run_148, f_X11_run_67, f_X11_run_56, f_X11_run_49, f_X11_run_40, f_X11_run_30, f_X11_run_22, f_X11_run_21, f_X11_run_14, f_X11_run_0, F_X11_run, bnd, z, hasC, eq_false w, e_isWithin, ra, bI_0, shT_1 h, ne_eq, not_false_eq_true, and_self, and_true, true_and, and_false, false_and, true_or, or_true, false_or, or_false, not_true_eq_false, if_false, if_true]
    · simp (config := {decide := true}) only [f_X12_run_38, f_X12_run_104, f_X12_run_98, f_X12_run_73, f_X12_run_50, f_X12_run_45, f_X12_run_40, f_X12_run_35, f_X12_run_16, f_X12_run_4, f_X12_run_0, F_X12_run, bnd, e_areDaysM, ra, bI_0, ne_eq, not_false_eq_true, and_self, and_true, true_and, and_false, false_and, true_or, or_true, false_or, or_false, not_true_eq_false, if_false, if_true])
