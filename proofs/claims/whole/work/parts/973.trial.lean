/-! ===== a run is tried: the start, who wins, how many burn ===== -/
/-- a meadow without its counts -/
def noK (a : Nat → Nat → Int32) : Nat → Nat → Int32 := fun j i => if j = 3 then 0 else a j i
theorem noK_ne (a : Nat → Nat → Int32) {j : Nat} (h : j ≠ 3) : noK a j = a j := funext (fun _ => if_neg h)
theorem WfA_noK {a : Nat → Nat → Int32} {n c : Nat} (hW : WfA a n c) : WfA (noK a) n c := by
  obtain ⟨w0, w7, w8, w9, w10⟩ := hW
  refine ⟨by rw [noK_ne a (by omega)]; exact w0, fun s hs => by rw [noK_ne a (by omega)]; exact w7 s hs, ?_, fun i hi => by rw [noK_ne a (by omega), noK_ne a (by omega)]; exact w9 i hi, fun s hs i h1 h2 => by rw [noK_ne a (by omega)]; exact w10 s hs i h1 h2⟩
  rw [hsum_congr (g := fun s => a (7 + 2 * s) 3) (fun s hs => by rw [noK_ne a (by omega)])]
  exact w8
theorem MM_noK {m : Mm} {a : Nat → Nat → Int32} {n c : Nat} (h : MM m a n c d0) : MM m (noK a) n c (a 3) := by
  obtain ⟨⟨h1, h2, h3, h4⟩, h5⟩ := h
  refine ⟨⟨fun s hs => by rw [noK_ne a (by omega)]; exact h1 s hs, fun i hi => by rw [noK_ne a (by omega), noK_ne a (by omega)]; exact h2 i hi, fun j hj => ?_, fun s hs i hi => by rw [noK_ne a (by omega)]; exact h4 s hs i hi⟩, by rw [noK_ne a (by omega)]; exact h5⟩
  have := h3 j hj
  rw [d0, Int32.add_zero] at this
  rw [this]
  show a 3 j = (if 3 = 3 then 0 else a 3 j) + a 3 j
  rw [if_pos rfl, Int32.zero_add]
theorem ag_MM {m : Mm} {a b : Nat → Nat → Int32} {n c : Nat} {d : Nat → Int32} (h : ag a b n c) (hc : c ≤ 16) (hE : MM m a n c d) : MM m b n c d := ⟨ag_Eq h hc hE.1, ag_N h hE.2⟩
theorem ag_sta {a b : Nat → Nat → Int32} {n c : Nat} (h : ag a b n c) : sta a b n c := ⟨fun s hs => ⟨(h.2.1 s hs).1 0 (by omega), (h.2.1 s hs).1 1 (by omega), (h.2.1 s hs).1 2 (by omega), (h.2.1 s hs).1 5 (by omega)⟩, fun e he => ⟨fun f hf => (h.2.2.1 e he).1 f (by omega), fun j hj => (h.2.2.1 e he).2 j hj⟩⟩
theorem sta_noK (a : Nat → Nat → Int32) (n c : Nat) : sta a (noK a) n c := ⟨fun s hs => by rw [noK_ne a (by omega)]; exact ⟨rfl, rfl, rfl, rfl⟩, fun e he => by rw [noK_ne a (by omega), noK_ne a (by omega)]; exact ⟨fun _ _ => rfl, fun _ _ => rfl⟩⟩
theorem l_startZ {m : Mm} (h : Sh m) : ∀ (k N i : Nat) (o : Prop), i + k = 5 → k < N → f_X5_startRun_7 N 128 (nI i) (fil m 131 0 i d0) o = ((), fil m 131 0 5 d0, o) := by
  intro k
  induction k with
  | zero =>
    intro N i o hi hN
    obtain ⟨N, rfl⟩ : ∃ N1, N = N1 + 1 := ⟨N - 1, by omega⟩
    show f_X5_startRun_7b (f_X5_startRun_7 N) 128 (nI i) _ o = _
    obtain rfl : i = 5 := by omega
    unfold f_X5_startRun_7b
    rw [if_pos (by decide)]
  | succ k ih =>
    intro N i o hi hN
    obtain ⟨N, rfl⟩ : ∃ N1, N = N1 + 1 := ⟨N - 1, by omega⟩
    have h' : Sh (fil m 131 0 i d0) := h
    have hin : vp_in (nI i) 5 := vp_in_nI (by omega) (by omega)
    have hs := fil_1 m 131 0 i d0
    rw [Nat.zero_add, show d0 i = 0 from rfl] at hs
    show f_X5_startRun_7b (f_X5_startRun_7 N) 128 (nI i) _ o = _
    unfold f_X5_startRun_7b f_X5_startRun_19
    rw [if_neg (show ¬ (5 : Int32) ≤ nI (i) from nI_ge (a := i) (b := 5) (by omega) (by omega))]
    simp (config := {decide := true}) only [shT_128 h', shR_128_2 h', shT_131 h', shN_131 h', hin, ix_nI (show i < 2 ^ 31 by omega), hs, nI_1, ne_eq, not_false_eq_true, and_self, and_true, true_and, and_false, false_and, true_or, or_true, false_or, or_false, not_true_eq_false, if_false, if_true]
    exact ih N (i + 1) o (by omega) (by omega)
theorem e_startRun {m : Mm} (h : Sh m) {a : Nat → Nat → Int32} {n c : Nat} (hM : Md m 2 a) (hW : WfA a n c) : ∃ m' b, (∀ o, F_X5_startRun 128 2 m o = ((), m', o)) ∧ Fr (fun q _ => inM 128 q) m m' ∧ Md m' 128 b ∧ ag (noK a) b n c := by
  obtain ⟨m1, b, a1, a2, a3, a4⟩ := e_copyFrom h (p := 128) (p' := 2) (.inr (.inr rfl)) (.inl rfl) (by omega) hM hW
  have h1 := Fr_Sh a2 h
  have hl := fun o => l_startZ h1 5 1000 0 o (by omega) (by omega)
  rw [fil_0, nI_0] at hl
  have hn := hW.1.1.1
  have hc := hW.1.1.2
  have e : ∀ j i, j < 63 → (j < 4 ∨ 6 < j) → j ≠ 3 → gI (fil m1 131 0 5 d0) (128 + j) i = b j i := fun j i h1 h2 h3 => by
    rw [gI_fil, if_neg (by omega)]
    exact a3 j i h1 h2
  refine ⟨fil m1 131 0 5 d0, fun j i => gI (fil m1 131 0 5 d0) (128 + j) i, fun o => ?_, Fr_trans a2 ⟨rfl, fun q i hq => ?_⟩, Md_vw _ _, fun i h1 h2 => ?_, fun s hs => ⟨fun f hf => ?_, fun i hi => ?_⟩, fun s hs => ⟨fun f hf => ?_, fun i hi => ?_⟩, fun k hk => ?_⟩
  · simp (config := {decide := true}) only [f_X5_startRun_19, f_X5_startRun_5, f_X5_startRun_0, F_X5_startRun, bnd, shT_128 h, shT_2 h, a1, shT_128 h1, hl, ne_eq, not_false_eq_true, and_self, and_true, true_and, and_false, false_and, true_or, or_true, false_or, or_false, not_true_eq_false, if_false, if_true]
  · rw [gI_fil, if_neg]
    rintro ⟨rfl, -⟩
    exact hq (by unfold inM; omega)
  · show gI (fil m1 131 0 5 d0) (128 + 0) i = _
    rw [e 0 i (by omega) (by omega) (by omega), noK_ne a (by omega)]
    exact a4.1 i h1 h2
  · show gI (fil m1 131 0 5 d0) (128 + (7 + 2 * s)) f = _
    rw [e _ f (by omega) (by omega) (by omega), noK_ne a (by omega)]
    exact (a4.2.1 s hs).1 f hf
  · show gI (fil m1 131 0 5 d0) (128 + (8 + 2 * s)) i = _
    rw [e _ i (by omega) (by omega) (by omega), noK_ne a (by omega)]
    exact (a4.2.1 s hs).2 i hi
  · show gI (fil m1 131 0 5 d0) (128 + (31 + 2 * s)) f = _
    rw [e _ f (by omega) (by omega) (by omega), noK_ne a (by omega)]
    exact (a4.2.2.1 s hs).1 f hf
  · show gI (fil m1 131 0 5 d0) (128 + (32 + 2 * s)) i = _
    rw [e _ i (by omega) (by omega) (by omega), noK_ne a (by omega)]
    exact (a4.2.2.1 s hs).2 i hi
  · show gI (fil m1 131 0 5 d0) (128 + 3) k = noK a 3 k
    rw [gI_fil, if_pos ⟨rfl, by omega, by omega⟩]
    exact (if_pos rfl).symm
/-! who wins -/
def isWin (f : Nat → Int32) (k : Nat) : Prop := ∀ j, j < 5 → j ≠ k → f j < f k
noncomputable def winF (f : Nat → Int32) : Int32 := @ite _ (∃ k, k < 5 ∧ isWin f k) (Classical.propDecidable _) (nI (Classical.epsilon (fun k => k < 5 ∧ isWin f k))) (-2)
theorem win_one {f : Nat → Int32} {k k' : Nat} (hk : k < 5) (hk' : k' < 5) (h : isWin f k) (h' : isWin f k') : k = k' := by
  by_cases q : k = k'
  · exact q
  · have h1 := h k' hk' (fun z => q z.symm)
    have h2 := h' k hk q
    exact absurd h2 (fa_of_lt h1).2.2.1
theorem winF_is {f : Nat → Int32} {k : Nat} (hk : k < 5) (h : isWin f k) : winF f = nI k := by
  have hx : ∃ k, k < 5 ∧ isWin f k := ⟨k, hk, h⟩
  unfold winF
  rw [if_pos hx]
  have := Classical.epsilon_spec hx
  rw [win_one this.1 hk this.2 h]
theorem winF_no {f : Nat → Int32} (h : ¬ ∃ k, k < 5 ∧ isWin f k) : winF f = -2 := if_neg h
theorem l_winner {m : Mm} (h : Sh m) {p : Nat} (hp : isMd p) : ∀ (k N i b : Nat) (al : Int32) (o : Prop), i + k = 5 → k < N → b < i → (∀ j, j < i → gI m (p + 3) j ≤ gI m (p + 3) b) → (al = 0 ∨ al = 1) → (al = 1 ↔ ∀ j, j < i → j ≠ b → gI m (p + 3) j < gI m (p + 3) b) → f_X5_winner_6 N p (nI b) al (nI i) m o = (winF (gI m (p + 3)), m, o) := by
  obtain ⟨t1, -, -, -, -, -, -, t8, t9, t10⟩ := md_top h hp
  have n3 : ¬ p + 3 = 0 := by omega
  intro k
  induction k with
  | zero =>
    intro N i b al o hi hN hb hle hal hun
    obtain ⟨N, rfl⟩ : ∃ N1, N = N1 + 1 := ⟨N - 1, by omega⟩
    obtain rfl : i = 5 := by omega
    show f_X5_winner_6b (f_X5_winner_6 N) p (nI b) al (nI 5) m o = _
    unfold f_X5_winner_6b
    rw [if_pos (by decide)]
    by_cases q : al = 0
    · rw [if_pos q]
      unfold f_X5_winner_66
      rw [winF_no]
      rintro ⟨x, hx, hw⟩
      have hbx : b = x := by
        by_cases z : b = x
        · exact z
        · exact absurd (hw b hb z) (fun y => (fa_of_lt y).2.1 (hle x hx))
      subst hbx
      have := hun.mpr hw
      rw [q] at this
      exact absurd this (by decide)
    · rw [if_neg q]
      unfold f_X5_winner_66
      rw [winF_is hb (hun.mp (hal.resolve_left q))]
  | succ k ih =>
    intro N i b al o hi hN hb hle hal hun
    obtain ⟨N, rfl⟩ : ∃ N1, N = N1 + 1 := ⟨N - 1, by omega⟩
    have hin1 : vp_in (nI i) 5 := vp_in_nI (by omega) (by omega)
    have hin2 : vp_in (nI b) 5 := vp_in_nI (by omega) (by omega)
    have step : ∀ (b' : Nat) (al' : Int32) o, b' < i + 1 → (∀ j, j < i + 1 → gI m (p + 3) j ≤ gI m (p + 3) b') → (al' = 0 ∨ al' = 1) → (al' = 1 ↔ ∀ j, j < i + 1 → j ≠ b' → gI m (p + 3) j < gI m (p + 3) b') → f_X5_winner_6 N p (nI b') al' (nI (i + 1)) m o = (winF (gI m (p + 3)), m, o) := fun b' al' o h1 h2 h3 h4 => ih N (i + 1) b' al' o (by omega) (by omega) h1 h2 h3 h4
    show f_X5_winner_6b (f_X5_winner_6 N) p (nI b) al (nI i) m o = _
    unfold f_X5_winner_6b f_X5_winner_50
    rw [if_neg (show ¬ (5 : Int32) ≤ nI (i) from nI_ge (a := i) (b := 5) (by omega) (by omega))]
    simp (config := {decide := true}) only [t1, t8, t9, t10, n3, hin1, hin2, ix_nI (show i < 2 ^ 31 by omega), ix_nI (show b < 2 ^ 31 by omega), nI_1, ne_eq, not_false_eq_true, and_self, and_true, true_and, and_false, false_and, true_or, or_true, false_or, or_false, not_true_eq_false, if_false, if_true]
    by_cases q1 : gI m (p + 3) i ≤ gI m (p + 3) b
    · rw [if_pos q1]
      have hle' : ∀ j, j < i + 1 → gI m (p + 3) j ≤ gI m (p + 3) b := fun j hj => by
        by_cases z : j = i
        · rw [z]; exact q1
        · exact hle j (by omega)
      by_cases q2 : gI m (p + 3) i = gI m (p + 3) b
      · rw [if_pos q2]
        refine step b 0 o (by omega) hle' (.inl rfl) ⟨fun z => absurd z (by decide), fun z => ?_⟩
        have := z i (by omega) (by omega)
        rw [q2] at this
        exact absurd rfl (fa_of_lt this).2.2.2.1
      · rw [if_neg q2]
        refine step b al o (by omega) hle' hal (hun.trans ⟨fun z j hj hne => ?_, fun z j hj hne => z j (by omega) hne⟩)
        by_cases y : j = i
        · rw [y]; exact fa_le_ne q1 q2
        · exact z j (by omega) hne
    · rw [if_neg q1]
      have hlt : gI m (p + 3) b < gI m (p + 3) i := fa_of_nle q1
      refine step i 1 o (by omega) (fun j hj => ?_) (.inr rfl) ⟨fun _ j hj hne => ?_, fun _ => rfl⟩
      · by_cases z : j = i
        · rw [z]; exact Int32.le_refl _
        · exact Int32.le_trans (hle j (by omega)) (fa_of_lt hlt).1
      · have := hle j (by omega)
        rcases fa_three (gI m (p + 3) j) (gI m (p + 3) b) with z | z | z
        · exact fa_trans z (fa_of_lt hlt).1
        · rw [z]; exact hlt
        · exact absurd this (fa_of_lt z).2.1
theorem e_winner {m : Mm} (h : Sh m) {p : Nat} (hp : isMd p) (o : Prop) : F_X5_winner p m o = (winF (gI m (p + 3)), m, o) := l_winner h hp 4 1000 1 0 1 o (by omega) (by omega) (by omega) (fun j hj => by rw [show j = 0 by omega]; exact Int32.le_refl _) (.inr rfl) ⟨fun _ j hj hne => by omega, fun _ => rfl⟩
theorem l_winsM {m : Mm} (h : Sh m) {b : Nat} (hb : b < 5) : ∀ (k N i : Nat) (o : Prop), i + k = 5 → k < N → (∀ j, j < i → j ≠ b → gI m 272 j < gI m 272 b) → f_X12_wins_2 N 225 (nI b) (nI i) m o = (@ite _ (isWin (gI m 272) b) (Classical.propDecidable _) 1 0, m, o) := by
  have hin2 : vp_in (nI b) 5 := vp_in_nI (by omega) (by omega)
  intro k
  induction k with
  | zero =>
    intro N i o hi hN hw
    obtain ⟨N, rfl⟩ : ∃ N1, N = N1 + 1 := ⟨N - 1, by omega⟩
    obtain rfl : i = 5 := by omega
    show f_X12_wins_2b (f_X12_wins_2 N) 225 (nI b) (nI 5) m o = _
    unfold f_X12_wins_2b
    rw [if_pos (by decide), if_pos (show isWin (gI m 272) b from hw)]
  | succ k ih =>
    intro N i o hi hN hw
    obtain ⟨N, rfl⟩ : ∃ N1, N = N1 + 1 := ⟨N - 1, by omega⟩
    have hin1 : vp_in (nI i) 5 := vp_in_nI (by omega) (by omega)
    have hib : (nI i = nI b) = (i = b) := propext (nI_eq (by omega) (by omega))
    show f_X12_wins_2b (f_X12_wins_2 N) 225 (nI b) (nI i) m o = _
    unfold f_X12_wins_2b f_X12_wins_29
    rw [if_neg (show ¬ (5 : Int32) ≤ nI (i) from nI_ge (a := i) (b := 5) (by omega) (by omega))]
    simp (config := {decide := true}) only [shT_225 h, shR_225_67 h, shT_272 h, shN_272 h, hin1, hin2, hib, ix_nI (show i < 2 ^ 31 by omega), ix_nI (show b < 2 ^ 31 by omega), nI_1, ne_eq, not_false_eq_true, and_self, and_true, true_and, and_false, false_and, true_or, or_true, false_or, or_false, not_true_eq_false, if_false, if_true]
    by_cases q1 : i = b
    · rw [if_pos q1]
      exact ih N (i + 1) o (by omega) (by omega) (fun j hj hne => hw j (by omega) hne)
    · rw [if_neg q1]
      by_cases q2 : gI m 272 i < gI m 272 b
      · rw [if_pos q2]
        refine ih N (i + 1) o (by omega) (by omega) (fun j hj hne => ?_)
        by_cases z : j = i
        · rw [z]; exact q2
        · exact hw j (by omega) hne
      · rw [if_neg q2, if_neg (fun z => q2 (z i (by omega) q1))]
theorem e_winsM {m : Mm} (h : Sh m) {b : Nat} (hb : b < 5) (o : Prop) : F_X12_wins 225 (nI b) m o = (@ite _ (isWin (gI m 272) b) (Classical.propDecidable _) 1 0, m, o) := l_winsM h hb 5 1000 0 o (by omega) (by omega) (fun j hj => by omega)
theorem l_winnerM {m : Mm} (h : Sh m) : ∀ (k N i : Nat) (o : Prop), i + k = 5 → k < N → (∀ j, j < i → ¬ isWin (gI m 272) j) → f_X12_winner_2 N 225 (nI i) m o = (winF (gI m 272), m, o) := by
  intro k
  induction k with
  | zero =>
    intro N i o hi hN hno
    obtain ⟨N, rfl⟩ : ∃ N1, N = N1 + 1 := ⟨N - 1, by omega⟩
    obtain rfl : i = 5 := by omega
    show f_X12_winner_2b (f_X12_winner_2 N) 225 (nI 5) m o = _
    unfold f_X12_winner_2b
    rw [if_pos (by decide), winF_no (fun ⟨x, hx, hw⟩ => hno x hx hw)]
  | succ k ih =>
    intro N i o hi hN hno
    obtain ⟨N, rfl⟩ : ∃ N1, N = N1 + 1 := ⟨N - 1, by omega⟩
    show f_X12_winner_2b (f_X12_winner_2 N) 225 (nI i) m o = _
    unfold f_X12_winner_2b
    rw [if_neg (show ¬ (5 : Int32) ≤ nI (i) from nI_ge (a := i) (b := 5) (by omega) (by omega))]
    simp (config := {decide := true}) only [f_X12_winner_12, bnd, shT_225 h, e_winsM h (show i < 5 by omega), nI_1, ne_eq, not_false_eq_true, and_self, and_true, true_and, and_false, false_and, true_or, or_true, false_or, or_false, not_true_eq_false, if_false, if_true]
    by_cases q : isWin (gI m 272) i
    · rw [if_pos q, if_neg (by decide), winF_is (by omega) q]
    · rw [if_neg q, if_pos rfl]
      refine ih N (i + 1) o (by omega) (by omega) (fun j hj => ?_)
      by_cases z : j = i
      · rw [z]; exact q
      · exact hno j (by omega)
theorem e_winnerM {m : Mm} (h : Sh m) (o : Prop) : F_X12_winner 225 m o = (winF (gI m 272), m, o) := l_winnerM h 5 1000 0 o (by omega) (by omega) (fun j hj => by omega)
theorem isWin_congr {f g : Nat → Int32} (h : ∀ j, j < 5 → f j = g j) {k : Nat} (hk : k < 5) : isWin f k ↔ isWin g k := ⟨fun z j hj hne => by rw [← h j hj, ← h k hk]; exact z j hj hne, fun z j hj hne => by rw [h j hj, h k hk]; exact z j hj hne⟩
theorem winF_congr {f g : Nat → Int32} (h : ∀ j, j < 5 → f j = g j) : winF f = winF g := by
  by_cases q : ∃ k, k < 5 ∧ isWin f k
  · obtain ⟨k, hk, hw⟩ := q
    rw [winF_is hk hw, winF_is hk ((isWin_congr h hk).mp hw)]
  · rw [winF_no q, winF_no (fun ⟨k, hk, hw⟩ => q ⟨k, hk, (isWin_congr h hk).mpr hw⟩)]
/-! how many stand, and burn -/
def stN (a : Nat → Nat → Int32) (n : Nat) : Int32 := sumI (fun t => a (7 + 2 * t) 7) 0 0 n
theorem sumI_add (g : Nat → Int32) : ∀ (k i : Nat) (x y : Int32), sumI g (x + y) i k = x + sumI g y i k
  | 0, _, _, _ => rfl
  | k + 1, i, x, y => by
    unfold sumI
    rw [Int32.add_assoc, sumI_add g k (i + 1)]
theorem sumI_drop {f g : Nat → Int32} {s : Nat} (hs : ¬ f s = 0) (hg : g s = 0) (hne : ∀ t, t ≠ s → g t = f t) : ∀ (k i : Nat) (x : Int32), i ≤ s → s < i + k → sumI f x i k = sumI g x i k + 1
  | 0, i, x, h1, h2 => by omega
  | k + 1, i, x, h1, h2 => by
    unfold sumI
    by_cases q : i = s
    · subst q
      rw [if_neg hs, if_pos hg, sumI_congr (g' := g) k (i + 1) _ (fun t h1 h2 => (hne t (by omega)).symm), Int32.add_zero, Int32.add_comm x 1, sumI_add, Int32.add_comm]
    · rw [hne i q]
      exact sumI_drop hs hg hne k (i + 1) _ (by omega) (by omega)
theorem stN_dC (E : (Nat → Int32) → Int32) (n : Nat) {c : Nat} : ∀ (k e : Nat) (z : (Nat → Nat → Int32) × Int32 × (Nat → Int32)), WfA z.1 n c → e + k ≤ c → stN (dC E n z e k).1 n = stN z.1 n
  | 0, _, _, _, _ => rfl
  | k + 1, e, z, hW, he => by
    have hn := hW.1.1.1
    have hc := hW.1.1.2
    rw [dC, stN_dC E n k (e + 1) _ (WfA_dC1 E hW (by omega)).1 (by omega)]
    unfold dC1 stN
    by_cases q : chF E z.1 e (-1) 0 0 n = -1
    · rw [if_pos q]
    · rw [if_neg q]
      refine sumI_congr n 0 0 (fun t _ ht => ?_)
      exact eatG_ne _ _ _ (by omega) (by omega) (by omega) (by omega)
theorem stN_dS {G : (Nat → Int32) → Int32} (hG : ∀ l, ∃ v, v ≤ 99 ∧ G l = nI v) {n c : Nat} : ∀ (k s : Nat) (z : (Nat → Nat → Int32) × Int32), WfA z.1 n c → s + k ≤ n → stN (dS G z s k).1 n + (dS G z s k).2 = stN z.1 n + z.2
  | 0, _, _, _, _ => rfl
  | k + 1, s, z, hW, hs => by
    have hn := hW.1.1.1
    rw [dS, stN_dS hG k (s + 1) _ (WfA_dS1 hG hW (by omega)).1 (by omega)]
    unfold dS1
    by_cases q : z.1 (7 + 2 * s) 7 = 0
    · rw [if_pos q]
    · rw [if_neg q]
      unfold heatG
      by_cases q2 : 500 ≤ z.1 (7 + 2 * s) 6 + G (letG z.1 s)
      · simp only [if_pos q2]
        unfold stN
        rw [sumI_drop (f := fun t => z.1 (7 + 2 * t) 7) (g := fun t => up (up (up z.1 (7 + 2 * s) 6 (z.1 (7 + 2 * s) 6 + G (letG z.1 s))) (7 + 2 * s) 7 0) (7 + 2 * s) 3 0 (7 + 2 * t) 7) (s := s) q (by show up _ _ _ _ _ _ = _; rw [up_ne _ _ (by omega), up_same]) (fun t ht => by show up _ _ _ _ _ _ = _; rw [up_ne _ _ (by omega), up_ne _ _ (by omega), up_ne _ _ (by omega)]) n 0 0 (by omega) (by omega)]
        rw [Int32.add_assoc, Int32.add_comm 1 z.2]
      · simp only [if_neg q2]
        unfold stN
        rw [sumI_congr (g' := fun t => z.1 (7 + 2 * t) 7) n 0 0 (fun t _ ht => up_ne _ _ (by omega))]
theorem stN_day (E : (Nat → Int32) → Int32) {G : (Nat → Int32) → Int32} (hG : ∀ l, ∃ v, v ≤ 99 ∧ G l = nI v) {a : Nat → Nat → Int32} {n c : Nat} (hW : WfA a n c) : stN (dayA E G n c a) n + dayB E G n c a = stN a n := by
  have h1 := stN_dC E n c 0 (a, 0, d0) hW (by omega)
  have h2 := stN_dS hG n 0 ((dC E n (a, 0, d0) 0 c).1, 0) (WfA_dC E c 0 (a, 0, d0) hW (by omega)).1 (by omega)
  have h3 : stN (dayA E G n c a) n = stN (dS G ((dC E n (a, 0, d0) 0 c).1, 0) 0 n).1 n := sumI_congr n 0 0 (fun t _ ht => up_ne _ _ (by omega))
  rw [h3]
  show stN (dS G ((dC E n (a, 0, d0) 0 c).1, 0) 0 n).1 n + (dS G ((dC E n (a, 0, d0) 0 c).1, 0) 0 n).2 = _
  rw [h2, h1, Int32.add_zero]
/-- days one after another: meadow, how many burn -/
def dyB (E G : (Nat → Int32) → Int32) (n c : Nat) : Nat → (Nat → Nat → Int32) × Int32 → (Nat → Nat → Int32) × Int32
  | 0, z => z
  | k + 1, z => dyB E G n c k (dayA E G n c z.1, z.2 + dayB E G n c z.1)
theorem dyB_1 (E G : (Nat → Int32) → Int32) (n c : Nat) : ∀ (k : Nat) (a : Nat → Nat → Int32) (x y : Int32), (dyB E G n c k (a, x)).1 = (dyI E G n c k (a, y)).1
  | 0, _, _, _ => rfl
  | k + 1, a, x, y => dyB_1 E G n c k _ _ _
theorem stN_dyB (E : (Nat → Int32) → Int32) {G : (Nat → Int32) → Int32} (hG : ∀ l, ∃ v, v ≤ 99 ∧ G l = nI v) {n c : Nat} : ∀ (k : Nat) (z : (Nat → Nat → Int32) × Int32), WfA z.1 n c → stN (dyB E G n c k z).1 n + (dyB E G n c k z).2 = stN z.1 n + z.2
  | 0, _, _ => rfl
  | k + 1, z, hW => by
    rw [dyB, stN_dyB E hG k _ (WfA_day E hG hW).1]
    show stN (dayA E G n c z.1) n + (z.2 + dayB E G n c z.1) = _
    rw [Int32.add_comm z.2, ← Int32.add_assoc, stN_day E hG hW]
