/-! ===== a campaign's rows ===== -/
def DG (R p j : Nat) : Nat := R / 2 ^ (2 * (p - 1 - j)) % 4
def PN (R : Nat) : Nat := R % 4 + R / 4 % 4 + R / 16 % 4 + R / 64 % 4
theorem dg_case {R : Nat} (hR : R < 2 ^ 31) (s : Int32) (k : Nat) (hs : (s.toBitVec.smod 32).toNat = k) : (nI R >>> s) &&& 3 = nI (R / 2 ^ k % 4) := by
  have : R / 2 ^ k ≤ R := Nat.div_le_self _ _
  rw [pk_shrN hR s k hs, pk_andN (by omega) 2 (by decide)]
theorem dg_nI {R p j : Nat} (hR : R < 2 ^ 31) (hp : p ≤ 4) (hj : j < p) : dgI (nI R) p j = nI (DG R p j) := by
  unfold dgI DG
  have hp' : p = 1 ∨ p = 2 ∨ p = 3 ∨ p = 4 := by omega
  have hj' : j = 0 ∨ j = 1 ∨ j = 2 ∨ j = 3 := by omega
  rcases hp' with rfl | rfl | rfl | rfl <;> rcases hj' with rfl | rfl | rfl | rfl <;> first | omega | exact dg_case hR _ _ (by decide)
theorem e_pence {R : Nat} (hR : R < 2 ^ 31) (m : Mm) (o : Prop) : F_X12_pence (nI R) m o = (nI (PN R), m, o) := by
  unfold F_X12_pence f_X12_pence_0 PN
  rw [dg_case hR _ 2 (by decide), dg_case hR _ 4 (by decide), dg_case hR _ 6 (by decide), pk_andN (by omega) 2 (by decide), nI_add, nI_add, nI_add]
def sumD (R p : Nat) : Nat → Nat → Nat
  | 0, _ => 0
  | k + 1, i => DG R p i + sumD R p k (i + 1)
theorem sumD_PN {R p : Nat} (hp : p ≤ 4) (hR : R < 4 ^ p) : sumD R p p 0 = PN R := by
  have hp' : p = 0 ∨ p = 1 ∨ p = 2 ∨ p = 3 ∨ p = 4 := by omega
  rcases hp' with rfl | rfl | rfl | rfl | rfl <;> simp only [sumD, DG, PN] <;> omega
theorem PN_le {R p : Nat} (hp : p ≤ 4) (hR : R < 4 ^ p) : PN R ≤ 3 * p := by
  have hp' : p = 0 ∨ p = 1 ∨ p = 2 ∨ p = 3 ∨ p = 4 := by omega
  rcases hp' with rfl | rfl | rfl | rfl | rfl <;> simp only [PN] <;> omega
theorem rows_n {p : Nat} (hp : p ≤ 4) : (1 : Int32) <<< (((2 : Int32) * nI p) &&& 31) = nI (4 ^ p) := by
  have hp' : p = 0 ∨ p = 1 ∨ p = 2 ∨ p = 3 ∨ p = 4 := by omega
  rcases hp' with rfl | rfl | rfl | rfl | rfl <;> decide
theorem rows_le {p : Nat} (hp : p ≤ 4) : 4 ^ p ≤ 256 := by
  have hp' : p = 0 ∨ p = 1 ∨ p = 2 ∨ p = 3 ∨ p = 4 := by omega
  rcases hp' with rfl | rfl | rfl | rfl | rfl <;> decide
theorem l_row {R p : Nat} (hR : R < 2 ^ 31) (hp : p ≤ 4) {m0 : Mm} (h0 : Sh m0) (h3 : gI m0 194 3 = nI p) : ∀ (k N i x : Nat) (m : Mm), Fr (fun q _ => q = 196) m0 m → (∀ j, j < i → gI m 196 j = dgI (nI R) p j) → i + k = p → k < N → ∃ m', (∀ o, f_X0_writeRow_4 N 194 (nI R) (nI x) (nI i) m o = (nI (x + sumD R p k i), m', o)) ∧ (∀ j, j < p → gI m' 196 j = dgI (nI R) p j) ∧ Fr (fun q _ => q = 196) m0 m' := by
  intro k
  induction k with
  | zero =>
    intro N i x m hF hd hi hN
    obtain ⟨N, rfl⟩ : ∃ N1, N = N1 + 1 := ⟨N - 1, by omega⟩
    obtain rfl : i = p := by omega
    have h := Fr_Sh hF h0
    have g3 : gI m 194 3 = nI i := (Fr_at hF (by omega)).trans h3
    refine ⟨m, fun o => ?_, hd, hF⟩
    show f_X0_writeRow_4b (f_X0_writeRow_4 N) 194 (nI R) (nI x) (nI i) m o = _
    unfold f_X0_writeRow_4b
    simp (config := {decide := true}) only [shT_194 h, g3, Int32.le_refl, sumD, Nat.add_zero, ne_eq, not_false_eq_true, and_self, and_true, true_and, and_false, false_and, true_or, or_true, false_or, or_false, not_true_eq_false, if_false, if_true]
  | succ k ih =>
    intro N i x m hF hd hi hN
    obtain ⟨N, rfl⟩ : ∃ N1, N = N1 + 1 := ⟨N - 1, by omega⟩
    have h := Fr_Sh hF h0
    have g3 : gI m 194 3 = nI p := (Fr_at hF (by omega)).trans h3
    have hle : ¬ nI p ≤ nI i := nI_ge (by omega) (by omega)
    have hin : vp_in (nI i) 4 := vp_in_nI (by omega) (by omega)
    have F1 : Fr (fun q _ => q = 196) m0 (sI m 196 i (dgI (nI R) p i)) := Fr_sI hF (by rfl) _
    have ed := dg_nI hR hp (show i < p by omega)
    obtain ⟨m2, b1, b2, b3⟩ := ih N (i + 1) (x + DG R p i) _ F1 (fun j hj => by
      rw [gI_sI]
      by_cases q : j = i
      · rw [if_pos ⟨rfl, q⟩, q]
      · rw [if_neg (fun z => q z.2)]; exact hd j (by omega)) (by omega) (by omega)
    refine ⟨m2, fun o => ?_, b2, b3⟩
    show f_X0_writeRow_4b (f_X0_writeRow_4 N) 194 (nI R) (nI x) (nI i) m o = _
    have e1 : nI x + dgI (nI R) p i = nI (x + DG R p i) := by rw [ed, nI_add]
    have eD : (nI R >>> (((2 : Int32) * ((nI p - 1) - nI i)) &&& 31)) &&& 3 = dgI (nI R) p i := rfl
    unfold f_X0_writeRow_4b f_X0_writeRow_32
    simp (config := {decide := true}) only [shT_194 h, shR_194_1 h, shT_196 h, shN_196 h, g3, hle, hin, ix_nI (show i < 2 ^ 31 by omega), eD, gT_sI, gR_sI, gN_sI, gI_sI, e1, nI_1, ne_eq, not_false_eq_true, and_self, and_true, true_and, and_false, false_and, true_or, or_true, false_or, or_false, not_true_eq_false, if_false, if_true]
    rw [show x + sumD R p (k + 1) i = x + DG R p i + sumD R p k (i + 1) by simp only [sumD]; omega]
    exact b1 o
theorem e_row {R p : Nat} (hp : p ≤ 4) (hR : R < 4 ^ p) {m : Mm} (h : Sh m) (h3 : gI m 194 3 = nI p) : ∃ m', (∀ o, F_X0_writeRow 194 (nI R) m o = (nI (PN R), m', o)) ∧ (∀ j, j < p → gI m' 196 j = dgI (nI R) p j) ∧ Fr (fun q _ => q = 196) m m' := by
  have := rows_le hp
  obtain ⟨m', a1, a2, a3⟩ := l_row (show R < 2 ^ 31 by omega) hp h h3 p 1000 0 0 m (Fr_refl _ m) (fun j hj => by omega) (by omega) (by omega)
  refine ⟨m', fun o => ?_, a2, a3⟩
  have := a1 o
  rw [nI_0, Nat.zero_add, sumD_PN hp hR] at this
  exact this
/-! one row is tried -/
theorem winF_eq {f : Nat → Int32} {k : Nat} (hk : k < 5) : winF f = nI k ↔ isWin f k := by
  constructor
  · intro e
    by_cases q : ∃ j, j < 5 ∧ isWin f j
    · obtain ⟨j, hj, w⟩ := q
      rw [winF_is hj w] at e
      have := (nI_eq (by omega) (by omega)).mp e
      rw [← this]; exact w
    · rw [winF_no q] at e
      have z := nI_pos' (n := k) (by omega)
      rw [← e] at z
      exact absurd z (by decide)
  · exact winF_is hk
theorem l_winsC {C : Nat → Nat → Int32} {nl : Nat} {T : Nat → (Nat → Int32) → Option Bool} {V : Nat → (Nat → Int32) → Option Int32} (hL : LwF C nl T V) (hmk : ∀ j, j < 10 → C 8 j = 0 ∨ C 8 j = -1) (hdE : dep (C 8) (Ev C nl T V)) {w : Nat} {a0 : Nat → Nat → Int32} {n c nd col : Nat} (hnd : nd ≤ 20) (hcol : col < 5) : ∀ (k N i : Nat) (z : (Nat → Nat → Int32) × Int32) (m : Mm), Sh m → lawAt m w C nl → Md m 128 z.1 → WfA z.1 n c → sta a0 z.1 n c → KC (Ev C nl T V) (C 8) m 128 a0 n c → i + k = nd → k < N → ∃ m', (∀ o, f_X0_wins_19 N 194 w (nI col) (nI nd) (nI i) m o = (cI (isWin ((dyI (Ev C nl T V) (Gv C nl T V) n c k z).1 3) col), m', o)) ∧ KC (Ev C nl T V) (C 8) m' 128 a0 n c ∧ Fr (dyC 128 w) m m' := by
  intro k
  induction k with
  | zero =>
    intro N i z m h hA hM hW hS hK hi hN
    obtain ⟨N, rfl⟩ : ∃ N1, N = N1 + 1 := ⟨N - 1, by omega⟩
    obtain rfl : i = nd := by omega
    refine ⟨m, fun o => ?_, hK, Fr_refl _ m⟩
    have hw := fun o => e_winner h (p := 128) (.inr (.inr rfl)) o
    have ew : winF (gI m (128 + 3)) = winF (z.1 3) := winF_congr (fun j hj => hM 3 j (by omega) (by omega))
    show f_X0_wins_19b (f_X0_wins_19 N) 194 w (nI col) (nI i) (nI i) m o = _
    unfold f_X0_wins_19b
    simp (config := {decide := true}) only [bnd, shT_194 h, shR_194_2 h, shT_128 h, Int32.le_refl, hw, ew, f_X0_wins_48, f_X0_wins_57, ne_eq, not_false_eq_true, and_self, and_true, true_and, and_false, false_and, true_or, or_true, false_or, or_false, not_true_eq_false, if_false, if_true]
    show _ = (cI (isWin (z.1 3) col), m, o)
    by_cases q : isWin (z.1 3) col
    · rw [if_pos ((winF_eq hcol).mpr q), cI_t q]
    · rw [if_neg (fun y => q ((winF_eq hcol).mp y)), cI_f q]
  | succ k ih =>
    intro N i z m h hA hM hW hS hK hi hN
    obtain ⟨N, rfl⟩ : ∃ N1, N = N1 + 1 := ⟨N - 1, by omega⟩
    have hle : ¬ nI nd ≤ nI i := nI_ge (by omega) (by omega)
    obtain ⟨m1, a1, a2, a3, -, a5⟩ := e_passDay hL hmk hdE (p := 128) (.inr (.inr rfl)) h hA hM hW hS hK
    have h1 := Fr_Sh a5 h
    obtain ⟨W1, S1⟩ := WfA_day (Ev C nl T V) (Gv_nI C nl T V) hW
    have hA1 : lawAt m1 w C nl := lawAt_Fr hA a5 (fun q x hq => by unfold dyC lwP; rcases hA.1 with z | z <;> omega)
    obtain ⟨m2, b1, b2, b3⟩ := ih N (i + 1) (dayA (Ev C nl T V) (Gv C nl T V) n c z.1, z.2 + dayH (Ev C nl T V) n c z.1) m1 h1 hA1 a2 W1 (sta_trans hS S1) a3 (by omega) (by omega)
    have n9 : ¬ w = 0 := by rcases hA.1 with z | z <;> omega
    obtain ⟨w0, -⟩ := w_sh h hA.1
    refine ⟨m2, fun o => ?_, b2, Fr_trans a5 b3⟩
    show f_X0_wins_19b (f_X0_wins_19 N) 194 w (nI col) (nI nd) (nI i) m o = _
    unfold f_X0_wins_19b
    rw [if_neg hle]
    simp (config := {decide := true}) only [f_X0_wins_34, bnd, shT_194 h, shR_194_2 h, shT_128 h, w0, n9, a1, nI_1, ne_eq, not_false_eq_true, and_self, and_true, true_and, and_false, false_and, true_or, or_true, false_or, or_false, not_true_eq_false, if_false, if_true]
    exact b1 o
/-- the class: the row written is tried -/
theorem e_winsC {C : Nat → Nat → Int32} {nl : Nat} {T : Nat → (Nat → Int32) → Option Bool} {V : Nat → (Nat → Int32) → Option Int32} (hL : LwF C nl T V) (hmk : ∀ j, j < 10 → C 8 j = 0 ∨ C 8 j = -1) (hdE : dep (C 8) (Ev C nl T V)) {w : Nat} {a : Nat → Nat → Int32} {n c nd col : Nat} (hnd : nd ≤ 20) (hcol : col < 5) {pl : Nat → Nat} {dg : Nat → Int32} {p : Nat} (hp4 : p ≤ 4) (hpl : ∀ j, j < p → pl j < n) (hd : ∀ j, j < p → ∃ v, v ≤ 3 ∧ dg j = nI v) {m : Mm} (h : Sh m) (hA : lawAt m w C nl) (hM : Md m 2 a) (hW : WfA a n c) (hK : KC (Ev C nl T V) (C 8) m 128 a n c) (h3 : gI m 194 3 = nI p) (hx : ∀ j, j < p → gI m 195 j = nI (pl j) ∧ gI m 196 j = dg j) : ∃ m' b, (∀ o, F_X0_wins 194 2 w (nI col) (nI nd) m o = (cI (isWin ((dyI (Ev C nl T V) (Gv C nl T V) n c nd (spG pl dg p 0 b, 0)).1 3) col), m', o)) ∧ ag (noK a) b n c ∧ KC (Ev C nl T V) (C 8) m' 128 a n c ∧ Fr (dyC 128 w) m m' := by
  have hww := hA.1
  have hn := hW.1.1.1
  obtain ⟨m2, b, b1, b2, b3, b4⟩ := e_startRun h hM hW
  have h2 := Fr_Sh b2 h
  have hWb := ag_Wf b4 (WfA_noK hW)
  obtain ⟨m3, c1, c2, c3⟩ := l_spread (.inr rfl) hn hp4 hpl hd p 1000 0 b m2 h2 b3 hWb ((Fr_at b2 (by unfold inM; omega)).trans h3) (fun j hj => ⟨(Fr_at b2 (by unfold inM; omega)).trans (hx j hj).1, (Fr_at b2 (by unfold inM; omega)).trans (hx j hj).2⟩) (by omega) (by omega)
  have F3' : Fr (fun q _ => inM 128 q) m m3 := Fr_trans b2 c3
  have F3 : Fr (dyC 128 w) m m3 := Fr_mono F3' (fun q i hq => by unfold inM at hq; exact .inr ⟨by omega, by omega⟩)
  have h3' := Fr_Sh F3 h
  have hA3 : lawAt m3 w C nl := lawAt_Fr hA F3 (fun q i hq => by unfold dyC lwP; rcases hww with z | z <;> omega)
  have K3 : KC (Ev C nl T V) (C 8) m3 128 a n c := KC_Fr hK F3' (fun i => by unfold inM; omega)
  obtain ⟨W3, S3⟩ := WfA_sp (c := c) hn hpl hd p 0 b (by omega) hWb
  obtain ⟨m4, d1, d2, d3⟩ := l_winsC hL hmk hdE hnd hcol nd 1000 0 (spG pl dg p 0 b, 0) m3 h3' hA3 c2 W3 (sta_trans (sta_trans (sta_noK a n c) (ag_sta b4)) S3) K3 (by omega) (by omega)
  rw [nI_0] at c1 d1
  refine ⟨m4, b, fun o => ?_, b4, d2, Fr_trans F3 d3⟩
  simp (config := {decide := true}) only [F_X0_wins, f_X0_wins_0, f_X0_wins_8, f_X0_wins_16, F_X0_spreadOn, f_X0_spreadOn_0, bnd, shT_194 h, shR_194_2 h, shT_128 h, shT_2 h, shT_194 h2, shR_194_2 h2, shT_128 h2, b1, c1, d1, ne_eq, not_false_eq_true, and_self, and_true, true_and, and_false, false_and, true_or, or_true, false_or, or_false, not_true_eq_false, if_false, if_true]
/-- the other side: a row is tried, and all put back -/
def tyM (q i : Nat) : Prop := sideP 0 q i ∨ rnM q i ∨ nowP q i
theorem e_tryM {C D : Nat → Nat → Int32} {nl : Nat} {T : Nat → (Nat → Int32) → Option Bool} {V : Nat → (Nat → Int32) → Option Int32} (hL : LwM (C 3) D nl T V) {a b : Nat → Nat → Int32} {n c nd col : Nat} (hnd : nd ≤ 20) (hcol : col < 5) {pl : Nat → Nat} {r : Int32} {p : Nat} (hp4 : p ≤ 4) (hpl : ∀ j, j < p → pl j < n) {m : Mm} (h : Sh m) (hA : lawM m D nl) (hE : MM m a n c d0) (hW : WfA a n c) (hP : plM m (p, pl)) (hb : ag (noK a) b n c) (K : Nat → Int32 → Int32 → Int32 → Int32 → Int32 → Mm → Prop → Int32 × Mm × Prop) (y be : Int32) : ∃ m', (∀ o, f_X12_campaign_172 K 225 (nI col) (nI nd) y be r m o = f_X12_campaign_200 K 225 (nI col) (nI nd) y be r (cI (isWin ((dyI (Ev C nl T V) (Gv C nl T V) n c nd (spG pl (dgI r p) p 0 b, 0)).1 3) col)) m' o) ∧ MM m' a n c d0 ∧ Fr tyM m m' := by
  have hc := hW.1.1.2
  have hn := hW.1.1.1
  obtain ⟨m4, s1, s2, s3, s4⟩ := e_setsAside h (k := 0) (by omega)
  obtain ⟨s5, s6⟩ := s3 a n c d0 hW hE
  have h4 := Fr_Sh s2 h
  have hE4 : MM m4 b n c (a 3) := ag_MM hb hc (MM_noK (MM_frame hE (fun q i hq => Fr_at s2 (by unfold sideP; omega))))
  obtain ⟨m5, t1, t2, t3⟩ := l_spreadM (r := r) hn hp4 hpl p 1000 0 b m4 h4 hE4 ((Fr_at s2 (by unfold sideP; omega)).trans hP.1) (fun j hj => (Fr_at s2 (by unfold sideP; omega)).trans (hP.2 j hj)) (by omega) (by omega)
  have h5 := Fr_Sh t3 h4
  have hd : ∀ j, j < p → ∃ v, v ≤ 3 ∧ dgI r p j = nI v := fun j hj => by
    obtain ⟨v, hv, e⟩ := pk_andE (r >>> (((2 : Int32) * ((nI p - 1) - nI j)) &&& 31)) (m := 3) 2 (by decide)
    exact ⟨v, by omega, e⟩
  obtain ⟨W5, -⟩ := WfA_sp (c := c) hn hpl hd p 0 b (by omega) (ag_Wf hb (WfA_noK hW))
  have hd5 : ∀ j, j < 5 → gI m5 269 j = a 3 j := fun j hj => by
    have e1 := s4 j hj
    rw [Nat.mul_zero, Nat.zero_add] at e1
    rw [Fr_at t3 (by omega), e1]
    have e2 := hE.1.2.2.1 j hj
    rw [Nat.mul_zero, Nat.zero_add, d0, Int32.add_zero] at e2
    exact e2
  have lM5 : lawM m5 D nl := lawM_Fr (lawM_Fr hA s2 (fun q i hq => by unfold sideP; omega)) t3 (fun q i hq => by omega)
  obtain ⟨m6, v1, v2, v3, v4, v5⟩ := e_runs (V := V) hL hnd h5 lM5 t2 W5 hd5
  have h6 := Fr_Sh v5 h5
  have e1 := dyB_1 (Ev C nl T V) (Gv C nl T V) n c nd (spG pl (dgI r p) p 0 b) 0 0
  rw [e1] at v4
  have hw := fun o => e_winsM h6 hcol o
  have ew : (@ite _ (isWin (gI m6 272) col) (Classical.propDecidable _) (1 : Int32) 0) = cI (isWin ((dyI (Ev C nl T V) (Gv C nl T V) n c nd (spG pl (dgI r p) p 0 b, 0)).1 3) col) := by
    by_cases q : isWin (gI m6 272) col
    · rw [if_pos q, cI_t ((isWin_congr v4 hcol).mp q)]
    · rw [if_neg q, cI_f (fun z => q ((isWin_congr v4 hcol).mpr z))]
  rw [ew] at hw
  obtain ⟨m7, u1, u2, u3⟩ := e_putsBack h6 (k := 0) (by omega)
  have kk : ∀ q i, 257 ≤ q → q ≤ 271 → gI m6 q i = gI m4 q i := fun q i z1 z2 => (Fr_at v5 (by unfold rnM dyM lmP; omega)).trans (Fr_at t3 (by omega))
  have hE7 := side_back hW s5 s6 kk u3
  rw [nI_0] at s1 t1 u1
  refine ⟨m7, fun o => ?_, hE7, Fr_trans (Fr_trans (Fr_trans (Fr_mono s2 (fun q i hq => .inl hq)) (Fr_mono t3 (fun q i hq => .inr (.inr (by unfold nowP; omega))))) (Fr_mono v5 (fun q i hq => .inr (.inl hq)))) (Fr_mono u2 (fun q i hq => .inr (.inr hq)))⟩
  simp (config := {decide := true}) only [f_X12_campaign_172, f_X12_campaign_177, f_X12_campaign_183, f_X12_campaign_188, f_X12_campaign_193, F_X12_spreads, f_X12_spreads_0, bnd, shT_225 h, s1, shT_225 h4, t1, shT_225 h5, v1, shT_225 h6, hw, u1, ne_eq, not_false_eq_true, and_self, and_true, true_and, and_false, false_and, true_or, or_true, false_or, or_false, not_true_eq_false, if_false, if_true]
