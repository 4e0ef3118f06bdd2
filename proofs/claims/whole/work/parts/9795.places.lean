/-! ===== a campaign's places, on both sides ===== -/
def plS (f7 f2 : Nat → Int32) (x : Int32) : Nat → Nat → Nat × (Nat → Nat) → Nat × (Nat → Nat)
  | 0, _, z => z
  | k + 1, i, z => if 4 ≤ z.1 then z else if f7 i = 0 then plS f7 f2 x k (i + 1) z else if f2 i = x then plS f7 f2 x k (i + 1) (z.1 + 1, fun j => if j = z.1 then i else z.2 j) else plS f7 f2 x k (i + 1) z
def okP (n : Nat) (z : Nat × (Nat → Nat)) : Prop := z.1 ≤ 4 ∧ ∀ j, j < z.1 → z.2 j < n
theorem okP_next {n i : Nat} {z : Nat × (Nat → Nat)} (h : okP n z) (q : ¬ 4 ≤ z.1) (hi : i < n) : okP n (z.1 + 1, fun j => if j = z.1 then i else z.2 j) := by
  refine ⟨by show z.1 + 1 ≤ 4; omega, fun j hj => ?_⟩
  have hj : j < z.1 + 1 := hj
  show (if j = z.1 then i else z.2 j) < n
  by_cases q : j = z.1
  · rw [if_pos q]; exact hi
  · rw [if_neg q]; exact h.2 j (by omega)
theorem plS_ok (f7 f2 : Nat → Int32) (x : Int32) {n : Nat} : ∀ (k i : Nat) (z : Nat × (Nat → Nat)), i + k = n → okP n z → okP n (plS f7 f2 x k i z)
  | 0, _, _, _, h => h
  | k + 1, i, z, hi, h => by
    unfold plS
    by_cases q : 4 ≤ z.1
    · rw [if_pos q]; exact h
    · rw [if_neg q]
      by_cases q1 : f7 i = 0
      · rw [if_pos q1]; exact plS_ok f7 f2 x k (i + 1) z (by omega) h
      · rw [if_neg q1]
        by_cases q2 : f2 i = x
        · rw [if_pos q2]; exact plS_ok f7 f2 x k (i + 1) _ (by omega) (okP_next h q (by omega))
        · rw [if_neg q2]; exact plS_ok f7 f2 x k (i + 1) z (by omega) h
def plC (m : Mm) (z : Nat × (Nat → Nat)) : Prop := gI m 194 3 = nI z.1 ∧ ∀ j, j < z.1 → gI m 195 j = nI (z.2 j)
def plM (m : Mm) (z : Nat × (Nat → Nat)) : Prop := gI m 225 69 = nI z.1 ∧ ∀ j, j < z.1 → gI m 273 j = nI (z.2 j)
def plCP (q i : Nat) : Prop := (q = 194 ∧ i = 3) ∨ q = 195
def plMP (q i : Nat) : Prop := (q = 225 ∧ i = 69) ∨ q = 273
theorem l_plC {f7 f2 : Nat → Int32} {x : Int32} {n : Nat} (hn : n ≤ 12) : ∀ (k N i : Nat) (z : Nat × (Nat → Nat)) (m : Mm), Sh m → gI m 2 6 = nI n → (∀ s, s < n → gI m (2 + 7 + 2 * s) 7 = f7 s ∧ gI m (2 + 7 + 2 * s) 2 = f2 s) → okP n z → plC m z → i + k = n → k < N → ∃ m', (∀ o, f_X0_choosePlaces_7 N 194 2 x (nI i) m o = ((), m', o)) ∧ plC m' (plS f7 f2 x k i z) ∧ Fr plCP m m' := by
  intro k
  induction k with
  | zero =>
    intro N i z m h h6 hs hz hp hi hN
    obtain ⟨N, rfl⟩ : ∃ N1, N = N1 + 1 := ⟨N - 1, by omega⟩
    obtain rfl : i = n := by omega
    refine ⟨m, fun o => ?_, hp, Fr_refl _ m⟩
    show f_X0_choosePlaces_7b (f_X0_choosePlaces_7 N) 194 2 x (nI i) m o = _
    unfold f_X0_choosePlaces_7b f_X0_choosePlaces_74
    simp (config := {decide := true}) only [shT_2 h, shT_194 h, h6, Int32.le_refl, ne_eq, not_false_eq_true, and_self, and_true, true_and, and_false, false_and, true_or, or_true, false_or, or_false, not_true_eq_false, if_false, if_true]
  | succ k ih =>
    intro N i z m h h6 hs hz hp hi hN
    obtain ⟨N, rfl⟩ : ∃ N1, N = N1 + 1 := ⟨N - 1, by omega⟩
    obtain ⟨p1, p2⟩ := hp
    have hle : ¬ nI n ≤ nI i := nI_ge (by omega) (by omega)
    have e4 : ((4 : Int32) ≤ nI z.1) = (4 ≤ z.1) := propext (nI_leI (a := 4) (b := z.1) (by omega) (by have := hz.1; omega))
    obtain ⟨u1, u2, -⟩ := md_stk h (p := 2) (.inl rfl) (show i < 12 by omega)
    have u1 : gR m 3 i = 2 + 7 + 2 * i := u1
    have n2 : ¬ 2 + 7 + 2 * i = 0 := by omega
    have hin : vp_in (nI i) 12 := vp_in_nI (by omega) (by omega)
    obtain ⟨g7, g2⟩ := hs i (by omega)
    by_cases q : 4 ≤ z.1
    · refine ⟨m, fun o => ?_, ?_, Fr_refl _ m⟩
      · show f_X0_choosePlaces_7b (f_X0_choosePlaces_7 N) 194 2 x (nI i) m o = _
        unfold f_X0_choosePlaces_7b f_X0_choosePlaces_74
        simp (config := {decide := true}) only [shT_2 h, shT_194 h, h6, hle, p1, e4, q, ne_eq, not_false_eq_true, and_self, and_true, true_and, and_false, false_and, true_or, or_true, false_or, or_false, not_true_eq_false, if_false, if_true]
      · unfold plS
        rw [if_pos q]
        exact ⟨p1, p2⟩
    · have hz1 : z.1 < 4 := by omega
      by_cases q1 : f7 i = 0
      · obtain ⟨m1, a1, a2, a3⟩ := ih N (i + 1) z m h h6 hs hz ⟨p1, p2⟩ (by omega) (by omega)
        refine ⟨m1, fun o => ?_, ?_, a3⟩
        · show f_X0_choosePlaces_7b (f_X0_choosePlaces_7 N) 194 2 x (nI i) m o = _
          unfold f_X0_choosePlaces_7b f_X0_choosePlaces_68
          simp (config := {decide := true}) only [shT_2 h, shR_2_0 h, shT_3 h, shN_3 h, shT_194 h, h6, hle, p1, e4, q, hin, ix_nI (show i < 2 ^ 31 by omega), u1, u2, n2, g7, q1, nI_1, ne_eq, not_false_eq_true, and_self, and_true, true_and, and_false, false_and, true_or, or_true, false_or, or_false, not_true_eq_false, if_false, if_true]
          exact a1 o
        · unfold plS
          rw [if_neg q, if_pos q1]
          exact a2
      · by_cases q2 : f2 i = x
        · have hin2 : vp_in (nI z.1) 4 := vp_in_nI (by omega) (by omega)
          have F1 : Fr plCP m (sI (sI m 195 z.1 (nI i)) 194 3 (nI (z.1 + 1))) := Fr_sI (Fr_sI (Fr_refl _ m) (by unfold plCP; omega) _) (by unfold plCP; omega) _
          obtain ⟨m1, a1, a2, a3⟩ := ih N (i + 1) (z.1 + 1, fun j => if j = z.1 then i else z.2 j) _ (Fr_Sh F1 h) ((Fr_at F1 (by unfold plCP; omega)).trans h6) (fun s hs' => ⟨(Fr_at F1 (by unfold plCP; omega)).trans (hs s hs').1, (Fr_at F1 (by unfold plCP; omega)).trans (hs s hs').2⟩) (okP_next hz q (by omega)) ⟨rfl, fun j hj => by
            have hj : j < z.1 + 1 := hj
            show _ = nI (if j = z.1 then i else z.2 j)
            rw [gI_sI, if_neg (by omega), gI_sI]
            by_cases y : j = z.1
            · rw [if_pos ⟨rfl, y⟩, if_pos y]
            · rw [if_neg (fun z => y z.2), if_neg y]; exact p2 j (by omega)⟩ (by omega) (by omega)
          refine ⟨m1, fun o => ?_, ?_, Fr_trans F1 a3⟩
          · show f_X0_choosePlaces_7b (f_X0_choosePlaces_7 N) 194 2 x (nI i) m o = _
            unfold f_X0_choosePlaces_7b f_X0_choosePlaces_58 f_X0_choosePlaces_68
            simp (config := {decide := true}) only [shT_2 h, shR_2_0 h, shT_3 h, shN_3 h, shT_194 h, shR_194_0 h, shT_195 h, shN_195 h, h6, hle, p1, e4, q, hin, hin2, ix_nI (show i < 2 ^ 31 by omega), ix_nI (show z.1 < 2 ^ 31 by omega), u1, u2, n2, g7, g2, q1, q2, gI_sI, gT_sI, nI_1, ne_eq, not_false_eq_true, and_self, and_true, true_and, and_false, false_and, true_or, or_true, false_or, or_false, not_true_eq_false, if_false, if_true]
            exact a1 o
          · unfold plS
            rw [if_neg q, if_neg q1, if_pos q2]
            exact a2
        · obtain ⟨m1, a1, a2, a3⟩ := ih N (i + 1) z m h h6 hs hz ⟨p1, p2⟩ (by omega) (by omega)
          refine ⟨m1, fun o => ?_, ?_, a3⟩
          · show f_X0_choosePlaces_7b (f_X0_choosePlaces_7 N) 194 2 x (nI i) m o = _
            unfold f_X0_choosePlaces_7b f_X0_choosePlaces_68
            simp (config := {decide := true}) only [shT_2 h, shR_2_0 h, shT_3 h, shN_3 h, shT_194 h, h6, hle, p1, e4, q, hin, ix_nI (show i < 2 ^ 31 by omega), u1, u2, n2, g7, g2, q1, q2, nI_1, ne_eq, not_false_eq_true, and_self, and_true, true_and, and_false, false_and, true_or, or_true, false_or, or_false, not_true_eq_false, if_false, if_true]
            exact a1 o
          · unfold plS
            rw [if_neg q, if_neg q1, if_neg q2]
            exact a2
theorem l_plM {f7 f2 : Nat → Int32} {x : Int32} {n : Nat} (hn : n ≤ 12) (y w : Int32) : ∀ (k N i : Nat) (z : Nat × (Nat → Nat)) (m : Mm), Sh m → gI m 225 2 = nI n → (∀ s, s < n → gI m 233 s = f7 s ∧ gI m 228 s = f2 s) → okP n z → plM m z → i + k = n → k < N → ∃ m', (∀ o, f_X12_campaign_44 N 225 x y w (nI i) m o = f_X12_campaign_112 225 x y w m' o) ∧ plM m' (plS f7 f2 x k i z) ∧ Fr plMP m m' := by
  intro k
  induction k with
  | zero =>
    intro N i z m h h6 hs hz hp hi hN
    obtain ⟨N, rfl⟩ : ∃ N1, N = N1 + 1 := ⟨N - 1, by omega⟩
    obtain rfl : i = n := by omega
    refine ⟨m, fun o => ?_, hp, Fr_refl _ m⟩
    show f_X12_campaign_44b (f_X12_campaign_44 N) 225 x y w (nI i) m o = _
    unfold f_X12_campaign_44b
    simp (config := {decide := true}) only [shT_225 h, h6, Int32.le_refl, ne_eq, not_false_eq_true, and_self, and_true, true_and, and_false, false_and, true_or, or_true, false_or, or_false, not_true_eq_false, if_false, if_true]
  | succ k ih =>
    intro N i z m h h6 hs hz hp hi hN
    obtain ⟨N, rfl⟩ : ∃ N1, N = N1 + 1 := ⟨N - 1, by omega⟩
    obtain ⟨p1, p2⟩ := hp
    have hle : ¬ nI n ≤ nI i := nI_ge (by omega) (by omega)
    have e4 : ((4 : Int32) ≤ nI z.1) = (4 ≤ z.1) := propext (nI_leI (a := 4) (b := z.1) (by omega) (by have := hz.1; omega))
    have hin : vp_in (nI i) 12 := vp_in_nI (by omega) (by omega)
    obtain ⟨g7, g2⟩ := hs i (by omega)
    by_cases q : 4 ≤ z.1
    · refine ⟨m, fun o => ?_, ?_, Fr_refl _ m⟩
      · show f_X12_campaign_44b (f_X12_campaign_44 N) 225 x y w (nI i) m o = _
        unfold f_X12_campaign_44b
        simp (config := {decide := true}) only [shT_225 h, h6, hle, p1, e4, q, ne_eq, not_false_eq_true, and_self, and_true, true_and, and_false, false_and, true_or, or_true, false_or, or_false, not_true_eq_false, if_false, if_true]
      · unfold plS
        rw [if_pos q]
        exact ⟨p1, p2⟩
    · have hz1 : z.1 < 4 := by omega
      by_cases q1 : f7 i = 0
      · obtain ⟨m1, a1, a2, a3⟩ := ih N (i + 1) z m h h6 hs hz ⟨p1, p2⟩ (by omega) (by omega)
        refine ⟨m1, fun o => ?_, ?_, a3⟩
        · show f_X12_campaign_44b (f_X12_campaign_44 N) 225 x y w (nI i) m o = _
          unfold f_X12_campaign_44b f_X12_campaign_106
          simp (config := {decide := true}) only [shT_225 h, shR_225_14 h, shT_233 h, shN_233 h, h6, hle, p1, e4, q, hin, ix_nI (show i < 2 ^ 31 by omega), g7, q1, nI_1, ne_eq, not_false_eq_true, and_self, and_true, true_and, and_false, false_and, true_or, or_true, false_or, or_false, not_true_eq_false, if_false, if_true]
          exact a1 o
        · unfold plS
          rw [if_neg q, if_pos q1]
          exact a2
      · by_cases q2 : f2 i = x
        · have hin2 : vp_in (nI z.1) 4 := vp_in_nI (by omega) (by omega)
          have F1 : Fr plMP m (sI (sI m 273 z.1 (nI i)) 225 69 (nI (z.1 + 1))) := Fr_sI (Fr_sI (Fr_refl _ m) (by unfold plMP; omega) _) (by unfold plMP; omega) _
          obtain ⟨m1, a1, a2, a3⟩ := ih N (i + 1) (z.1 + 1, fun j => if j = z.1 then i else z.2 j) _ (Fr_Sh F1 h) ((Fr_at F1 (by unfold plMP; omega)).trans h6) (fun s hs' => ⟨(Fr_at F1 (by unfold plMP; omega)).trans (hs s hs').1, (Fr_at F1 (by unfold plMP; omega)).trans (hs s hs').2⟩) (okP_next hz q (by omega)) ⟨rfl, fun j hj => by
            have hj : j < z.1 + 1 := hj
            show _ = nI (if j = z.1 then i else z.2 j)
            rw [gI_sI, if_neg (by omega), gI_sI]
            by_cases y : j = z.1
            · rw [if_pos ⟨rfl, y⟩, if_pos y]
            · rw [if_neg (fun z => y z.2), if_neg y]; exact p2 j (by omega)⟩ (by omega) (by omega)
          refine ⟨m1, fun o => ?_, ?_, Fr_trans F1 a3⟩
          · show f_X12_campaign_44b (f_X12_campaign_44 N) 225 x y w (nI i) m o = _
            unfold f_X12_campaign_44b f_X12_campaign_96 f_X12_campaign_106
            simp (config := {decide := true}) only [shT_225 h, shR_225_14 h, shR_225_9 h, shR_225_68 h, shT_228 h, shN_228 h, shT_233 h, shN_233 h, shT_273 h, shN_273 h, h6, hle, p1, e4, q, hin, hin2, ix_nI (show i < 2 ^ 31 by omega), ix_nI (show z.1 < 2 ^ 31 by omega), g7, g2, q1, q2, gI_sI, gT_sI, nI_1, ne_eq, not_false_eq_true, and_self, and_true, true_and, and_false, false_and, true_or, or_true, false_or, or_false, not_true_eq_false, if_false, if_true]
            exact a1 o
          · unfold plS
            rw [if_neg q, if_neg q1, if_pos q2]
            exact a2
        · obtain ⟨m1, a1, a2, a3⟩ := ih N (i + 1) z m h h6 hs hz ⟨p1, p2⟩ (by omega) (by omega)
          refine ⟨m1, fun o => ?_, ?_, a3⟩
          · show f_X12_campaign_44b (f_X12_campaign_44 N) 225 x y w (nI i) m o = _
            unfold f_X12_campaign_44b f_X12_campaign_106
            simp (config := {decide := true}) only [shT_225 h, shR_225_14 h, shR_225_9 h, shT_228 h, shN_228 h, shT_233 h, shN_233 h, h6, hle, p1, e4, q, hin, ix_nI (show i < 2 ^ 31 by omega), g7, g2, q1, q2, nI_1, ne_eq, not_false_eq_true, and_self, and_true, true_and, and_false, false_and, true_or, or_true, false_or, or_false, not_true_eq_false, if_false, if_true]
            exact a1 o
          · unfold plS
            rw [if_neg q, if_neg q1, if_neg q2]
            exact a2
