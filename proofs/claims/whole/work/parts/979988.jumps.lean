/-! ===== jumps that wait: conditions by pieces and parts ===== -/
def cmb (op : Nat) : VC → VC → VC := if op = 38 then tAnd else tOr
theorem cmb_assoc {op : Nat} (A B C : VC) : cmb op (cmb op A B) C = cmb op A (cmb op B C) := by
  unfold cmb
  split
  · exact tAnd_assoc A B C
  · exact tOr_assoc A B C
def isJ (op : Nat) : Prop := op = 38 ∨ op = 124
theorem CC_cmb {C : Nat → Nat → Int32} {i j e op : Nat} {T R : VC} (hop : isJ op) (hT : CC C i j T) (h1 : C 1 j = nI op) (h2 : C 2 j = nI e) (hR : CC C (j + 1) e R) : CC C i e (cmb op T R) := by
  rcases hop with rfl | rfl
  · exact CC_and hT h1 h2 hR
  · exact CC_or hT h1 h2 hR
def jC (op : Nat) (O : Option VC) (T : VC) : VC := match O with
  | none => T
  | some q => cmb op q T
theorem jA_jC (O : Option VC) (T : VC) : jA O T = jC 38 O T := by cases O <;> rfl
theorem jO_jC (O : Option VC) (T : VC) : jO O T = jC 124 O T := by cases O <;> rfl
/-- x's argument once those that wait go to e -/
def ldA (C : Nat → Nat → Int32) (op e x : Nat) : Int32 := if C 1 x = nI op ∧ C 2 x = -1 then nI e else C 2 x
def KK (op : Nat) (C : Nat → Nat → Int32) (i j : Nat) (T : VC) : Prop := ∀ (C' : Nat → Nat → Int32) (e : Nat) (R : VC), (∀ x, i ≤ x → x < j → C' 1 x = C 1 x ∧ C' 2 x = ldA C op e x) → CC C' j e R → CC C' i e (cmb op T R)
def WfP (op : Nat) (C : Nat → Nat → Int32) (i j : Nat) : Prop := ∀ x, i ≤ x → x < j → ((C 1 x = 38 ∨ C 1 x = 124) ∧ C 2 x = -1 → C 1 x = nI op) ∧ (C 1 x = 2 → ∃ k, k < 10 ∧ C 2 x = nI k)
def PK (op : Nat) (C : Nat → Nat → Int32) (i j : Nat) (O : Option VC) : Prop := match O with
  | none => i = j
  | some T => i < j ∧ KK op C i j T ∧ WfP op C i j ∧ dpn C i j T
theorem PK_congr {op : Nat} {C C' : Nat → Nat → Int32} {i j : Nat} {O : Option VC} (h : PK op C i j O) (hC : ∀ x, i ≤ x → x < j → C' 1 x = C 1 x ∧ C' 2 x = C 2 x) : PK op C' i j O := by
  cases O with
  | none => exact h
  | some T =>
    obtain ⟨h0, h1, h2, h3⟩ := h
    refine ⟨h0, fun D e R hD hR => h1 D e R (fun x a b => ?_) hR, fun x a b => ?_, dpn_congr h3 hC⟩
    · obtain ⟨d1, d2⟩ := hD x a b
      obtain ⟨c1, c2⟩ := hC x a b
      refine ⟨d1.trans c1, ?_⟩
      rw [d2]
      unfold ldA
      rw [c1, c2]
    · obtain ⟨c1, c2⟩ := hC x a b
      rw [c1, c2]
      exact h2 x a b
theorem PK_le {op : Nat} {C : Nat → Nat → Int32} {i j : Nat} {O : Option VC} (h : PK op C i j O) : i ≤ j := by
  cases O with
  | none => exact Nat.le_of_eq h
  | some T => exact Nat.le_of_lt h.1
theorem ldA_no {C : Nat → Nat → Int32} {op e x i j : Nat} (hop : isJ op) (h : WfI C i j) (hi : i ≤ x) (hj : x < j) : ldA C op e x = C 2 x := by
  unfold ldA
  rw [if_neg]
  rintro ⟨a, b⟩
  refine (h x hi hj).1 ⟨?_, b⟩
  rcases hop with rfl | rfl
  · exact .inl a
  · exact .inr a
/-- one more, with a jump behind it that waits -/
theorem PK_ext {op : Nat} (hop : isJ op) {C C2 : Nat → Nat → Int32} {i j k : Nat} {O : Option VC} {T : VC} (h : PK op C i j O) (hT : CCx C j k T) (hC : ∀ x, i ≤ x → x < k → C2 1 x = C 1 x ∧ C2 2 x = C 2 x) (h1 : C2 1 k = nI op) (h2 : C2 2 k = -1) : PK op C2 i (k + 1) (some (jC op O T)) := by
  have hij := PK_le h
  have hjk := hT.1.1
  have hT2 : CCx C2 j k T := CCx_congr hT (fun x a b => hC x (by omega) b)
  have h' : PK op C2 i j O := PK_congr h (fun x a b => hC x a (by omega))
  have key : ∀ (C' : Nat → Nat → Int32) (e : Nat) (R : VC), (∀ x, i ≤ x → x < k + 1 → C' 1 x = C2 1 x ∧ C' 2 x = ldA C2 op e x) → CC C' (k + 1) e R → CC C' j e (cmb op T R) := fun C' e R hD hR => by
    refine CC_cmb hop (CC_congr hT2.1 (fun x a b => ?_)) ((hD k (by omega) (by omega)).1.trans h1) ?_ hR
    · obtain ⟨d1, d2⟩ := hD x (by omega) (by omega)
      exact ⟨d1, d2.trans (ldA_no hop hT2.2.1 a b)⟩
    · rw [(hD k (by omega) (by omega)).2]
      unfold ldA
      rw [if_pos ⟨h1, h2⟩]
  have wk : ∀ x, k ≤ x → x < k + 1 → ((C2 1 x = 38 ∨ C2 1 x = 124) ∧ C2 2 x = -1 → C2 1 x = nI op) ∧ (C2 1 x = 2 → ∃ q, q < 10 ∧ C2 2 x = nI q) := fun x a b => by
    obtain rfl : x = k := by omega
    exact ⟨fun _ => h1, fun y => by rw [h1] at y; rcases hop with rfl | rfl <;> exact absurd y (by decide)⟩
  have wT : ∀ x, j ≤ x → x < k → ((C2 1 x = 38 ∨ C2 1 x = 124) ∧ C2 2 x = -1 → C2 1 x = nI op) ∧ (C2 1 x = 2 → ∃ q, q < 10 ∧ C2 2 x = nI q) := fun x a b => ⟨fun y => absurd y (hT2.2.1 x a b).1, (hT2.2.1 x a b).2⟩
  cases O with
  | none =>
    have h' : i = j := h'
    subst h'
    refine ⟨by omega, key, fun x a b => ?_, dpn_le hT2.2.2 (Nat.le_refl _) (by omega)⟩
    by_cases q : x < k
    · exact wT x a q
    · exact wk x (by omega) b
  | some A =>
    obtain ⟨g0, g1, g2, g3⟩ : i < j ∧ KK op C2 i j A ∧ WfP op C2 i j ∧ dpn C2 i j A := h'
    refine ⟨by omega, fun C' e R hD hR => ?_, fun x a b => ?_, fun l l' hl => ?_⟩
    · show CC C' i e (cmb op (cmb op A T) R)
      rw [cmb_assoc]
      exact g1 C' e _ (fun x a b => hD x a (by omega)) (key C' e R hD hR)
    · by_cases q : x < j
      · exact g2 x a q
      · by_cases q2 : x < k
        · exact wT x (by omega) q2
        · exact wk x (by omega) b
    · have e1 := g3 l l' (fun x q a b => hl x q a (by omega))
      have e2 := hT2.2.2 l l' (fun x q a b => hl x q (by omega) (by omega))
      show cmb op A T l = cmb op A T l'
      unfold cmb
      split
      · unfold tAnd; rw [e1, e2]
      · unfold tOr; rw [e1, e2]
/-- the last of them: those that wait have landed -/
theorem PK_end {op : Nat} (hop : isJ op) {C C2 : Nat → Nat → Int32} {i j k : Nat} {O : Option VC} {T : VC} (h : PK op C i j O) (hT : CCx C j k T) (hk : k ≤ 200) (hC : ∀ x, i ≤ x → x < k → C2 1 x = C 1 x ∧ C2 2 x = ldA C op k x) : CCx C2 i k (jC op O T) := by
  have hij := PK_le h
  have hjk := hT.1.1
  have hT2 : CCx C2 j k T := CCx_congr hT (fun x a b => ⟨(hC x (by omega) b).1, (hC x (by omega) b).2.trans (ldA_no hop hT.2.1 a b)⟩)
  cases O with
  | none =>
    have h : i = j := h
    subst h
    exact hT2
  | some A =>
    obtain ⟨g0, g1, g2, g3⟩ : i < j ∧ KK op C i j A ∧ WfP op C i j ∧ dpn C i j A := h
    have arg : ∀ x, i ≤ x → x < j → C 1 x = 2 → C2 2 x = C 2 x := fun x a b y => by
      rw [(hC x a (by omega)).2]
      unfold ldA
      rw [if_neg]
      rintro ⟨y1, -⟩
      rw [y] at y1
      rcases hop with rfl | rfl <;> exact absurd y1 (by decide)
    refine ⟨g1 C2 k T (fun x a b => hC x a (by omega)) hT2.1, fun x a b => ?_, fun l l' hl => ?_⟩
    · by_cases q : x < j
      · obtain ⟨c1, c2⟩ := hC x a b
        refine ⟨fun y => ?_, fun y => ?_⟩
        · rw [c1, c2] at y
          unfold ldA at y
          by_cases z : C 1 x = nI op ∧ C 2 x = -1
          · rw [if_pos z] at y
            exact absurd y.2 (nI_ne_m1 (by omega))
          · rw [if_neg z] at y
            exact z ⟨(g2 x a q).1 y, y.2⟩
        · rw [c1] at y
          rw [arg x a q y]
          exact (g2 x a q).2 y
      · exact hT2.2.1 x (by omega) b
    · have e1 := g3 l l' (fun x q a b c d e => hl x q a (by omega) ((hC x a (by omega)).1.trans c) ((arg x a b c).trans d) e)
      have e2 := hT2.2.2 l l' (fun x q a b => hl x q (by omega) (by omega))
      show cmb op A T l = cmb op A T l'
      unfold cmb
      split
      · unfold tAnd; rw [e1, e2]
      · unfold tOr; rw [e1, e2]
/-! those that wait land -/
theorem l_land {w z : Nat} (hw : isW w) (hz : z ≤ 200) (op : Nat) : ∀ (k N x : Nat) (m : Mm), Sh m → gI m w 9 = nI z → x + k = z → k < N → ∃ m', (∀ o, f_X3_landJumps_2 N w (nI op) (nI x) m o = ((), m', o)) ∧ Fr (fun q y => q = w + 2 ∧ x ≤ y ∧ y < z) m m' ∧ ∀ y, x ≤ y → y < z → gI m' (w + 2) y = if gI m (w + 1) y = nI op ∧ gI m (w + 2) y = -1 then nI z else gI m (w + 2) y := by
  intro k
  induction k with
  | zero =>
    intro N x m h h9 hx hN
    obtain ⟨N, rfl⟩ : ∃ N1, N = N1 + 1 := ⟨N - 1, by omega⟩
    obtain ⟨t0, -⟩ := w_sh h hw
    refine ⟨m, fun o => ?_, Fr_refl _ _, fun y a b => by omega⟩
    show f_X3_landJumps_2b (f_X3_landJumps_2 N) w (nI op) (nI x) m o = _
    unfold f_X3_landJumps_2b
    rw [h9, if_pos (nI_le (by omega) (by omega))]
    simp (config := {decide := true}) only [t0, ne_eq, not_false_eq_true, and_self, and_true, true_and, and_false, false_and, true_or, or_true, false_or, or_false, not_true_eq_false, if_false, if_true]
  | succ k ih =>
    intro N x m h h9 hx hN
    obtain ⟨N, rfl⟩ : ∃ N1, N = N1 + 1 := ⟨N - 1, by omega⟩
    obtain ⟨t0, r0, r1, -⟩ := w_sh h hw
    obtain ⟨T1, T2, -⟩ := w_T h hw
    obtain ⟨N1, N2, -⟩ := w_N h hw
    have i1 : vp_in (nI x) 200 := vp_in_nI (by omega) (by omega)
    have a1 : ¬ w + 1 = 0 := by omega
    have a2 : ¬ w + 2 = 0 := by omega
    have base : ∀ o, f_X3_landJumps_2 (N + 1) w (nI op) (nI x) m o = f_X3_landJumps_2 N w (nI op) (nI (x + 1)) (if gI m (w + 1) x = nI op ∧ gI m (w + 2) x = -1 then sI m (w + 2) x (nI z) else m) o := fun o => by
      show f_X3_landJumps_2b (f_X3_landJumps_2 N) w (nI op) (nI x) m o = _
      unfold f_X3_landJumps_2b f_X3_landJumps_40
      rw [h9, if_neg (nI_ge (by omega) (by omega)), nI_1]
      simp (config := {decide := true}) only [t0, r0, r1, T1, T2, N1, N2, i1, a1, a2, ix_nI (show x < 2 ^ 31 by omega), ne_eq, not_false_eq_true, and_self, and_true, true_and, and_false, false_and, true_or, or_true, false_or, or_false, not_true_eq_false, if_false, if_true]
      by_cases q1 : gI m (w + 1) x = nI op
      · by_cases q2 : gI m (w + 2) x = -1
        · rw [if_pos q1, if_pos q2, if_pos ⟨q1, q2⟩]
        · rw [if_pos q1, if_neg q2, if_neg (fun y => q2 y.2)]
      · rw [if_neg q1, if_neg (fun y => q1 y.1)]
    by_cases q : gI m (w + 1) x = nI op ∧ gI m (w + 2) x = -1
    · simp only [if_pos q] at base
      obtain ⟨m', b1, b2, b3⟩ := ih N (x + 1) (sI m (w + 2) x (nI z)) (Sh_sI h _ _ _) (by rw [gI_sI, if_neg (by omega)]; exact h9) (by omega) (by omega)
      refine ⟨m', fun o => (base o).trans (b1 o), Fr_trans (Fr_sI (P := fun q y => q = w + 2 ∧ x ≤ y ∧ y < z) (Fr_refl _ m) ⟨rfl, Nat.le_refl _, by omega⟩ _) (Fr_mono b2 (fun q y hy => ⟨hy.1, by omega, hy.2.2⟩)), fun y a b => ?_⟩
      by_cases e : y = x
      · subst e
        rw [Fr_at b2 (by omega), gI_sI, if_pos ⟨rfl, rfl⟩, if_pos q]
      · have g1 : gI (sI m (w + 2) x (nI z)) (w + 1) y = gI m (w + 1) y := by rw [gI_sI, if_neg (by omega)]
        have g2 : gI (sI m (w + 2) x (nI z)) (w + 2) y = gI m (w + 2) y := by rw [gI_sI, if_neg (by omega)]
        rw [b3 y (by omega) b, g1, g2]
    · simp only [if_neg q] at base
      obtain ⟨m', b1, b2, b3⟩ := ih N (x + 1) m h h9 (by omega) (by omega)
      refine ⟨m', fun o => (base o).trans (b1 o), Fr_mono b2 (fun q y hy => ⟨hy.1, by omega, hy.2.2⟩), fun y a b => ?_⟩
      by_cases e : y = x
      · subst e
        rw [Fr_at b2 (by omega), if_neg q]
      · exact b3 y (by omega) b
theorem e_land {m : Mm} {w n : Nat} {s : Nat → Nat} {a z : Nat} (h : CS m w n s a z) {i op : Nat} (hi : i ≤ z) (hz : z ≤ 200) : ∃ m', (∀ o, F_X3_landJumps w (nI i) (nI op) m o = ((), m', o)) ∧ Fr (cfP w i) m m' ∧ CS m' w n s a z ∧ (∀ x, i ≤ x → x < z → rwC m' w 1 x = rwC m w 1 x ∧ rwC m' w 2 x = ldA (rwC m w) op z x) ∧ ∀ x, x < i → rwC m' w 1 x = rwC m w 1 x ∧ rwC m' w 2 x = rwC m w 2 x := by
  obtain ⟨hB, h3, h9, hza, han⟩ := id h
  have hw := hB.2.1
  obtain ⟨w1, w2, w3, w4⟩ := w_ne hw
  obtain ⟨m', a1, a2, a3⟩ := l_land hw hz op (z - i) 1000 i m hB.1 h9 (by omega) (by omega)
  have hF : Fr (cfP w i) m m' := Fr_mono a2 (fun q y hy => .inr (.inr ⟨.inr hy.1, hy.2.1⟩))
  refine ⟨m', a1, hF, ⟨CB_Fr hB hF, by rw [Fr_at a2 (by omega)]; exact h3, by rw [Fr_at a2 (by omega)]; exact h9, hza, han⟩, fun x b c => ⟨?_, ?_⟩, fun x b => ⟨?_, ?_⟩⟩
  · exact Fr_at a2 (by omega)
  · exact a3 x b c
  · exact Fr_at a2 (by omega)
  · exact Fr_at a2 (by omega)
