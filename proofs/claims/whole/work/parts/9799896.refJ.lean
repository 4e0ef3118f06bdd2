/-! ===== the other side joins truths ===== -/
def pc (M : Option VC) : Nat := match M with
  | none => 0
  | some _ => 1
theorem pc_le (M : Option VC) : pc M ≤ 1 := by
  cases M with
  | none => exact Nat.zero_le _
  | some q => exact Nat.le_refl _
theorem j_stop {m : Mm} {n : Nat} {s : Nat → Nat} {a c h k : Nat} (hR : RS m n s a c h k) {pl : Nat} (hpl : pl = 0 ∨ pl = 1) (h1 : ¬ tpv m h = 38) (h2 : pl = 1 → ¬ tpv m h = 124) (N : Nat) (o : Prop) : f_X12_joins_0 (N + 1) 225 (nI pl) m o = ((), m, o) := by
  obtain ⟨hB, h35, h37, h39, h40, h41, b1, b2, b3⟩ := id hR
  have hS := hB.1
  have hn := hB.2.2.1
  show f_X12_joins_0b (f_X12_joins_0 N) 225 (nI pl) m o = _
  unfold f_X12_joins_0b
  rw [e_topR hS (by omega) h41, bnd_mk]
  unfold f_X12_joins_4
  rw [if_neg h1]
  rcases hpl with rfl | rfl
  · rw [if_pos (show nI 0 = 0 from rfl)]
    unfold f_X12_joins_44
    simp (config := {decide := true}) only [shT_225 hS, ne_eq, not_false_eq_true, and_self, and_true, true_and, and_false, false_and, true_or, or_true, false_or, or_false, not_true_eq_false, if_false, if_true]
  · rw [if_neg (show ¬ nI 1 = 0 by decide), e_topR hS (by omega) h41, bnd_mk]
    unfold f_X12_joins_17 f_X12_joins_44
    rw [if_neg (h2 rfl)]
    simp (config := {decide := true}) only [shT_225 hS, ne_eq, not_false_eq_true, and_self, and_true, true_and, and_false, false_and, true_or, or_true, false_or, or_false, not_true_eq_false, if_false, if_true]
theorem j_pop {m : Mm} {n : Nat} {s : Nat → Nat} {a c h k : Nat} (hR : RS m n s a c (h + 1) k) {pl op : Nat} (hpl : pl = 0 ∨ pl = 1) (hop : op = 38 ∨ (pl = 1 ∧ op = 124)) (tp : gI m 253 h = nI op) (hc : c < a) : ∃ m', (∀ N o, f_X12_joins_0 (N + 1) 225 (nI pl) m o = f_X12_joins_0 N 225 (nI pl) m' o) ∧ RS m' n s a (c + 1) h k ∧ Fr (fun q i => (q = 225 ∧ (i = 39 ∨ i = 41)) ∨ ((q = 251 ∨ q = 252) ∧ i = c)) m m' ∧ rwD m' 4 c = nI op := by
  obtain ⟨hB, h35, h37, h39, h40, h41, b1, b2, b3⟩ := id hR
  have hS := hB.1
  have hn := hB.2.2.1
  obtain ⟨m1, e1, e2, e3, e4, e5⟩ := e_emit hS h37 (show c < 200 by omega) h39 (nI op) 0
  have S1 := Fr_Sh e2 hS
  have g41 : gI m1 225 41 = nI (h + 1) := by rw [Fr_at e2 (by omega)]; exact h41
  have F1 : Fr (fun q i => (q = 225 ∧ (i = 39 ∨ i = 41)) ∨ ((q = 251 ∨ q = 252) ∧ i = c)) m (sI m1 225 41 (nI h)) := Fr_sI (Fr_mono e2 (fun q i y => by omega)) (by omega) _
  have tp' : tpv m (h + 1) = nI op := by
    unfold tpv
    rw [if_neg (by omega), Nat.add_sub_cancel]
    exact tp
  refine ⟨sI m1 225 41 (nI h), fun N o => ?_, ⟨RB_Fr hB (Fr_mono F1 (fun q i y => by unfold rfA; omega)), ?_, ?_, ?_, ?_, by rw [gI_sI, if_pos ⟨rfl, rfl⟩], b1, by omega, by omega⟩, F1, ?_⟩
  · have e22 : ∀ o, f_X12_joins_22 (f_X12_joins_0 N) 225 (nI pl) m o = f_X12_joins_0 N 225 (nI pl) (sI m1 225 41 (nI h)) o := fun o => by
      unfold f_X12_joins_22
      rw [e_topR hS (by omega) h41, bnd_mk, tp']
      unfold f_X12_joins_27
      rw [e1, bnd_mk]
      unfold f_X12_joins_31 f_X12_joins_41
      rw [g41, nI_sub1 (by omega), Nat.add_sub_cancel]
      simp (config := {decide := true}) only [shT_225 hS, shT_225 S1, ne_eq, not_false_eq_true, and_self, and_true, true_and, and_false, false_and, true_or, or_true, false_or, or_false, not_true_eq_false, if_false, if_true]
    show f_X12_joins_0b (f_X12_joins_0 N) 225 (nI pl) m o = _
    unfold f_X12_joins_0b
    rw [e_topR hS (by omega) h41, bnd_mk, tp']
    unfold f_X12_joins_4
    rcases hop with rfl | ⟨rfl, rfl⟩
    · rw [if_pos (show nI 38 = 38 from rfl), e22]
      simp (config := {decide := true}) only [shT_225 hS, ne_eq, not_false_eq_true, and_self, and_true, true_and, and_false, false_and, true_or, or_true, false_or, or_false, not_true_eq_false, if_false, if_true]
    · rw [if_neg (show ¬ nI 124 = 38 by decide), if_neg (show ¬ nI 1 = 0 by decide), e_topR hS (by omega) h41, bnd_mk, tp']
      unfold f_X12_joins_17
      rw [if_pos (show nI 124 = 124 from rfl), e22]
      simp (config := {decide := true}) only [shT_225 hS, ne_eq, not_false_eq_true, and_self, and_true, true_and, and_false, false_and, true_or, or_true, false_or, or_false, not_true_eq_false, if_false, if_true]
  · rw [gI_sI, if_neg (by omega), Fr_at e2 (by omega)]; exact h35
  · rw [gI_sI, if_neg (by omega), Fr_at e2 (by omega)]; exact h37
  · rw [gI_sI, if_neg (by omega)]; exact e3
  · rw [gI_sI, if_neg (by omega), Fr_at e2 (by omega)]; exact h40
  · show gI (sI m1 225 41 (nI h)) 251 c = nI op
    rw [gI_sI, if_neg (by omega)]
    exact e4
def PkR (D : Nat → Nat → Int32) (i j : Nat) (M : Option VC) : Prop := match M with
  | none => i = j
  | some q => RE D i j (tV q)
theorem PkR_congr {D D' : Nat → Nat → Int32} {i j : Nat} {M : Option VC} (h : PkR D i j M) (hC : ∀ x, i ≤ x → x < j → D' 4 x = D 4 x ∧ D' 5 x = D 5 x) : PkR D' i j M := by
  cases M with
  | none => exact h
  | some q => exact RE_congr h hC
theorem PkR_le {D : Nat → Nat → Int32} {i j : Nat} {M : Option VC} (h : PkR D i j M) : i ≤ j := by
  cases M with
  | none => exact Nat.le_of_eq h
  | some q => exact Nat.le_of_lt h.1
theorem j_pend {m : Mm} {n : Nat} {s : Nat → Nat} {a cm c0 c h k pl op : Nat} (hpl : pl = 0 ∨ pl = 1) (hop : op = 38 ∨ (pl = 1 ∧ op = 124)) {M : Option VC} {T : VC} (hR : RS m n s a c (h + pc M) k) (hM : PkR (rwD m) cm c0 M) (hok : ∀ q, M = some q → gI m 253 h = nI op) (hV : RE (rwD m) c0 c (tV T)) (hc : c + pc M ≤ a) : ∃ m1, (∀ N o, f_X12_joins_0 (N + pc M) 225 (nI pl) m o = f_X12_joins_0 N 225 (nI pl) m1 o) ∧ RS m1 n s a (c + pc M) h k ∧ Fr (fun q i => (q = 225 ∧ (i = 39 ∨ i = 41)) ∨ ((q = 251 ∨ q = 252) ∧ i = c)) m m1 ∧ RE (rwD m1) cm (c + pc M) (tV (jC op M T)) := by
  cases M with
  | none =>
    have hM : cm = c0 := hM
    subst hM
    exact ⟨m, fun N o => rfl, hR, Fr_refl _ _, hV⟩
  | some q =>
    have hL : RE (rwD m) cm c0 (tV q) := hM
    have o2 := hok q rfl
    have hc : c + 1 ≤ a := hc
    obtain ⟨m1, p1, p2, p3, p4⟩ := j_pop hR hpl hop o2 (by omega)
    have rows : ∀ x, x < c → rwD m1 4 x = rwD m 4 x ∧ rwD m1 5 x = rwD m 5 x := fun x hx => by
      constructor
      · show gI m1 251 x = gI m 251 x
        exact Fr_at p3 (by omega)
      · show gI m1 252 x = gI m 252 x
        exact Fr_at p3 (by omega)
    have l1 := hL.1
    have l2 := hV.1
    have ej : jC op (some q) T = if op = 38 then tAnd q T else tOr q T := by
      show cmb op q T = _
      unfold cmb
      split <;> rfl
    rw [ej]
    exact ⟨m1, p1, p2, p3, RE_andor (RE_congr hL (fun x _ b => rows x (by omega))) (RE_congr hV (fun x _ b => rows x b)) (by omega) p4⟩
/-! where the other side stands while it reads a condition -/
def rfC (h c q i : Nat) : Prop := rfP h c q i ∨ (q = 225 ∧ i = 42)
theorem rfC_A {h c q i : Nat} (hp : rfC h c q i) : rfA q i := by unfold rfC rfP at hp; unfold rfA; omega
theorem rfC_le {h h' c c' q i : Nat} (hp : rfC h' c' q i) (hh : h ≤ h') (hc : c ≤ c') : rfC h c q i := by unfold rfC rfP at *; omega
def PSt (N1 N : Nat) (m : Mm) (o : Prop) : Unit × Mm × Prop := bnd (f_X12_pieceOfC_0 N1 225 m o) (fun _ m1 o1 => f_X12_condition_59 (f_X12_condition_37 N) 225 1 m1 o1)
def KSt (b N : Nat) (m : Mm) (o : Prop) : Unit × Mm × Prop := if b = 1 then f_X12_condition_59 (f_X12_condition_37 N) 225 1 m o else f_X12_condition_37 N 225 0 m o
def ESt (b N2 N : Nat) (m : Mm) (o : Prop) : Unit × Mm × Prop := bnd (f_X12_ends_0 N2 225 m o) (fun _ m1 o1 => KSt b N m1 o1)
def GSt (N : Nat) (m : Mm) (o : Prop) : Unit × Mm × Prop := bnd (F_X12_goesBehind 225 m o) (fun v1 m1 o1 => f_X12_condition_37 N 225 v1 m1 o1)
def JSt (N : Nat) (m : Mm) (o : Prop) : Unit × Mm × Prop := bnd (f_X12_goesBehind_61 225 m o) (fun v1 m1 o1 => f_X12_condition_37 N 225 v1 m1 o1)
theorem c_bad {m : Mm} (hS : Sh m) (h37 : ¬ gI m 225 37 = 0) (N : Nat) (l : Int32) (o : Prop) : f_X12_condition_37 (N + 1) 225 l m o = ((), m, o) := by
  show f_X12_condition_37b (f_X12_condition_37 N) 225 l m o = _
  unfold f_X12_condition_37b
  rw [e_bad hS h37, bnd_mk]
  unfold f_X12_condition_41 f_X12_condition_74
  rw [if_pos rfl]
  simp (config := {decide := true}) only [shT_225 hS, ne_eq, not_false_eq_true, and_self, and_true, true_and, and_false, false_and, true_or, or_true, false_or, or_false, not_true_eq_false, if_false, if_true]
theorem c_fail {m : Mm} (hS : Sh m) (h37 : ¬ gI m 225 37 = 0) (N : Nat) (o : Prop) : f_X12_condition_59 (f_X12_condition_37 (N + 1)) 225 1 m o = ((), m, o) := by
  unfold f_X12_condition_59
  rw [e_bad hS h37, bnd_mk]
  unfold f_X12_condition_63
  rw [if_pos rfl, c_bad hS h37]
  simp (config := {decide := true}) only [shT_225 hS, ne_eq, not_false_eq_true, and_self, and_true, true_and, and_false, false_and, true_or, or_true, false_or, or_false, not_true_eq_false, if_false, if_true]
/-- the loop of ! at its end -/
theorem e_end {m : Mm} {n : Nat} {s : Nat → Nat} {a c h k : Nat} (hR : RS m n s a c h k) (h42 : gI m 225 42 = 0) (ht : ¬ tpv m h = 33) {b N2 N : Nat} (hb : b ≤ 1) (hN2 : 0 < N2) (hN : n + 4 ≤ a + N + b) : ∃ N', (∀ o, ESt b N2 N m o = GSt N' m o) ∧ n + 3 ≤ a + N' := by
  obtain ⟨hB, h35, h37, h39, h40, h41, b1, b2, b3⟩ := id hR
  have hS := hB.1
  have hn := hB.2.2.1
  obtain ⟨N2, rfl⟩ : ∃ N', N2 = N' + 1 := ⟨N2 - 1, by omega⟩
  have eE : ∀ o, f_X12_ends_0 (N2 + 1) 225 m o = ((), m, o) := fun o => by
    show f_X12_ends_0b (f_X12_ends_0 N2) 225 m o = _
    unfold f_X12_ends_0b
    rw [e_topR hS (by omega) h41, bnd_mk]
    unfold f_X12_ends_4
    rw [if_neg ht]
    simp (config := {decide := true}) only [shT_225 hS, ne_eq, not_false_eq_true, and_self, and_true, true_and, and_false, false_and, true_or, or_true, false_or, or_false, not_true_eq_false, if_false, if_true]
  have e59 : ∀ N l o, f_X12_condition_59 (f_X12_condition_37 N) 225 l m o = GSt N m o := fun N l o => by
    unfold f_X12_condition_59
    rw [e_good hS h37, bnd_mk]
    unfold f_X12_condition_63 f_X12_condition_70
    rw [if_neg (by decide)]
    unfold GSt
    simp (config := {decide := true}) only [shT_225 hS, ne_eq, not_false_eq_true, and_self, and_true, true_and, and_false, false_and, true_or, or_true, false_or, or_false, not_true_eq_false, if_false, if_true]
  by_cases q : b = 1
  · refine ⟨N, fun o => ?_, by omega⟩
    unfold ESt
    rw [eE, bnd_mk]
    unfold KSt
    rw [if_pos q, e59]
  · obtain ⟨N, rfl⟩ : ∃ N', N = N' + 1 := ⟨N - 1, by omega⟩
    refine ⟨N, fun o => ?_, by omega⟩
    unfold ESt
    rw [eE, bnd_mk]
    unfold KSt
    rw [if_neg q]
    show f_X12_condition_37b (f_X12_condition_37 N) 225 0 m o = _
    unfold f_X12_condition_37b
    rw [e_good hS h37, bnd_mk]
    unfold f_X12_condition_41
    rw [if_neg (by decide), if_pos h42, if_pos rfl, e59]
    simp (config := {decide := true}) only [shT_225 hS, ne_eq, not_false_eq_true, and_self, and_true, true_and, and_false, false_and, true_or, or_true, false_or, or_false, not_true_eq_false, if_false, if_true]
/-- one ! taken -/
theorem e_not {m : Mm} {n : Nat} {s : Nat → Nat} {a c h k : Nat} (hR : RS m n s a c (h + 1) (k + 1)) (tp : gI m 253 h = nI 33) (hc : c < a) : ∃ m', (∀ b N2 N o, ESt b (N2 + 1) N m o = ESt b N2 N m' o) ∧ RS m' n s a (c + 1) h k ∧ Fr (fun q i => (q = 225 ∧ (i = 39 ∨ i = 40 ∨ i = 41)) ∨ ((q = 251 ∨ q = 252) ∧ i = c)) m m' ∧ rwD m' 4 c = 2 := by
  obtain ⟨hB, h35, h37, h39, h40, h41, b1, b2, b3⟩ := id hR
  have hS := hB.1
  have hn := hB.2.2.1
  obtain ⟨m1, e1, e2, e3, e4, e5⟩ := e_emit hS h37 (show c < 200 by omega) h39 2 0
  have S1 := Fr_Sh e2 hS
  have g41 : gI m1 225 41 = nI (h + 1) := by rw [Fr_at e2 (by omega)]; exact h41
  have g40 : gI (sI m1 225 41 (nI h)) 225 40 = nI (k + 1) := by rw [gI_sI, if_neg (by omega), Fr_at e2 (by omega)]; exact h40
  have F1 : Fr (fun q i => (q = 225 ∧ (i = 39 ∨ i = 40 ∨ i = 41)) ∨ ((q = 251 ∨ q = 252) ∧ i = c)) m (sI (sI m1 225 41 (nI h)) 225 40 (nI k)) := Fr_sI (Fr_sI (Fr_mono e2 (fun q i y => by omega)) (by omega) _) (by omega) _
  have tp' : tpv m (h + 1) = 33 := by
    unfold tpv
    rw [if_neg (by omega), Nat.add_sub_cancel]
    exact tp
  refine ⟨sI (sI m1 225 41 (nI h)) 225 40 (nI k), fun b N2 N o => ?_, ⟨RB_Fr hB (Fr_mono F1 (fun q i y => by unfold rfA; omega)), ?_, ?_, ?_, by rw [gI_sI, if_pos ⟨rfl, rfl⟩], by rw [gI_sI, if_neg (by omega), gI_sI, if_pos ⟨rfl, rfl⟩], b1, by omega, by omega⟩, F1, ?_⟩
  · have eE : ∀ o, f_X12_ends_0 (N2 + 1) 225 m o = f_X12_ends_0 N2 225 (sI (sI m1 225 41 (nI h)) 225 40 (nI k)) o := fun o => by
      show f_X12_ends_0b (f_X12_ends_0 N2) 225 m o = _
      unfold f_X12_ends_0b
      rw [e_topR hS (by omega) h41, bnd_mk, tp']
      unfold f_X12_ends_4
      rw [if_pos rfl, e1, bnd_mk]
      unfold f_X12_ends_15
      rw [g41, nI_sub1 (by omega), Nat.add_sub_cancel]
      unfold f_X12_ends_25 f_X12_ends_35
      rw [g40, nI_sub1 (by omega), Nat.add_sub_cancel]
      simp (config := {decide := true}) only [gT_sI, shT_225 hS, shT_225 S1, ne_eq, not_false_eq_true, and_self, and_true, true_and, and_false, false_and, true_or, or_true, false_or, or_false, not_true_eq_false, if_false, if_true]
    unfold ESt
    rw [eE]
  · rw [gI_sI, if_neg (by omega), gI_sI, if_neg (by omega), Fr_at e2 (by omega)]; exact h35
  · rw [gI_sI, if_neg (by omega), gI_sI, if_neg (by omega), Fr_at e2 (by omega)]; exact h37
  · rw [gI_sI, if_neg (by omega), gI_sI, if_neg (by omega)]; exact e3
  · show gI (sI (sI m1 225 41 (nI h)) 225 40 (nI k)) 251 c = 2
    rw [gI_sI, if_neg (by omega), gI_sI, if_neg (by omega)]
    exact e4
