/-! ===== the other side's reader, small things =====
225: 35 place, 36 end, 37 bad, 38 clauses, 39 codes, 40 open, 41 stacked, 42 isOver, 43 isBehind; 247 .. 252 new rows, 253 pile -/
def RB (m : Mm) (n : Nat) (s : Nat → Nat) : Prop := Sh m ∧ gI m 225 36 = nI n ∧ n ≤ 200 ∧ (∀ x, x < n → gI m 226 x &&& 255 = nI (s x) ∧ s x < 256) ∧ ∀ x, n ≤ x → s x = 0
def rfA (q i : Nat) : Prop := (q = 225 ∧ (i = 35 ∨ i = 37 ∨ i = 39 ∨ i = 40 ∨ i = 41 ∨ i = 42 ∨ i = 43)) ∨ (251 ≤ q ∧ q ≤ 253)
def rfP (h c q i : Nat) : Prop := (q = 225 ∧ (i = 35 ∨ i = 37 ∨ i = 39 ∨ i = 40 ∨ i = 41 ∨ i = 43)) ∨ (q = 253 ∧ h ≤ i) ∨ ((q = 251 ∨ q = 252) ∧ c ≤ i)
theorem rfP_le {h h' c c' q i : Nat} (hp : rfP h' c' q i) (hh : h ≤ h') (hc : c ≤ c') : rfP h c q i := by unfold rfP at *; omega
theorem rfP_A {h c q i : Nat} (hp : rfP h c q i) : rfA q i := by unfold rfP at hp; unfold rfA; omega
theorem RB_Fr {m m' : Mm} {n : Nat} {s : Nat → Nat} (h : RB m n s) (hF : Fr rfA m m') : RB m' n s := by
  obtain ⟨h1, h2, h3, h4, h5⟩ := h
  exact ⟨Fr_Sh hF h1, by rw [Fr_at hF (by unfold rfA; omega)]; exact h2, h3, fun x hx => by rw [Fr_at hF (by unfold rfA; omega)]; exact h4 x hx, h5⟩
theorem RB_256 {m : Mm} {n : Nat} {s : Nat → Nat} (h : RB m n s) (x : Nat) : s x < 256 := by
  by_cases q : x < n
  · exact (h.2.2.2.1 x q).2
  · rw [h.2.2.2.2 x (by omega)]; omega
def RS (m : Mm) (n : Nat) (s : Nat → Nat) (a c h k : Nat) : Prop := RB m n s ∧ gI m 225 35 = nI a ∧ gI m 225 37 = 0 ∧ gI m 225 39 = nI c ∧ gI m 225 40 = nI k ∧ gI m 225 41 = nI h ∧ a ≤ n ∧ c ≤ a ∧ h ≤ a
/-- bad, as it is told -/
def bdv (e : Nat × Nat) : Int32 := -1000 * nI e.1 - nI e.2
theorem bdv_neg {e : Nat × Nat} (h1 : 1 ≤ e.1) (h2 : e.1 ≤ 5) (h3 : e.2 ≤ 200) : ¬ 0 ≤ bdv e ∧ ¬ bdv e = 0 := by
  have a1 : ((-1000 : Int32) * nI e.1).toInt = -1000 * (e.1 : Int) := by
    have := fb_mulI (x := -1000) (y := nI e.1) (by rw [nI_toInt (by omega), show (-1000 : Int32).toInt = -1000 by decide]; omega) (by rw [nI_toInt (by omega), show (-1000 : Int32).toInt = -1000 by decide]; omega)
    rw [this, nI_toInt (by omega), show (-1000 : Int32).toInt = -1000 by decide]
  have a2 : (bdv e).toInt = -1000 * (e.1 : Int) - e.2 := by
    have := fb_subI (x := -1000 * nI e.1) (y := nI e.2) (by rw [a1, nI_toInt (by omega)]; omega) (by rw [a1, nI_toInt (by omega)]; omega)
    unfold bdv
    rw [this, a1, nI_toInt (by omega)]
  have z : (0 : Int32).toInt = 0 := by decide
  refine ⟨fun y => ?_, fun y => ?_⟩
  · rw [Int32.le_iff_toInt_le, a2, z] at y; omega
  · rw [y, z] at a2; omega
/-- how reading ends at a fault -/
def RF (m m' : Mm) (e : Nat × Nat) : Prop := Fr rfA m m' ∧ gI m' 225 37 = bdv e ∧ 1 ≤ e.1 ∧ e.1 ≤ 5 ∧ e.2 ≤ 200
theorem RF_bad {m m' : Mm} {e : Nat × Nat} (h : RF m m' e) : ¬ gI m' 225 37 = 0 := by
  rw [h.2.1]
  exact (bdv_neg h.2.2.1 h.2.2.2.1 h.2.2.2.2).2
theorem RF_pre {m m1 m' : Mm} {e : Nat × Nat} (hF : Fr rfA m m1) (h : RF m1 m' e) : RF m m' e := ⟨Fr_trans hF h.1, h.2⟩
theorem RF_post {m m1 m' : Mm} {e : Nat × Nat} (h : RF m m1 e) (hF : Fr rfA m1 m') (h37 : gI m' 225 37 = gI m1 225 37) : RF m m' e := ⟨Fr_trans h.1 hF, h37.trans h.2.1, h.2.2⟩
theorem e_good {m : Mm} (h : Sh m) (h37 : gI m 225 37 = 0) (o : Prop) : F_X12_isGood 225 m o = (1, m, o) := by
  simp (config := {decide := true}) only [F_X12_isGood, f_X12_isGood_0, f_X12_isGood_12, h37, shT_225 h, ne_eq, not_false_eq_true, and_self, and_true, true_and, and_false, false_and, true_or, or_true, false_or, or_false, not_true_eq_false, if_false, if_true]
theorem e_bad {m : Mm} (h : Sh m) (h37 : ¬ gI m 225 37 = 0) (o : Prop) : F_X12_isGood 225 m o = (0, m, o) := by
  simp (config := {decide := true}) only [F_X12_isGood, f_X12_isGood_0, f_X12_isGood_12, h37, shT_225 h, ne_eq, not_false_eq_true, and_self, and_true, true_and, and_false, false_and, true_or, or_true, false_or, or_false, not_true_eq_false, if_false, if_true]
theorem e_hereB {m : Mm} {n : Nat} {s : Nat → Nat} (hB : RB m n s) {a : Nat} (han : a ≤ 210) (h35 : gI m 225 35 = nI a) (o : Prop) : F_X12_here 225 m o = (nI (s a), m, o) := by
  obtain ⟨hS, h36, hn, ht, hz⟩ := hB
  unfold F_X12_here f_X12_here_0 f_X12_here_28
  rw [h36, h35]
  by_cases q : a < n
  · have i1 : vp_in (nI a) 220 := vp_in_nI (by omega) (by omega)
    rw [if_neg (nI_ge q (by omega))]
    simp (config := {decide := true}) only [shT_225 hS, shR_225_0 hS, shT_226 hS, shN_226 hS, i1, ix_nI (show a < 2 ^ 31 by omega), (ht a q).1, ne_eq, not_false_eq_true, and_self, and_true, true_and, and_false, false_and, true_or, or_true, false_or, or_false, not_true_eq_false, if_false, if_true]
  · rw [if_pos (nI_le (by omega) (by omega)), hz a (by omega)]
    simp (config := {decide := true}) only [shT_225 hS, ne_eq, not_false_eq_true, and_self, and_true, true_and, and_false, false_and, true_or, or_true, false_or, or_false, not_true_eq_false, if_false, if_true]
    rfl
theorem e_here {m : Mm} {n : Nat} {s : Nat → Nat} {a c h k : Nat} (hR : RS m n s a c h k) (o : Prop) : F_X12_here 225 m o = (nI (s a), m, o) := e_hereB hR.1 (by have := hR.2.2.2.2.2.2.1; have := hR.1.2.2.1; omega) hR.2.1 o
def tpv (m : Mm) (h : Nat) : Int32 := if h = 0 then 0 else gI m 253 (h - 1)
theorem e_topR {m : Mm} (hS : Sh m) {h : Nat} (hh : h ≤ 240) (h41 : gI m 225 41 = nI h) (o : Prop) : F_X12_top 225 m o = (tpv m h, m, o) := by
  unfold F_X12_top f_X12_top_0 f_X12_top_22 tpv
  rw [h41]
  by_cases q : h = 0
  · rw [if_pos (by rw [q]; decide), if_pos q]
    simp (config := {decide := true}) only [shT_225 hS, ne_eq, not_false_eq_true, and_self, and_true, true_and, and_false, false_and, true_or, or_true, false_or, or_false, not_true_eq_false, if_false, if_true]
  · have i1 : vp_in (nI (h - 1)) 240 := vp_in_nI (by omega) (by omega)
    rw [if_neg (show ¬ nI h ≤ 0 from nI_ge (a := 0) (by omega) (by omega)), if_neg q, nI_sub1 (by omega)]
    simp (config := {decide := true}) only [shT_225 hS, shR_225_44 hS, shT_253 hS, shN_253 hS, i1, ix_nI (show h - 1 < 2 ^ 31 by omega), ne_eq, not_false_eq_true, and_self, and_true, true_and, and_false, false_and, true_or, or_true, false_or, or_false, not_true_eq_false, if_false, if_true]
theorem e_wrongs {m : Mm} (hS : Sh m) (h37 : gI m 225 37 = 0) (f p : Nat) (o : Prop) : F_X12_wrongs 225 (nI f) (nI p) m o = ((), sI m 225 37 (bdv (f, p)), o) := by
  have z : (0 : Int32) ≤ 0 := by decide
  simp (config := {decide := true}) only [F_X12_wrongs, f_X12_wrongs_0, f_X12_wrongs_22, f_X12_wrongs_25, h37, z, shT_225 hS, bdv, ne_eq, not_false_eq_true, and_self, and_true, true_and, and_false, false_and, true_or, or_true, false_or, or_false, not_true_eq_false, if_false, if_true]
/-- a fault here -/
theorem RF_here {m : Mm} {n : Nat} {s : Nat → Nat} {a c h k : Nat} (hR : RS m n s a c h k) {f : Nat} (h1 : 1 ≤ f) (h2 : f ≤ 5) : RF m (sI m 225 37 (bdv (f, a))) (f, a) := by
  have := hR.2.2.2.2.2.2.1
  have := hR.1.2.2.1
  exact ⟨Fr_sI (Fr_refl _ m) (.inl ⟨rfl, .inr (.inl rfl)⟩) _, by rw [gI_sI, if_pos ⟨rfl, rfl⟩], h1, h2, by show a ≤ 200; omega⟩
theorem e_putsB {m : Mm} (hS : Sh m) {a h : Nat} (hh : h < 240) (h35 : gI m 225 35 = nI a) (h41 : gI m 225 41 = nI h) (ch : Int32) (o : Prop) : F_X12_puts 225 ch m o = ((), sI (sI (sI m 253 h ch) 225 41 (nI (h + 1))) 225 35 (nI (a + 1)), o) := by
  have i1 : vp_in (nI h) 240 := vp_in_nI (by omega) (by omega)
  simp (config := {decide := true}) only [F_X12_puts, f_X12_puts_0, f_X12_puts_10, f_X12_puts_20, f_X12_puts_30, gT_sI, gN_sI, gR_sI, gI_sI, h35, h41, shT_225 hS, shR_225_44 hS, shT_253 hS, shN_253 hS, i1, ix_nI (show h < 2 ^ 31 by omega), nI_1, ne_eq, not_false_eq_true, and_self, and_true, true_and, and_false, false_and, true_or, or_true, false_or, or_false, not_true_eq_false, if_false, if_true]
theorem e_puts {m : Mm} {n : Nat} {s : Nat → Nat} {a c h k : Nat} (hR : RS m n s a c h k) (han : a < n) (ch : Int32) : ∃ m', (∀ o, F_X12_puts 225 ch m o = ((), m', o)) ∧ RS m' n s (a + 1) c (h + 1) k ∧ Fr (rfP h c) m m' ∧ gI m' 253 h = ch ∧ gI m' 225 43 = gI m 225 43 ∧ gI m' 225 42 = gI m 225 42 := by
  obtain ⟨hB, h35, h37, h39, h40, h41, b1, b2, b3⟩ := id hR
  have hn := hB.2.2.1
  have F : Fr (rfP h c) m (sI (sI (sI m 253 h ch) 225 41 (nI (h + 1))) 225 35 (nI (a + 1))) := Fr_sI (Fr_sI (Fr_sI (Fr_refl _ m) (by unfold rfP; omega) _) (by unfold rfP; omega) _) (by unfold rfP; omega) _
  refine ⟨_, e_putsB hB.1 (by omega) h35 h41 ch, ⟨RB_Fr hB (Fr_mono F (fun q i y => rfP_A y)), by rw [gI_sI, if_pos ⟨rfl, rfl⟩], ?_, ?_, ?_, ?_, han, by omega, by omega⟩, F, ?_, ?_, ?_⟩
  · rw [gI_sI, if_neg (by omega), gI_sI, if_neg (by omega), gI_sI, if_neg (by omega)]; exact h37
  · rw [gI_sI, if_neg (by omega), gI_sI, if_neg (by omega), gI_sI, if_neg (by omega)]; exact h39
  · rw [gI_sI, if_neg (by omega), gI_sI, if_neg (by omega), gI_sI, if_neg (by omega)]; exact h40
  · rw [gI_sI, if_neg (by omega), gI_sI, if_pos ⟨rfl, rfl⟩]
  · rw [gI_sI, if_neg (by omega), gI_sI, if_neg (by omega), gI_sI, if_pos ⟨rfl, rfl⟩]
  · rw [gI_sI, if_neg (by omega), gI_sI, if_neg (by omega), gI_sI, if_neg (by omega)]
  · rw [gI_sI, if_neg (by omega), gI_sI, if_neg (by omega), gI_sI, if_neg (by omega)]
def rwD (m : Mm) : Nat → Nat → Int32 := fun k x => gI m (247 + k) x
theorem e_emit {m : Mm} (hS : Sh m) (h37 : gI m 225 37 = 0) {c : Nat} (hc : c < 200) (h39 : gI m 225 39 = nI c) (op arg : Int32) : ∃ m', (∀ o, F_X12_emit 225 op arg m o = ((), m', o)) ∧ Fr (fun q i => (q = 225 ∧ i = 39) ∨ ((q = 251 ∨ q = 252) ∧ i = c)) m m' ∧ gI m' 225 39 = nI (c + 1) ∧ rwD m' 4 c = op ∧ rwD m' 5 c = arg := by
  have i1 : vp_in (nI c) 200 := vp_in_nI (by omega) (by omega)
  refine ⟨sI (sI (sI m 251 c op) 252 c arg) 225 39 (nI (c + 1)), fun o => ?_, Fr_sI (Fr_sI (Fr_sI (Fr_refl _ m) (by omega) _) (by omega) _) (by omega) _, by rw [gI_sI, if_pos ⟨rfl, rfl⟩], ?_, ?_⟩
  · simp (config := {decide := true}) only [F_X12_emit, f_X12_emit_0, e_good hS h37, bnd, f_X12_emit_4, f_X12_emit_18, f_X12_emit_28, f_X12_emit_38, gT_sI, gN_sI, gR_sI, gI_sI, h39, shT_225 hS, shR_225_33 hS, shR_225_34 hS, shT_251 hS, shN_251 hS, shT_252 hS, shN_252 hS, i1, ix_nI (show c < 2 ^ 31 by omega), nI_1, ne_eq, not_false_eq_true, and_self, and_true, true_and, and_false, false_and, true_or, or_true, false_or, or_false, not_true_eq_false, if_false, if_true]
  · show gI _ 251 c = op
    rw [gI_sI, if_neg (by omega), gI_sI, if_neg (by omega), gI_sI, if_pos ⟨rfl, rfl⟩]
  · show gI _ 252 c = arg
    rw [gI_sI, if_neg (by omega), gI_sI, if_pos ⟨rfl, rfl⟩]
theorem e_isTimes {c : Nat} (hc : c < 256) (m : Mm) (o : Prop) : (isTm c → F_X12_isTimes (nI c) m o = (1, m, o)) ∧ (¬ isTm c → F_X12_isTimes (nI c) m o = (0, m, o)) := by
  have e : ∀ x, x < 256 → (nI c = nI x) = (c = x) := fun x hx => propext (nI_eq (by omega) (by omega))
  have e1 : (nI c = 42) = (c = 42) := e 42 (by omega)
  have e2 : (nI c = 47) = (c = 47) := e 47 (by omega)
  have e3 : (nI c = 37) = (c = 37) := e 37 (by omega)
  simp (config := {decide := true}) only [F_X12_isTimes, f_X12_isTimes_0, f_X12_isTimes_18, f_X12_isTimes_23, e1, e2, e3, isTm, ne_eq, not_false_eq_true, and_self, and_true, true_and, and_false, false_and, true_or, or_true, false_or, or_false, not_true_eq_false, if_false, if_true]
  refine ⟨fun y => ?_, fun y => ?_⟩
  · rcases y with y | y | y
    · rw [if_pos y]
    · rw [if_neg (by omega), if_pos y]
    · rw [if_neg (by omega), if_neg (by omega), if_pos y]
  · rw [if_neg (by omega), if_neg (by omega), if_neg (by omega)]
theorem e_isPlus {c : Nat} (hc : c < 256) (m : Mm) (o : Prop) : (isPl c → F_X12_isPlus (nI c) m o = (1, m, o)) ∧ (¬ isPl c → F_X12_isPlus (nI c) m o = (0, m, o)) := by
  have e : ∀ x, x < 256 → (nI c = nI x) = (c = x) := fun x hx => propext (nI_eq (by omega) (by omega))
  have e1 : (nI c = 43) = (c = 43) := e 43 (by omega)
  have e2 : (nI c = 45) = (c = 45) := e 45 (by omega)
  simp (config := {decide := true}) only [F_X12_isPlus, f_X12_isPlus_0, f_X12_isPlus_12, f_X12_isPlus_17, e1, e2, isPl, ne_eq, not_false_eq_true, and_self, and_true, true_and, and_false, false_and, true_or, or_true, false_or, or_false, not_true_eq_false, if_false, if_true]
  refine ⟨fun y => ?_, fun y => ?_⟩
  · rcases y with y | y
    · rw [if_pos y]
    · rw [if_neg (by omega), if_pos y]
  · rw [if_neg (by omega), if_neg (by omega)]
theorem e_isSign {c : Nat} (hc : c < 256) (m : Mm) (o : Prop) : (isCmp c → F_X12_isSign (nI c) m o = (1, m, o)) ∧ (¬ isCmp c → F_X12_isSign (nI c) m o = (0, m, o)) := by
  have e : ∀ x, x < 256 → (nI c = nI x) = (c = x) := fun x hx => propext (nI_eq (by omega) (by omega))
  have e1 : (nI c = 60) = (c = 60) := e 60 (by omega)
  have e2 : (nI c = 62) = (c = 62) := e 62 (by omega)
  have e3 : (nI c = 61) = (c = 61) := e 61 (by omega)
  simp (config := {decide := true}) only [F_X12_isSign, f_X12_isSign_0, f_X12_isSign_18, f_X12_isSign_23, e1, e2, e3, isCmp, ne_eq, not_false_eq_true, and_self, and_true, true_and, and_false, false_and, true_or, or_true, false_or, or_false, not_true_eq_false, if_false, if_true]
  refine ⟨fun y => ?_, fun y => ?_⟩
  · rcases y with y | y | y
    · rw [if_pos y]
    · rw [if_neg (by omega), if_pos y]
    · rw [if_neg (by omega), if_neg (by omega), if_pos y]
  · rw [if_neg (by omega), if_neg (by omega), if_neg (by omega)]
theorem lix_lt {c : Nat} : lix c < 10 ↔ (c = 104 ∨ c = 118 ∨ c = 119 ∨ c = 120 ∨ c = 107 ∨ c = 115 ∨ c = 116 ∨ c = 100 ∨ c = 98 ∨ c = 117) := by
  unfold lix
  repeat' split
  all_goals omega
theorem e_isValue {c : Nat} (hc : c < 256) (m : Mm) (o : Prop) : (lix c < 10 → F_X12_isValue (nI c) m o = (1, m, o)) ∧ (¬ lix c < 10 → F_X12_isValue (nI c) m o = (0, m, o)) := by
  have e : ∀ x, x < 256 → (nI c = nI x) = (c = x) := fun x hx => propext (nI_eq (by omega) (by omega))
  have e1 : (nI c = 104) = (c = 104) := e 104 (by omega)
  have e2 : (nI c = 118) = (c = 118) := e 118 (by omega)
  have e3 : (nI c = 119) = (c = 119) := e 119 (by omega)
  have e4 : (nI c = 120) = (c = 120) := e 120 (by omega)
  have e5 : (nI c = 107) = (c = 107) := e 107 (by omega)
  have e6 : (nI c = 115) = (c = 115) := e 115 (by omega)
  have e7 : (nI c = 116) = (c = 116) := e 116 (by omega)
  have e8 : (nI c = 100) = (c = 100) := e 100 (by omega)
  have e9 : (nI c = 98) = (c = 98) := e 98 (by omega)
  have e10 : (nI c = 117) = (c = 117) := e 117 (by omega)
  rw [lix_lt]
  simp (config := {decide := true}) only [F_X12_isValue, f_X12_isValue_0, f_X12_isValue_60, f_X12_isValue_65, e1, e2, e3, e4, e5, e6, e7, e8, e9, e10, ne_eq, not_false_eq_true, and_self, and_true, true_and, and_false, false_and, true_or, or_true, false_or, or_false, not_true_eq_false, if_false, if_true]
  refine ⟨fun y => ?_, fun y => ?_⟩
  · repeat' split
    all_goals first | rfl | omega
  · repeat' split
    all_goals first | rfl | omega
theorem lch_lix {c : Nat} (h : lix c < 10) : lch (lix c) = nI c := by
  rw [lix_lt] at h
  rcases h with rfl | rfl | rfl | rfl | rfl | rfl | rfl | rfl | rfl | rfl <;> decide
theorem e_seesDigit {m : Mm} {n : Nat} {s : Nat → Nat} (hB : RB m n s) {a : Nat} (han : a ≤ 210) (h35 : gI m 225 35 = nI a) (o : Prop) : (isDg (s a) → F_X12_seesDigit 225 m o = (1, m, o)) ∧ (¬ isDg (s a) → F_X12_seesDigit 225 m o = (0, m, o)) := by
  have hS := hB.1
  have hs := RB_256 hB a
  have hl := e_lies (nI (s a)) 48 57 m
  rw [show Int32.toInt64 48 = 48 by decide, show Int32.toInt64 57 = 57 by decide] at hl
  have c1 : ((48 : Int32) ≤ nI (s a)) = (48 ≤ s a) := propext (nI_leI (a := 48) (by omega) (by omega))
  have c2 : (nI (s a) ≤ 57) = (s a ≤ 57) := propext (nI_leI (b := 57) (by omega) (by omega))
  have cc : ((48 : Int32) ≤ nI (s a) ∧ nI (s a) ≤ 57) = isDg (s a) := by rw [c1, c2]; rfl
  have b1 : isDg (s a) → bI ((48 : Int32) ≤ nI (s a) ∧ nI (s a) ≤ 57) = 1 := fun y => if_pos (by rw [cc]; exact y)
  have b0 : ¬ isDg (s a) → bI ((48 : Int32) ≤ nI (s a) ∧ nI (s a) ≤ 57) = 0 := fun y => if_neg (by rw [cc]; exact y)
  refine ⟨fun y => ?_, fun y => ?_⟩
  · simp (config := {decide := true}) only [F_X12_seesDigit, f_X12_seesDigit_0, e_hereB hB han h35, bnd, f_X12_seesDigit_4, hl, b1 y, f_X12_seesDigit_14, shT_225 hS, ne_eq, not_false_eq_true, and_self, and_true, true_and, and_false, false_and, true_or, or_true, false_or, or_false, not_true_eq_false, if_false, if_true]
  · simp (config := {decide := true}) only [F_X12_seesDigit, f_X12_seesDigit_0, e_hereB hB han h35, bnd, f_X12_seesDigit_4, hl, b0 y, f_X12_seesDigit_14, shT_225 hS, ne_eq, not_false_eq_true, and_self, and_true, true_and, and_false, false_and, true_or, or_true, false_or, or_false, not_true_eq_false, if_false, if_true]
