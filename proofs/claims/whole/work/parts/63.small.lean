/-! ===== the small tests of both sides ===== -/
def bI (p : Prop) [Decidable p] : Int32 := if p then 1 else 0
theorem bI_01 (p : Prop) [Decidable p] : (bI p = 0 ∨ bI p = 1) = True := by
  unfold bI; by_cases h : p <;> simp [h]
theorem bI_0 (p : Prop) [Decidable p] : (bI p = 0) = ¬ p := by
  unfold bI; by_cases h : p <;> simp [h]
theorem i32_nlt (a b : Int32) : (¬ a < b) ↔ b ≤ a := by
  rw [Int32.lt_iff_toInt_lt, Int32.le_iff_toInt_le]; omega
theorem e_isWithin (a lo hi : Int32) (m : Mm) (o : Prop) : F_X11_isWithin a lo hi m o = (bI (lo ≤ a ∧ a ≤ hi), m, o) := by
  unfold F_X11_isWithin f_X11_isWithin_0 f_X11_isWithin_14 f_X11_isWithin_15 bI
  by_cases h1 : a < lo
  · have : ¬ (lo ≤ a ∧ a ≤ hi) := by rw [← i32_nlt]; exact fun h => h.1 h1
    simp [h1, this]
  · by_cases h2 : hi < a
    · have : ¬ (lo ≤ a ∧ a ≤ hi) := by rw [← i32_nlt hi a]; exact fun h => h.2 h2
      simp [h1, h2, this]
    · have : lo ≤ a ∧ a ≤ hi := ⟨(i32_nlt a lo).mp h1, (i32_nlt hi a).mp h2⟩
      simp [h1, h2, this]
theorem e_lies (a lo hi : Int32) (m : Mm) (o : Prop) : F_X12_lies (Int32.toInt64 a) (Int32.toInt64 lo) (Int32.toInt64 hi) m o = (bI (lo ≤ a ∧ a ≤ hi), m, o) := by
  have q1 : (lg_cmp (Int32.toInt64 a) (Int32.toInt64 lo) < 0) ↔ a < lo := by
    rw [lg_cmp_lt, Int64.lt_iff_toInt_lt, Int32.lt_iff_toInt_lt, Int32.toInt_toInt64, Int32.toInt_toInt64]
  have q2 : (0 < lg_cmp (Int32.toInt64 a) (Int32.toInt64 hi)) ↔ hi < a := by
    rw [lg_cmp_gt, Int64.lt_iff_toInt_lt, Int32.lt_iff_toInt_lt, Int32.toInt_toInt64, Int32.toInt_toInt64]
  unfold F_X12_lies f_X12_lies_0 f_X12_lies_17 f_X12_lies_18 bI
  by_cases h1 : a < lo
  · have : ¬ (lo ≤ a ∧ a ≤ hi) := by rw [← i32_nlt]; exact fun h => h.1 h1
    simp [q1, h1, this]
  · by_cases h2 : hi < a
    · have : ¬ (lo ≤ a ∧ a ≤ hi) := by rw [← i32_nlt hi a]; exact fun h => h.2 h2
      simp [q1, q2, h1, h2, this]
    · have : lo ≤ a ∧ a ≤ hi := ⟨(i32_nlt a lo).mp h1, (i32_nlt hi a).mp h2⟩
      simp [q1, q2, h1, h2, this]
theorem e_isColour (a : Int32) (m : Mm) (o : Prop) : F_X11_isColour a m o = (bI (0 ≤ a ∧ a ≤ 4), m, o) := by
  unfold F_X11_isColour f_X11_isColour_0 bnd f_X11_isColour_6
  simp only [e_isWithin, bI_01, and_true]
theorem e_isColourM (a : Int32) (m : Mm) (o : Prop) : F_X12_isColour a m o = (bI (0 ≤ a ∧ a ≤ 4), m, o) := by
  have h := e_lies a 0 4 m o
  rw [show Int32.toInt64 0 = 0 by decide, show Int32.toInt64 4 = 4 by decide] at h
  unfold F_X12_isColour f_X12_isColour_0 bnd f_X12_isColour_9
  simp only [h, bI_01, and_true]
theorem e_isSideM (a : Int32) (m : Mm) (o : Prop) : F_X12_isSide a m o = (bI (0 ≤ a ∧ a ≤ 9), m, o) := by
  have h := e_lies a 0 9 m o
  rw [show Int32.toInt64 0 = 0 by decide, show Int32.toInt64 9 = 9 by decide] at h
  unfold F_X12_isSide f_X12_isSide_0 bnd f_X12_isSide_9
  simp only [h, bI_01, and_true]
theorem e_isFullM (a : Int32) (m : Mm) (o : Prop) : F_X12_isFull a m o = (bI (0 ≤ a ∧ a ≤ 99), m, o) := by
  have h := e_lies a 0 99 m o
  rw [show Int32.toInt64 0 = 0 by decide, show Int32.toInt64 99 = 99 by decide] at h
  unfold F_X12_isFull f_X12_isFull_0 bnd f_X12_isFull_9
  simp only [h, bI_01, and_true]
theorem e_areDaysM (a : Int32) (m : Mm) (o : Prop) : F_X12_areDays a m o = (bI (1 ≤ a ∧ a ≤ 20), m, o) := by
  have h := e_lies a 1 20 m o
  rw [show Int32.toInt64 1 = 1 by decide, show Int32.toInt64 20 = 20 by decide] at h
  unfold F_X12_areDays f_X12_areDays_0 bnd f_X12_areDays_9
  simp only [h, bI_01, and_true]
theorem e_isSquare (a b : Int32) (m : Mm) (o : Prop) : F_X11_isSquare a b m o = (bI ((0 ≤ a ∧ a ≤ 9) ∧ (0 ≤ b ∧ b ≤ 9)), m, o) := by
  unfold F_X11_isSquare f_X11_isSquare_0 bnd f_X11_isSquare_7 bnd f_X11_isSquare_17 f_X11_isSquare_24 f_X11_isSquare_25
  simp only [e_isWithin, bI_0]
  by_cases h1 : 0 ≤ a ∧ a ≤ 9 <;> by_cases h2 : 0 ≤ b ∧ b ≤ 9 <;> simp [h1, h2, bI]
/-! the shape, place by place -/
theorem sh_T {m : Mm} (h : Sh m) (q : Nat) {t : Nat} (hq : q < 281) (ht : tT q = t) : gT m q = t := (h.1 q hq).trans ht
theorem sh_N {m : Mm} (h : Sh m) (q : Nat) {t : Nat} (hq : q < 281) (ht : tN q = t) : gN m q = t := (h.2.1 q hq).trans ht
theorem sh_R {m : Mm} (h : Sh m) (i : Nat) {q j v : Nat} (hi : tRl[i]? = some (q, j, v)) : gR m q j = v := h.2.2.1 _ (List.mem_of_getElem? hi)
theorem Sh_sI {m : Mm} (h : Sh m) (q i : Nat) (v : Int32) : Sh (sI m q i v) := h
theorem Sh_sL {m : Mm} (h : Sh m) (q i : Nat) (v : Int64) : Sh (sL m q i v) := h
theorem sh_1 {m : Mm} (h : Sh m) : gT m 1 = 11 := sh_T h 1 (by decide) rfl
theorem sh_225 {m : Mm} (h : Sh m) : gT m 225 = 12 := sh_T h 225 (by decide) rfl
theorem sh_2 {m : Mm} (h : Sh m) : gT m 2 = 6 := sh_T h 2 (by decide) rfl
theorem sh_r10 {m : Mm} (h : Sh m) : gR m 1 0 = 2 := sh_R h 0 rfl
theorem e_hasStack (a : Int32) {m : Mm} (h : Sh m) (o : Prop) : F_X11_hasStack 1 a m o = (bI (0 ≤ a ∧ a ≤ gI m 2 6 - 1), m, o) := by
  unfold F_X11_hasStack f_X11_hasStack_0 bnd f_X11_hasStack_14
  simp only [sh_r10 h, sh_1 h, sh_2 h, e_isWithin, bI_01, and_true, ne_eq]
  simp
theorem e_hasCow (a : Int32) {m : Mm} (h : Sh m) (o : Prop) : F_X11_hasCow 1 a m o = (bI (0 ≤ a ∧ a ≤ gI m 2 7 - 1), m, o) := by
  unfold F_X11_hasCow f_X11_hasCow_0 bnd f_X11_hasCow_14
  simp only [sh_r10 h, sh_1 h, sh_2 h, e_isWithin, bI_01, and_true, ne_eq]
  simp
theorem e_isStackM (a : Int32) {m : Mm} (h : Sh m) (o : Prop) : F_X12_isStack 225 a m o = (bI (0 ≤ a ∧ a ≤ gI m 225 2 - 1), m, o) := by
  have q := e_lies a 0 (gI m 225 2 - 1) m o
  rw [show Int32.toInt64 0 = 0 by decide] at q
  unfold F_X12_isStack f_X12_isStack_0 bnd f_X12_isStack_13
  simp only [sh_225 h, and_true, q, bI_01]
theorem e_isCowM (a : Int32) {m : Mm} (h : Sh m) (o : Prop) : F_X12_isCow 225 a m o = (bI (0 ≤ a ∧ a ≤ gI m 225 3 - 1), m, o) := by
  have q := e_lies a 0 (gI m 225 3 - 1) m o
  rw [show Int32.toInt64 0 = 0 by decide] at q
  unfold F_X12_isCow f_X12_isCow_0 bnd f_X12_isCow_13
  simp only [sh_225 h, and_true, q, bI_01]
