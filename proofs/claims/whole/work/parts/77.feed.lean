/-! ===== feed: twenty bytes behind the tape, on both sides ===== -/
/-- k bytes B behind t: the class's tape, the other's -/
def wtC (m : Mm) (t k : Nat) (B : Nat → Int32) : Mm := uI m (fun q i => if q = 192 ∧ t ≤ i ∧ i < t + k then B (i - t) else if q = 191 ∧ i = 1 then nI (t + k) else gI m q i)
def wtM (m : Mm) (t k : Nat) (B : Nat → Int32) : Mm := uI m (fun q i => if q = 226 ∧ t ≤ i ∧ i < t + k then B (i - t) else if q = 225 ∧ i = 1 then nI (t + k) else gI m q i)
theorem wtC_1 (m : Mm) (t k : Nat) (B : Nat → Int32) : sI (sI (wtC m t k B) 192 (t + k) (B k)) 191 1 (nI (t + (k + 1))) = wtC m t (k + 1) B := by
  unfold wtC
  rw [sI_uI, sI_uI]
  refine uI_ext (fun q i => ?_)
  by_cases h1 : q = 191 ∧ i = 1
  · rw [if_pos h1, if_neg (by omega), if_pos h1]
  · rw [if_neg h1]
    by_cases h2 : q = 192 ∧ i = t + k
    · obtain ⟨rfl, rfl⟩ := h2
      rw [if_pos ⟨rfl, rfl⟩, if_pos ⟨rfl, by omega, by omega⟩, Nat.add_sub_cancel_left]
    · rw [if_neg h2]
      by_cases h3 : q = 192 ∧ t ≤ i ∧ i < t + k
      · rw [if_pos h3, if_pos ⟨h3.1, h3.2.1, by omega⟩]
      · rw [if_neg h3, if_neg h1, if_neg (by omega)]; rw [if_neg h1]
theorem wtM_1 (m : Mm) (t k : Nat) (B : Nat → Int32) : sI (sI (wtM m t k B) 226 (t + k) (B k)) 225 1 (nI (t + (k + 1))) = wtM m t (k + 1) B := by
  unfold wtM
  rw [sI_uI, sI_uI]
  refine uI_ext (fun q i => ?_)
  by_cases h1 : q = 225 ∧ i = 1
  · rw [if_pos h1, if_neg (by omega), if_pos h1]
  · rw [if_neg h1]
    by_cases h2 : q = 226 ∧ i = t + k
    · obtain ⟨rfl, rfl⟩ := h2
      rw [if_pos ⟨rfl, rfl⟩, if_pos ⟨rfl, by omega, by omega⟩, Nat.add_sub_cancel_left]
    · rw [if_neg h2]
      by_cases h3 : q = 226 ∧ t ≤ i ∧ i < t + k
      · rw [if_pos h3, if_pos ⟨h3.1, h3.2.1, by omega⟩]
      · rw [if_neg h3, if_neg h1, if_neg (by omega)]; rw [if_neg h1]
theorem wtC_0 {m : Mm} {t : Nat} (h : gI m 191 1 = nI t) (B : Nat → Int32) : wtC m t 0 B = m := by
  unfold wtC
  rw [← uI_self m, uI_uI]
  refine uI_ext (fun q i => ?_)
  rw [if_neg (by omega)]
  by_cases h1 : q = 191 ∧ i = 1
  · rw [if_pos h1, h1.1, h1.2]; exact h.symm
  · rw [if_neg h1]; rfl
theorem wtM_0 {m : Mm} {t : Nat} (h : gI m 225 1 = nI t) (B : Nat → Int32) : wtM m t 0 B = m := by
  unfold wtM
  rw [← uI_self m, uI_uI]
  refine uI_ext (fun q i => ?_)
  rw [if_neg (by omega)]
  by_cases h1 : q = 225 ∧ i = 1
  · rw [if_pos h1, h1.1, h1.2]; exact h.symm
  · rw [if_neg h1]; rfl
/-- the byte at a shift, of both sides -/
def byC (v s : Int32) : Int32 := ((v.toUInt32 >>> (s.toUInt32 &&& Int32.toUInt32 31)).toInt32) &&& (255 : Int32)
def byM (v s : Int32) : Int32 := Int8.toInt32 (Int32.toInt8 (Int8.toInt32 (Int32.toInt8 (v >>> (s &&& 31)))))
theorem by_eq (v : Int32) (n : Nat) (hn : n ≤ 24) : byM v (nI n) &&& 255 = byC v (nI n) := by
  unfold byM byC
  rw [bp_b, bp_b]
  refine b_ext (fun i hi => ?_)
  rw [b_and, b_and, b_255]
  by_cases h : i < 8
  · rw [b_sshr n (by omega) v hi, if_pos (by omega), b_ushr n (by omega)]
  · simp [h]
theorem by_256 (v s : Int32) : ∃ b, b < 256 ∧ byC v s = nI b := pk_andE _ 8 (by decide)
theorem l_putInt {m : Mm} (h : Sh m) {t k : Nat} {B : Nat → Int32} (v s : Int32) (hs : ¬ s < 0) (ht : t + k < 220) (hB : B k = byC v s) (N : Nat) (o : Prop) : f_X9_putInt_3 (N + 1) 191 v s (wtC m t k B) o = f_X9_putInt_3 N 191 v (s + (-8)) (wtC m t (k + 1) B) o := by
  have h' : Sh (wtC m t k B) := h
  have hz : gI (wtC m t k B) 191 1 = nI (t + k) := by
    unfold wtC
    rw [gI_uI, if_neg (by omega), if_pos ⟨rfl, rfl⟩]
  have hin : vp_in (nI (t + k)) 220 := vp_in_nI (by omega) (by omega)
  have hge : ¬ (220 : Int32) ≤ nI (t + k) := nI_ge (a := t + k) (b := 220) ht (by omega)
  rw [← wtC_1 m t k B, hB]
  show f_X9_putInt_3b (f_X9_putInt_3 N) 191 v s (wtC m t k B) o = _
  unfold f_X9_putInt_3b f_X9_putInt_33 f_X9_putInt_43
  simp (config := {decide := true}) only [if_neg hs, hz, hge, ix_nI (show t + k < 2 ^ 31 by omega), shT_191 h', shR_191_0 h', shT_192 h', shN_192 h', hin, ne_eq, not_false_eq_true, and_self, and_true, true_and, and_false, false_and, true_or, or_true, false_or, or_false, not_true_eq_false, if_false, if_true, gI_sI, gT_sI, nI_1, byC, Nat.add_assoc]
theorem e_putInt {m : Mm} (h : Sh m) {t k : Nat} {B : Nat → Int32} (v : Int32) (ht : t + k + 4 ≤ 220) (h0 : B k = byC v 24) (h1 : B (k + 1) = byC v 16) (h2 : B (k + 2) = byC v 8) (h3 : B (k + 3) = byC v 0) (o : Prop) : F_X9_putInt 191 v (wtC m t k B) o = ((), wtC m t (k + 4) B, o) := by
  unfold F_X9_putInt f_X9_putInt_0
  rw [l_putInt h v 24 (by decide) (by omega) h0 999 o, show (24 : Int32) + (-8) = 16 by decide, l_putInt h v 16 (by decide) (by omega) h1 998 o, show (16 : Int32) + (-8) = 8 by decide, l_putInt h v 8 (by decide) (by omega) h2 997 o, show (8 : Int32) + (-8) = 0 by decide, l_putInt h v 0 (by decide) (by omega) h3 996 o]
  show f_X9_putInt_3b (f_X9_putInt_3 995) 191 v (0 + (-8)) _ o = _
  unfold f_X9_putInt_3b f_X9_putInt_49
  rw [if_pos (by decide)]
theorem l_push {m : Mm} (h : Sh m) {t k : Nat} {B : Nat → Int32} (v s : Int32) (hs : ¬ s < 0) (ht : t + k < 220) (hB : B k = byM v s) (N : Nat) (o : Prop) : f_X12_push_3 (N + 1) 225 v s (wtM m t k B) o = f_X12_push_3 N 225 v (s + (-8)) (wtM m t (k + 1) B) o := by
  have h' : Sh (wtM m t k B) := h
  have hz : gI (wtM m t k B) 225 1 = nI (t + k) := by
    unfold wtM
    rw [gI_uI, if_neg (by omega), if_pos ⟨rfl, rfl⟩]
  have hin : vp_in (nI (t + k)) 220 := vp_in_nI (by omega) (by omega)
  rw [← wtM_1 m t k B, hB]
  show f_X12_push_3b (f_X12_push_3 N) 225 v s (wtM m t k B) o = _
  unfold f_X12_push_3b f_X12_push_20 f_X12_push_30
  simp (config := {decide := true}) only [if_neg hs, hz, ix_nI (show t + k < 2 ^ 31 by omega), shT_225 h', shR_225_0 h', shT_226 h', shN_226 h', hin, ne_eq, not_false_eq_true, and_self, and_true, true_and, and_false, false_and, true_or, or_true, false_or, or_false, not_true_eq_false, if_false, if_true, gI_sI, gT_sI, nI_1, byM, Nat.add_assoc]
theorem e_push {m : Mm} (h : Sh m) {t k : Nat} {B : Nat → Int32} (v : Int32) (ht : t + k + 4 ≤ 220) (h0 : B k = byM v 24) (h1 : B (k + 1) = byM v 16) (h2 : B (k + 2) = byM v 8) (h3 : B (k + 3) = byM v 0) (o : Prop) : F_X12_push 225 v (wtM m t k B) o = ((), wtM m t (k + 4) B, o) := by
  unfold F_X12_push f_X12_push_0
  rw [l_push h v 24 (by decide) (by omega) h0 999 o, show (24 : Int32) + (-8) = 16 by decide, l_push h v 16 (by decide) (by omega) h1 998 o, show (16 : Int32) + (-8) = 8 by decide, l_push h v 8 (by decide) (by omega) h2 997 o, show (8 : Int32) + (-8) = 0 by decide, l_push h v 0 (by decide) (by omega) h3 996 o]
  show f_X12_push_3b (f_X12_push_3 995) 225 v (0 + (-8)) _ o = _
  unfold f_X12_push_3b
  rw [if_pos (by decide)]
/-- the twenty bytes of five ints, by a byte's form -/
def b20 (f : Int32 → Int32 → Int32) (a b c d e : Int32) (i : Nat) : Int32 := f (if i < 4 then a else if i < 8 then b else if i < 12 then c else if i < 16 then d else e) (nI (24 - 8 * (i % 4)))
theorem e_feed {m : Mm} (h : Sh m) {t : Nat} (ht : t + 20 ≤ 220) (h1 : gI m 191 1 = nI t) (a b c d e : Int32) (o : Prop) : F_X11_feed 1 a b c d e m o = (nI (t + 20), wtC m t 20 (b20 byC a b c d e), o) := by
  have hle : nI t + 20 ≤ (220 : Int32) := by
    rw [show (20 : Int32) = nI 20 from rfl, nI_add]
    exact nI_le (a := t + 20) (b := 220) ht (by omega)
  have q1 := e_putInt h (t := t) (k := 0) (B := b20 byC a b c d e) a (by omega) rfl rfl rfl rfl
  have q2 := e_putInt h (t := t) (k := 4) (B := b20 byC a b c d e) b (by omega) rfl rfl rfl rfl
  have q3 := e_putInt h (t := t) (k := 8) (B := b20 byC a b c d e) c (by omega) rfl rfl rfl rfl
  have q4 := e_putInt h (t := t) (k := 12) (B := b20 byC a b c d e) d (by omega) rfl rfl rfl rfl
  have q5 := e_putInt h (t := t) (k := 16) (B := b20 byC a b c d e) e (by omega) rfl rfl rfl rfl
  have hz : ∀ k, gI (wtC m t k (b20 byC a b c d e)) 191 1 = nI (t + k) := fun k => by
    unfold wtC
    rw [gI_uI, if_neg (by omega), if_pos ⟨rfl, rfl⟩]
  rw [wtC_0 h1] at q1
  have s4 : Sh (wtC m t 4 (b20 byC a b c d e)) := h
  have s8 : Sh (wtC m t 8 (b20 byC a b c d e)) := h
  have s12 : Sh (wtC m t 12 (b20 byC a b c d e)) := h
  have s16 : Sh (wtC m t 16 (b20 byC a b c d e)) := h
  have s20 : Sh (wtC m t 20 (b20 byC a b c d e)) := h
  simp (config := {decide := true}) only [f_X11_feed_60, f_X11_feed_51, f_X11_feed_42, f_X11_feed_34, f_X11_feed_26, f_X11_feed_0, F_X11_feed, bnd, shT_1 h, shR_1_3 h, shT_191 h, shT_1 s4, shR_1_3 s4, shT_191 s4, shT_1 s8, shR_1_3 s8, shT_191 s8, shT_1 s12, shR_1_3 s12, shT_191 s12, shT_1 s16, shR_1_3 s16, shT_191 s16, shT_1 s20, shR_1_3 s20, shT_191 s20, h1, hle, ne_eq, not_false_eq_true, and_self, and_true, true_and, and_false, false_and, true_or, or_true, false_or, or_false, not_true_eq_false, if_false, if_true, q1, q2, q3, q4, q5, hz]
theorem e_feed0 {m : Mm} (h : Sh m) {t : Nat} (hb : t ≤ 220) (ht : ¬ t + 20 ≤ 220) (h1 : gI m 191 1 = nI t) (a b c d e : Int32) (o : Prop) : F_X11_feed 1 a b c d e m o = (-1, m, o) := by
  have hle : ¬ nI t + 20 ≤ (220 : Int32) := by
    rw [show (20 : Int32) = nI 20 from rfl, nI_add]
    exact nI_ge (a := 220) (b := t + 20) (by omega) (by omega)
  simp (config := {decide := true}) only [f_X11_feed_60, f_X11_feed_51, f_X11_feed_42, f_X11_feed_34, f_X11_feed_26, f_X11_feed_0, F_X11_feed, bnd, shT_1 h, shR_1_3 h, shT_191 h, h1, hle, ne_eq, not_false_eq_true, and_self, and_true, true_and, and_false, false_and, true_or, or_true, false_or, or_false, not_true_eq_false, if_false, if_true]
theorem e_feedM {m : Mm} (h : Sh m) {t : Nat} (ht : t + 20 ≤ 220) (h1 : gI m 225 1 = nI t) (a b c d e : Int32) (o : Prop) : F_X12_feed 225 a b c d e m o = (nI (t + 20), wtM m t 20 (b20 byM a b c d e), o) := by
  have hle : nI t + 20 ≤ (220 : Int32) := by
    rw [show (20 : Int32) = nI 20 from rfl, nI_add]
    exact nI_le (a := t + 20) (b := 220) ht (by omega)
  have q1 := e_push h (t := t) (k := 0) (B := b20 byM a b c d e) a (by omega) rfl rfl rfl rfl
  have q2 := e_push h (t := t) (k := 4) (B := b20 byM a b c d e) b (by omega) rfl rfl rfl rfl
  have q3 := e_push h (t := t) (k := 8) (B := b20 byM a b c d e) c (by omega) rfl rfl rfl rfl
  have q4 := e_push h (t := t) (k := 12) (B := b20 byM a b c d e) d (by omega) rfl rfl rfl rfl
  have q5 := e_push h (t := t) (k := 16) (B := b20 byM a b c d e) e (by omega) rfl rfl rfl rfl
  have hz : ∀ k, gI (wtM m t k (b20 byM a b c d e)) 225 1 = nI (t + k) := fun k => by
    unfold wtM
    rw [gI_uI, if_neg (by omega), if_pos ⟨rfl, rfl⟩]
  rw [wtM_0 h1] at q1
  have s4 : Sh (wtM m t 4 (b20 byM a b c d e)) := h
  have s8 : Sh (wtM m t 8 (b20 byM a b c d e)) := h
  have s12 : Sh (wtM m t 12 (b20 byM a b c d e)) := h
  have s16 : Sh (wtM m t 16 (b20 byM a b c d e)) := h
  have s20 : Sh (wtM m t 20 (b20 byM a b c d e)) := h
  simp (config := {decide := true}) only [f_X12_feed_42, f_X12_feed_36, f_X12_feed_30, f_X12_feed_25, f_X12_feed_20, f_X12_feed_0, F_X12_feed, bnd, shT_225 h, shT_225 s4, shT_225 s8, shT_225 s12, shT_225 s16, shT_225 s20, h1, hle, ne_eq, not_false_eq_true, and_self, and_true, true_and, and_false, false_and, true_or, or_true, false_or, or_false, not_true_eq_false, if_false, if_true, q1, q2, q3, q4, q5, hz]
theorem e_feedM0 {m : Mm} (h : Sh m) {t : Nat} (hb : t ≤ 220) (ht : ¬ t + 20 ≤ 220) (h1 : gI m 225 1 = nI t) (a b c d e : Int32) (o : Prop) : F_X12_feed 225 a b c d e m o = (-1, m, o) := by
  have hle : ¬ nI t + 20 ≤ (220 : Int32) := by
    rw [show (20 : Int32) = nI 20 from rfl, nI_add]
    exact nI_ge (a := 220) (b := t + 20) (by omega) (by omega)
  simp (config := {decide := true}) only [f_X12_feed_42, f_X12_feed_36, f_X12_feed_30, f_X12_feed_25, f_X12_feed_20, f_X12_feed_0, F_X12_feed, bnd, shT_225 h, h1, hle, ne_eq, not_false_eq_true, and_self, and_true, true_and, and_false, false_and, true_or, or_true, false_or, or_false, not_true_eq_false, if_false, if_true]
theorem p_feed : Pr_feed Rel := fun a b c d e => PrI_ex (fun m hR => by
  obtain ⟨t, t1, t2, t3, t4⟩ := hR.2.2.2.2.2.1
  by_cases ht : t + 20 ≤ 220
  · have g3 : gI (wtC m t 20 (b20 byC a b c d e)) 225 1 = nI t := by
      unfold wtC
      rw [gI_uI, if_neg (by omega), if_neg (by omega)]
      exact t3
    refine ⟨_, _, _, fun o => e_feed hR.1 ht t2 a b c d e o, hR.1, fun o => e_feedM (m := wtC m t 20 (b20 byC a b c d e)) hR.1 ht g3 a b c d e o, ?_⟩
    refine Rel_tape hR hR.1 ⟨rfl, rfl⟩ (fun q i hq => ?_) ⟨t + 20, ht, ?_, ?_, fun i hi => ?_⟩
    · unfold inTape at hq
      unfold wtM wtC
      rw [gI_uI, if_neg (by omega), if_neg (by omega), gI_uI, if_neg (by omega), if_neg (by omega)]
    · unfold wtM wtC
      rw [gI_uI, if_neg (by omega), if_neg (by omega), gI_uI, if_neg (by omega), if_pos ⟨rfl, rfl⟩]
    · unfold wtM
      rw [gI_uI, if_neg (by omega), if_pos ⟨rfl, rfl⟩]
    · have e192 : gI (wtM (wtC m t 20 (b20 byC a b c d e)) t 20 (b20 byM a b c d e)) 192 i = if t ≤ i then b20 byC a b c d e (i - t) else gI m 192 i := by
        unfold wtM wtC
        rw [gI_uI, if_neg (by omega), if_neg (by omega), gI_uI]
        by_cases q : t ≤ i
        · rw [if_pos ⟨rfl, q, hi⟩, if_pos q]
        · rw [if_neg (by omega), if_neg (by omega), if_neg q]
      have e226 : gI (wtM (wtC m t 20 (b20 byC a b c d e)) t 20 (b20 byM a b c d e)) 226 i = if t ≤ i then b20 byM a b c d e (i - t) else gI m 226 i := by
        unfold wtM wtC
        rw [gI_uI]
        by_cases q : t ≤ i
        · rw [if_pos ⟨rfl, q, hi⟩, if_pos q]
        · rw [if_neg (by omega), if_neg (by omega), gI_uI, if_neg (by omega), if_neg (by omega), if_neg q]
      rw [e192, e226]
      by_cases q : t ≤ i
      · rw [if_pos q, if_pos q]
        exact ⟨by_256 _ _, by_eq _ _ (by omega)⟩
      · rw [if_neg q, if_neg q]
        exact t4 i (by omega)
  · exact ⟨_, _, _, fun o => e_feed0 hR.1 t1 ht t2 a b c d e o, hR.1, fun o => e_feedM0 hR.1 t1 ht t3 a b c d e o, hR⟩)
