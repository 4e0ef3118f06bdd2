/-! ===== salt ===== -/
/-- only numbers of the meadow 'now' change -/
theorem Rel_num {m m' : Mm} (hR : Rel m) (hS : Sh m') (hr : gR m' 1 9 = gR m 1 9 ∧ gR m' 1 10 = gR m 1 10) (hk : ∀ q i, q ≠ 2 → q ≠ 225 → gI m' q i = gI m q i) (h77 : gI m' 225 77 = gI m 225 77) (h1 : gI m' 225 1 = gI m 225 1) (h22 : gI m' 225 22 = gI m 225 22) {n c : Nat} (hb : RMb m 2 227 0 n c) (hs : RMs m' 2 (cnum m') n c) : Rel m' := by
  refine Rel_now hR hS hr (fun q i hf => ?_) ⟨n, c, hs, RMb_frame hs.1.1 hs.1.2 (fun q i hf => ?_) hb⟩
  · by_cases e : q = 225
    · subst e
      unfold Kp at hf
      have : i = 77 ∨ i = 1 ∨ i = 22 := by omega
      rcases this with rfl | rfl | rfl
      · exact h77
      · exact h1
      · exact h22
    · unfold Kp at hf
      exact hk q i (by omega) e
  · unfold FB at hf
    exact hk q i (by omega) (by omega)
theorem e_putSalt (a d : Int32) {m : Mm} (h : Sh m) (o : Prop) : F_X5_putSalt 2 a d m o = ((), sI (sI m 2 8 a) 2 9 d, o) := by
  unfold F_X5_putSalt f_X5_putSalt_0 f_X5_putSalt_5 f_X5_putSalt_10
  simp [shT_2 h, gT_sI]
theorem e_saltN (d : Int32) {m : Mm} (h : Sh m) (o : Prop) : F_X11_salt 1 (-1) d m o = (1, sI (sI m 2 8 (-1)) 2 9 (-1), o) := by
  unfold F_X11_salt f_X11_salt_0 bnd f_X11_salt_14
  simp [shR_1_0 h, shT_1 h, shT_2 h, e_putSalt _ _ h]
theorem e_saltMN (d : Int32) {m : Mm} (h : Sh m) (o : Prop) : F_X12_salt 225 (-1) d m o = (1, sI m 225 6 (-1), o) := by
  unfold F_X12_salt f_X12_salt_0 f_X12_salt_10
  simp [shT_225 h]
theorem Rel_saltN {m : Mm} (hR : Rel m) : Rel (sI (sI (sI m 2 8 (-1)) 2 9 (-1)) 225 6 (-1)) := by
  obtain ⟨n, c, hs, hb⟩ := hR.2.2.1
  refine Rel_num hR hR.1 ⟨rfl, rfl⟩ (fun q i h1 h2 => ?_) rfl rfl rfl hb ?_
  · simp only [gI_sI]
    rw [if_neg (fun z => h2 z.1), if_neg (fun z => h1 z.1), if_neg (fun z => h1 z.1)]
  · obtain ⟨s1, s2, s3, s4, s5, s6, s7, s8⟩ := hs
    exact ⟨s1, s2, s3, s4, rfl, .inl ⟨rfl, rfl⟩, s7, s8⟩
theorem nI_ne_m1 {s : Nat} (h : s < 2 ^ 31) : ¬ nI s = -1 := fun z => by
  have := nI_pos (n := s) h
  rw [z] at this
  exact this (by decide)
theorem e_salt {m : Mm} (h : Sh m) {n s : Nat} (hn : n ≤ 12) (hs : s < n) (h6 : gI m 2 6 = nI n) (d : Int32) (o : Prop) : F_X11_salt 1 (nI s) d m o = if gI m (9 + 2 * s) 7 ≠ 0 ∧ (0 ≤ d ∧ d ≤ 999) then (1, sI (sI m 2 8 (nI s)) 2 9 d, o) else (0, m, o) := by
  have hm1 := nI_ne_m1 (s := s) (by omega)
  unfold F_X11_salt f_X11_salt_0 bnd f_X11_salt_21 bnd f_X11_salt_32 bnd f_X11_salt_35 f_X11_salt_46
  simp only [hm1, if_false, e_standing h hn hs h6, e_isWithin, bI_0, shR_1_0 h, shT_1 h, shT_2 h, e_putSalt _ _ h]
  by_cases q : gI m (9 + 2 * s) 7 = 0
  · simp [q]
  · by_cases q2 : 0 ≤ d ∧ d ≤ 999
    · simp [q, q2]
    · simp [q, q2]
theorem e_salt0 (a d : Int32) {m : Mm} (h : Sh m) {n : Nat} (hn : n ≤ 12) (ha : ¬ a = -1) (hs : ¬ ∃ s, s < n ∧ a = nI s) (h6 : gI m 2 6 = nI n) (o : Prop) : F_X11_salt 1 a d m o = (0, m, o) := by
  unfold F_X11_salt f_X11_salt_0 bnd f_X11_salt_21 f_X11_salt_35
  simp only [ha, if_false, e_standing0 a h hn hs h6, shT_1 h]
  simp
theorem e_saltM {m : Mm} (h : Sh m) {n s : Nat} (hn : n ≤ 12) (hs : s < n) (h2 : gI m 225 2 = nI n) (d : Int32) (o : Prop) : F_X12_salt 225 (nI s) d m o = if gI m 233 s ≠ 0 ∧ (0 ≤ d ∧ d ≤ 999) then (1, sI (sI m 225 6 (nI s)) 225 7 d, o) else (0, m, o) := by
  have hm1 := nI_ne_m1 (s := s) (by omega)
  have hl := e_lies d 0 999
  rw [show Int32.toInt64 0 = 0 by decide, show Int32.toInt64 999 = 999 by decide] at hl
  unfold F_X12_salt f_X12_salt_0 bnd f_X12_salt_17 bnd f_X12_salt_29 f_X12_salt_32 f_X12_salt_39 f_X12_salt_44
  simp only [hm1, if_false, e_thereM h hn hs h2, hl, bI_0, shT_225 h, gT_sI]
  by_cases q : gI m 233 s = 0
  · simp [q]
  · by_cases q2 : 0 ≤ d ∧ d ≤ 999
    · simp [q, q2]
    · simp [q, q2]
theorem e_saltM0 (a d : Int32) {m : Mm} (h : Sh m) {n : Nat} (hn : n ≤ 12) (ha : ¬ a = -1) (hs : ¬ ∃ s, s < n ∧ a = nI s) (h2 : gI m 225 2 = nI n) (o : Prop) : F_X12_salt 225 a d m o = (0, m, o) := by
  unfold F_X12_salt f_X12_salt_0 bnd f_X12_salt_17 f_X12_salt_32
  simp only [ha, if_false, e_thereM0 a h hn hs h2, shT_225 h]
  simp
theorem Rel_salt {m : Mm} (hR : Rel m) {n c s : Nat} (hs : RMs m 2 (cnum m) n c) (hb : RMb m 2 227 0 n c) (hsn : s < n) (d : Int32) : Rel (sI (sI (sI (sI m 2 8 (nI s)) 2 9 d) 225 6 (nI s)) 225 7 d) := by
  refine Rel_num hR hR.1 ⟨rfl, rfl⟩ (fun q i h1 h2 => ?_) rfl rfl rfl hb ?_
  · simp only [gI_sI]
    rw [if_neg (fun z => h2 z.1), if_neg (fun z => h2 z.1), if_neg (fun z => h1 z.1), if_neg (fun z => h1 z.1)]
  · obtain ⟨s1, s2, s3, s4, s5, s6, s7, s8⟩ := hs
    exact ⟨s1, s2, s3, s4, rfl, .inr ⟨rfl, s, hsn, rfl⟩, s7, s8⟩
theorem p_salt : Pr_salt Rel := fun a d m o hR ho => by
  obtain ⟨n, c, hss, hb⟩ := hR.2.2.1
  have hn := hss.1.1
  have h6 : gI m 2 6 = nI n := hss.2.1.1
  have h2 : gI m 225 2 = nI n := hss.2.1.2
  by_cases ha : a = -1
  · subst ha
    rw [e_saltN d hR.1]
    refine ⟨ho, sh_225 hR.1, fun o' ho' => ?_⟩
    show (F_X12_salt 225 (-1) d (sI (sI m 2 8 (-1)) 2 9 (-1)) o').1 = 1 ∧ (F_X12_salt 225 (-1) d (sI (sI m 2 8 (-1)) 2 9 (-1)) o').2.2 ∧ Rel (F_X12_salt 225 (-1) d (sI (sI m 2 8 (-1)) 2 9 (-1)) o').2.1
    rw [e_saltMN d (Sh_sI (Sh_sI hR.1 2 8 (-1)) 2 9 (-1))]
    exact ⟨rfl, ho', Rel_saltN hR⟩
  · by_cases q : ∃ s, s < n ∧ a = nI s
    · obtain ⟨s, hs, rfl⟩ := q
      have he : gI m 233 s = gI m (9 + 2 * s) 7 := by
        have := (hb.1 s hs).2.2.2.2.2.2.2
        rw [Nat.mul_zero, Nat.zero_add] at this
        exact this
      rw [e_salt hR.1 hn hs h6]
      by_cases z : gI m (9 + 2 * s) 7 ≠ 0 ∧ (0 ≤ d ∧ d ≤ 999)
      · rw [if_pos z]
        refine ⟨ho, sh_225 hR.1, fun o' ho' => ?_⟩
        show (F_X12_salt 225 (nI s) d (sI (sI m 2 8 (nI s)) 2 9 d) o').1 = 1 ∧ (F_X12_salt 225 (nI s) d (sI (sI m 2 8 (nI s)) 2 9 d) o').2.2 ∧ Rel (F_X12_salt 225 (nI s) d (sI (sI m 2 8 (nI s)) 2 9 d) o').2.1
        rw [e_saltM (m := sI (sI m 2 8 (nI s)) 2 9 d) (Sh_sI (Sh_sI hR.1 2 8 (nI s)) 2 9 d) hn hs h2, if_pos (by rw [show gI (sI (sI m 2 8 (nI s)) 2 9 d) 233 s = gI m 233 s from rfl, he]; exact z)]
        exact ⟨rfl, ho', Rel_salt hR hss hb hs d⟩
      · rw [if_neg z]
        refine ⟨ho, sh_225 hR.1, fun o' ho' => ?_⟩
        show (F_X12_salt 225 (nI s) d m o').1 = 0 ∧ (F_X12_salt 225 (nI s) d m o').2.2 ∧ Rel (F_X12_salt 225 (nI s) d m o').2.1
        rw [e_saltM hR.1 hn hs h2, if_neg (by rw [he]; exact z)]
        exact ⟨rfl, ho', hR⟩
    · rw [e_salt0 a d hR.1 hn ha q h6]
      refine ⟨ho, sh_225 hR.1, fun o' ho' => ?_⟩
      show (F_X12_salt 225 a d m o').1 = 0 ∧ (F_X12_salt 225 a d m o').2.2 ∧ Rel (F_X12_salt 225 a d m o').2.1
      rw [e_saltM0 a d hR.1 hn ha q h2]
      exact ⟨rfl, ho', hR⟩
