/-! ===== salt ===== -/
/-- only numbers of the meadow 'now' change -/
theorem Rel_num {m m' : Mm} (hR : Rel m) (hS : Sh m') (hr : gR m' 1 9 = gR m 1 9 ∧ gR m' 1 10 = gR m 1 10) (hk : ∀ q i, q ≠ 2 → q ≠ 225 → gI m' q i = gI m q i) (h77 : gI m' 225 77 = gI m 225 77) (h1 : gI m' 225 1 = gI m 225 1) (h22 : gI m' 225 22 = gI m 225 22) {n c : Nat} (hb : RMb m 2 227 0 n c) (hs : RMs m' 2 (cnum m') n c) : Rel m' := by
  refine Rel_now hR hS hr (fun q i hf => ?_) ⟨n, c, hs, RMb_frame hs.1.1 hs.1.2 (fun q i hf => ?_) hb⟩
  · by_cases e : q = 225
    · subst e
      unfold Kp at hf
      have : i = 77 ∨ i = 1 ∨ i = 22 := by omega
      rcases this with rfl | rfl | rfl
      · exact h77
      · exact h1
      · exact h22
    · unfold Kp at hf
      exact hk q i (by omega) e
  · unfold FB at hf
    exact hk q i (by omega) (by omega)
theorem e_putSalt (a d : Int32) {m : Mm} (h : Sh m) (o : Prop) : F_X5_putSalt 2 a d m o = ((), sI (sI m 2 8 a) 2 9 d, o) := by
  unfold F_X5_putSalt f_X5_putSalt_0 f_X5_putSalt_5 f_X5_putSalt_10
  simp [shT_2 h, gT_sI]
theorem e_saltN (d : Int32) {m : Mm} (h : Sh m) (o : Prop) : F_X11_salt 1 (-1) d m o = (1, sI (sI m 2 8 (-1)) 2 9 (-1), o) := by
  unfold F_X11_salt f_X11_salt_0 bnd f_X11_salt_14
  simp [shR_1_0 h, shT_1 h, shT_2 h, e_putSalt _ _ h]
theorem e_saltMN (d : Int32) {m : Mm} (h : Sh m) (o : Prop) : F_X12_salt 225 (-1) d m o = (1, sI m 225 6 (-1), o) := by
  unfold F_X12_salt f_X12_salt_0 f_X12_salt_10
  simp [shT_225 h]
theorem Rel_saltN {m : Mm} (hR : Rel m) : Rel (sI (sI (sI m 2 8 (-1)) 2 9 (-1)) 225 6 (-1)) := by
  obtain ⟨n, c, hs, hb⟩ := hR.2.2.1
  refine Rel_num hR hR.1 ⟨rfl, rfl⟩ (fun q i h1 h2 => ?_) rfl rfl rfl hb ?_
  · simp only [gI_sI]
    rw [if_neg (fun z => h2 z.1), if_neg (fun z => h1 z.1), if_neg (fun z => h1 z.1)]
  · obtain ⟨s1, s2, s3, s4, s5, s6, s7, s8⟩ := hs
    exact ⟨s1, s2, s3, s4, rfl, .inl ⟨rfl, rfl⟩, s7, s8⟩
