/-! ===== seed ===== -/
theorem e_seed (a : Int32) {m : Mm} (h : Sh m) (o : Prop) : F_X11_seed 1 a m o = if 0 ≤ a ∧ a ≤ 65535 then (1, sI m 2 11 a, o) else (0, m, o) := by
  unfold F_X11_seed f_X11_seed_0 bnd f_X11_seed_8 f_X11_seed_21
  simp only [e_isWithin, bI_0]
  by_cases q : 0 ≤ a ∧ a ≤ 65535
  · simp [q, shR_1_0 h, shT_1 h, shT_2 h]
  · simp [q]
theorem e_seedM (a : Int32) {m : Mm} (h : Sh m) (o : Prop) : F_X12_seed 225 a m o = if 0 ≤ a ∧ a ≤ 65535 then (1, sI m 225 5 a, o) else (0, m, o) := by
  have hl := e_lies a 0 65535
  rw [show Int32.toInt64 0 = 0 by decide, show Int32.toInt64 65535 = 65535 by decide] at hl
  unfold F_X12_seed f_X12_seed_0 bnd f_X12_seed_9 f_X12_seed_19
  simp only [hl, bI_0]
  by_cases q : 0 ≤ a ∧ a ≤ 65535
  · simp [q, shT_225 h]
  · simp [q]
theorem Rel_seed {m : Mm} (hR : Rel m) {a : Int32} (q : 0 ≤ a ∧ a ≤ 65535) : Rel (sI (sI m 2 11 a) 225 5 a) := by
  refine Rel_now hR hR.1 ⟨rfl, rfl⟩ (fun q i hk => ?_) ?_
  · simp only [gI_sI]
    rw [if_neg, if_neg]
    · rintro ⟨rfl, rfl⟩; unfold Kp at hk; omega
    · rintro ⟨rfl, rfl⟩; unfold Kp at hk; omega
  · obtain ⟨n, c, hs, hb⟩ := hR.2.2.1
    refine ⟨n, c, ?_, RMb_frame hs.1.1 hs.1.2 (fun q i hf => ?_) hb⟩
    · obtain ⟨x, hx, rfl⟩ := rng_in (N := 65535) (by decide) q
      obtain ⟨s1, s2, s3, s4, s5, s6, s7, s8⟩ := hs
      have e5 : cnum (sI (sI m 2 11 (nI x)) 225 5 (nI x)) 5 = nI x := rfl
      refine ⟨s1, s2, s3, s4, s5, s6, rfl, ⟨x, by omega, e5⟩⟩
    · simp only [gI_sI]
      rw [if_neg, if_neg]
      · rintro ⟨rfl, rfl⟩; unfold FB at hf; omega
      · rintro ⟨rfl, rfl⟩; unfold FB at hf; omega
theorem p_seed : Pr_seed Rel := fun a m o hR ho => by
  by_cases q : 0 ≤ a ∧ a ≤ 65535
  · rw [e_seed a hR.1, if_pos q]
    refine ⟨ho, sh_225 hR.1, fun o' ho' => ?_⟩
    show (F_X12_seed 225 a (sI m 2 11 a) o').1 = 1 ∧ (F_X12_seed 225 a (sI m 2 11 a) o').2.2 ∧ Rel (F_X12_seed 225 a (sI m 2 11 a) o').2.1
    rw [e_seedM a (Sh_sI hR.1 2 11 a), if_pos q]
    exact ⟨rfl, ho', Rel_seed hR q⟩
  · rw [e_seed a hR.1, if_neg q]
    refine ⟨ho, sh_225 hR.1, fun o' ho' => ?_⟩
    show (F_X12_seed 225 a m o').1 = 0 ∧ (F_X12_seed 225 a m o').2.2 ∧ Rel (F_X12_seed 225 a m o').2.1
    rw [e_seedM a hR.1, if_neg q]
    exact ⟨rfl, ho', hR⟩
