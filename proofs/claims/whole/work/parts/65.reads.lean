/-! ===== calls that only read ===== -/
theorem PrI_ro {f g : Mm → Prop → Int32 × Mm × Prop} (vf vg : Mm → Int32) (hf : ∀ m o, Rel m → f m o = (vf m, m, o)) (hg : ∀ m o, Rel m → g m o = (vg m, m, o)) (he : ∀ m, Rel m → vg m = vf m) : PrI Rel f g := by
  intro m o hR ho
  rw [hf m o hR]
  refine ⟨ho, sh_225 hR.1, fun o' ho' => ?_⟩
  show (g m o').1 = vf m ∧ (g m o').2.2 ∧ Rel (g m o').2.1
  rw [hg m o' hR]
  exact ⟨he m hR, ho', hR⟩
theorem rng_in {a : Int32} {N : Nat} (hN : N < 2 ^ 31) (h : 0 ≤ a ∧ a ≤ nI N) : ∃ j, j ≤ N ∧ a = nI j := by
  obtain ⟨h1, h2⟩ := h
  exact nI_of2 (nI_toInt hN) (by rw [i32_nlt]; exact h1) h2
/-- votes -/
theorem e_votes (a : Int32) {m : Mm} (h : Sh m) (o : Prop) : F_X11_votes 1 a m o = (if 0 ≤ a ∧ a ≤ 4 then gI m 5 (ix a) else -1, m, o) := by
  unfold F_X11_votes f_X11_votes_0 bnd f_X11_votes_4 f_X11_votes_20
  simp only [e_isColour, bI_0]
  by_cases q : 0 ≤ a ∧ a ≤ 4
  · obtain ⟨j, hj, rfl⟩ := rng_in (N := 4) (by decide) q
    have hin : vp_in (nI j) 5 := vp_in_nI (by omega) (by omega)
    simp [q, shR_1_0 h, shR_2_2 h, shT_1 h, shT_2 h, shT_5 h, shN_5 h, hin]
  · simp [q]
theorem e_votesM (a : Int32) {m : Mm} (h : Sh m) (o : Prop) : F_X12_votes 225 a m o = (if 0 ≤ a ∧ a ≤ 4 then gI m 239 (ix a) else -1, m, o) := by
  unfold F_X12_votes f_X12_votes_0 bnd f_X12_votes_4 f_X12_votes_17
  simp only [e_isColourM, bI_0]
  by_cases q : 0 ≤ a ∧ a ≤ 4
  · obtain ⟨j, hj, rfl⟩ := rng_in (N := 4) (by decide) q
    have hin : vp_in (nI j) 5 := vp_in_nI (by omega) (by omega)
    simp [q, shR_225_20 h, shT_225 h, shT_239 h, shN_239 h, hin]
  · simp [q]
theorem p_votes : Pr_votes Rel := fun a => PrI_ro (fun m => if 0 ≤ a ∧ a ≤ 4 then gI m 5 (ix a) else -1) (fun m => if 0 ≤ a ∧ a ≤ 4 then gI m 239 (ix a) else -1) (fun m o hR => e_votes a hR.1 o) (fun m o hR => e_votesM a hR.1 o) (fun m hR => by
  by_cases q : 0 ≤ a ∧ a ≤ 4
  · simp only [if_pos q]
    obtain ⟨j, hj, rfl⟩ := rng_in (N := 4) (by decide) q
    obtain ⟨n, c, -, -, -, -, hc, -⟩ := hR.2.2.1
    have := hc j (by omega)
    rw [ix, nI_clamp (by omega)]
    rw [Nat.mul_zero, Nat.zero_add] at this
    exact this
  · simp only [if_neg q])
