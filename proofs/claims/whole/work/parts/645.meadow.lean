/-! ===== a meadow's places ===== -/
def isMd (p : Nat) : Prop := p = 2 ∨ p = 65 ∨ p = 128
theorem sh_Rm {m : Mm} (h : Sh m) {q j v : Nat} (hi : (q, j, v) ∈ tRl) : gR m q j = v := h.2.2.1 _ hi
theorem md_stk {m : Mm} (h : Sh m) {p s : Nat} (hp : isMd p) (hs : s < 12) : gR m (p + 1) s = p + 7 + 2 * s ∧ gT m (p + 7 + 2 * s) = 8 ∧ gR m (p + 7 + 2 * s) 8 = p + 8 + 2 * s ∧ gT m (p + 8 + 2 * s) = 20 ∧ gN m (p + 8 + 2 * s) = 16 := by
  have k1 : ∀ s, s < 12 → (2 + 1, s, 2 + 7 + 2 * s) ∈ tRl ∧ tT (2 + 7 + 2 * s) = 8 ∧ (2 + 7 + 2 * s, 8, 2 + 8 + 2 * s) ∈ tRl ∧ tT (2 + 8 + 2 * s) = 20 ∧ tN (2 + 8 + 2 * s) = 16 := by decide +kernel
  have k2 : ∀ s, s < 12 → (65 + 1, s, 65 + 7 + 2 * s) ∈ tRl ∧ tT (65 + 7 + 2 * s) = 8 ∧ (65 + 7 + 2 * s, 8, 65 + 8 + 2 * s) ∈ tRl ∧ tT (65 + 8 + 2 * s) = 20 ∧ tN (65 + 8 + 2 * s) = 16 := by decide +kernel
  have k3 : ∀ s, s < 12 → (128 + 1, s, 128 + 7 + 2 * s) ∈ tRl ∧ tT (128 + 7 + 2 * s) = 8 ∧ (128 + 7 + 2 * s, 8, 128 + 8 + 2 * s) ∈ tRl ∧ tT (128 + 8 + 2 * s) = 20 ∧ tN (128 + 8 + 2 * s) = 16 := by decide +kernel
  rcases hp with rfl | rfl | rfl
  · obtain ⟨a, b, c, d, e⟩ := k1 s hs
    exact ⟨sh_Rm h a, sh_T h _ (by omega) b, sh_Rm h c, sh_T h _ (by omega) d, sh_N h _ (by omega) e⟩
  · obtain ⟨a, b, c, d, e⟩ := k2 s hs
    exact ⟨sh_Rm h a, sh_T h _ (by omega) b, sh_Rm h c, sh_T h _ (by omega) d, sh_N h _ (by omega) e⟩
  · obtain ⟨a, b, c, d, e⟩ := k3 s hs
    exact ⟨sh_Rm h a, sh_T h _ (by omega) b, sh_Rm h c, sh_T h _ (by omega) d, sh_N h _ (by omega) e⟩
theorem md_cow {m : Mm} (h : Sh m) {p s : Nat} (hp : isMd p) (hs : s < 16) : gR m (p + 2) s = p + 31 + 2 * s ∧ gT m (p + 31 + 2 * s) = 2 ∧ gR m (p + 31 + 2 * s) 5 = p + 32 + 2 * s ∧ gT m (p + 32 + 2 * s) = 20 ∧ gN m (p + 32 + 2 * s) = 5 := by
  have k1 : ∀ s, s < 16 → (2 + 2, s, 2 + 31 + 2 * s) ∈ tRl ∧ tT (2 + 31 + 2 * s) = 2 ∧ (2 + 31 + 2 * s, 5, 2 + 32 + 2 * s) ∈ tRl ∧ tT (2 + 32 + 2 * s) = 20 ∧ tN (2 + 32 + 2 * s) = 5 := by decide +kernel
  have k2 : ∀ s, s < 16 → (65 + 2, s, 65 + 31 + 2 * s) ∈ tRl ∧ tT (65 + 31 + 2 * s) = 2 ∧ (65 + 31 + 2 * s, 5, 65 + 32 + 2 * s) ∈ tRl ∧ tT (65 + 32 + 2 * s) = 20 ∧ tN (65 + 32 + 2 * s) = 5 := by decide +kernel
  have k3 : ∀ s, s < 16 → (128 + 2, s, 128 + 31 + 2 * s) ∈ tRl ∧ tT (128 + 31 + 2 * s) = 2 ∧ (128 + 31 + 2 * s, 5, 128 + 32 + 2 * s) ∈ tRl ∧ tT (128 + 32 + 2 * s) = 20 ∧ tN (128 + 32 + 2 * s) = 5 := by decide +kernel
  rcases hp with rfl | rfl | rfl
  · obtain ⟨a, b, c, d, e⟩ := k1 s hs
    exact ⟨sh_Rm h a, sh_T h _ (by omega) b, sh_Rm h c, sh_T h _ (by omega) d, sh_N h _ (by omega) e⟩
  · obtain ⟨a, b, c, d, e⟩ := k2 s hs
    exact ⟨sh_Rm h a, sh_T h _ (by omega) b, sh_Rm h c, sh_T h _ (by omega) d, sh_N h _ (by omega) e⟩
  · obtain ⟨a, b, c, d, e⟩ := k3 s hs
    exact ⟨sh_Rm h a, sh_T h _ (by omega) b, sh_Rm h c, sh_T h _ (by omega) d, sh_N h _ (by omega) e⟩
theorem nI_toInt1 {n : Nat} (hn : n < 2 ^ 30) : (nI n - 1).toInt = (n : Int) - 1 := pk_sub_toInt (a := n) (b := 1) hn (by omega)
theorem rng_n {a : Int32} {n : Nat} (hn : n < 2 ^ 30) : (0 ≤ a ∧ a ≤ nI n - 1) ↔ ∃ s, s < n ∧ a = nI s := by
  constructor
  · rintro ⟨h1, h2⟩
    obtain ⟨j, hj, rfl⟩ := nI_of (x := a) (by rw [i32_nlt]; exact h1)
    rw [Int32.le_iff_toInt_le, nI_toInt hj, nI_toInt1 hn] at h2
    exact ⟨j, by omega, rfl⟩
  · rintro ⟨s, hs, rfl⟩
    refine ⟨nI_pos' (by omega), ?_⟩
    rw [Int32.le_iff_toInt_le, nI_toInt (by omega), nI_toInt1 hn]
    omega
