/-! ===== factorial, choose, common divisors of both sides ===== -/
def fac : Nat → Nat
  | 0 => 1
  | n + 1 => fac n * (n + 1)
theorem fac_pos : ∀ n, 0 < fac n
  | 0 => Nat.one_pos
  | n + 1 => Nat.mul_pos (fac_pos n) (by omega)
theorem fac_le : ∀ (a b : Nat), fac a * fac b ≤ fac (a + b)
  | a, 0 => by show fac a * 1 ≤ fac a; omega
  | a, b + 1 => by
    show fac a * (fac b * (b + 1)) ≤ fac (a + b) * (a + b + 1)
    rw [← Nat.mul_assoc]
    exact Nat.mul_le_mul (fac_le a b) (by omega)
theorem fac_mono {a : Nat} : ∀ k, fac a ≤ fac (a + k)
  | 0 => Nat.le_refl _
  | k + 1 => Nat.le_trans (fac_mono k) (by show _ ≤ fac (a + k) * (a + k + 1); exact Nat.le_mul_of_pos_right _ (by omega))
theorem fac_st {i : Nat} (h : 1 ≤ i) : fac (i + 1 - 1) = fac (i - 1) * i := by
  obtain ⟨j, rfl⟩ : ∃ j, i = j + 1 := ⟨i - 1, by omega⟩
  rfl
theorem l_factorial (m : Mm) {n : Nat} (hn : n ≤ 16) : ∀ (k N i : Nat) (o : Prop), i + k = n + 1 → 1 ≤ i → k < N → f_X8_factorial_4 N (nI n) (lN (fac (i - 1))) (nI i) m o = (lN (fac n), m, o) := by
  intro k
  induction k with
  | zero =>
    intro N i o hi h1 hN
    obtain ⟨N, rfl⟩ : ∃ N1, N = N1 + 1 := ⟨N - 1, by omega⟩
    show f_X8_factorial_4b (f_X8_factorial_4 N) _ _ (nI i) m o = _
    unfold f_X8_factorial_4b
    rw [if_pos (nI_lt (by omega) (by omega)), show i - 1 = n by omega]
  | succ k ih =>
    intro N i o hi h1 hN
    obtain ⟨N, rfl⟩ : ∃ N1, N = N1 + 1 := ⟨N - 1, by omega⟩
    show f_X8_factorial_4b (f_X8_factorial_4 N) _ _ (nI i) m o = _
    unfold f_X8_factorial_4b
    have e := ih N (i + 1) o (by omega) (by omega) (by omega)
    rw [fac_st h1] at e
    rw [if_neg (fun z => absurd ((nI_ltI (by omega) (by omega)).mp z) (by omega)), nI_l (by omega), lN_mul, nI_1, e]
theorem e_factorial (m : Mm) {n : Nat} (hn : n ≤ 16) (o : Prop) : F_X8_factorial (nI n) m o = (lN (fac n), m, o) := by
  show f_X8_factorial_4 1000 (nI n) 1 2 m o = _
  by_cases q : n = 0
  · subst q
    show f_X8_factorial_4b (f_X8_factorial_4 999) (nI 0) 1 2 m o = _
    unfold f_X8_factorial_4b
    rw [if_pos (by decide)]
    rfl
  · exact l_factorial m hn (n - 1) 1000 2 o (by omega) (by omega) (by omega)
theorem l_orders (m : Mm) {n : Nat} (hn : n ≤ 16) : ∀ (k N i : Nat) (o : Prop), i + k = n + 1 → 1 ≤ i → k < N → f_X12_ordersOf_4 N (nI n) (lN (fac (i - 1))) (nI i) m o = (lN (fac n), m, o) := by
  intro k
  induction k with
  | zero =>
    intro N i o hi h1 hN
    obtain ⟨N, rfl⟩ : ∃ N1, N = N1 + 1 := ⟨N - 1, by omega⟩
    show f_X12_ordersOf_4b (f_X12_ordersOf_4 N) _ _ (nI i) m o = _
    unfold f_X12_ordersOf_4b
    rw [if_pos (nI_lt (by omega) (by omega)), show i - 1 = n by omega]
  | succ k ih =>
    intro N i o hi h1 hN
    obtain ⟨N, rfl⟩ : ∃ N1, N = N1 + 1 := ⟨N - 1, by omega⟩
    show f_X12_ordersOf_4b (f_X12_ordersOf_4 N) _ _ (nI i) m o = _
    unfold f_X12_ordersOf_4b
    have e := ih N (i + 1) o (by omega) (by omega) (by omega)
    rw [fac_st h1] at e
    rw [if_neg (fun z => absurd ((nI_ltI (by omega) (by omega)).mp z) (by omega)), nI_l (by omega), lN_mul, nI_1, e]
theorem e_orders (m : Mm) {n : Nat} (hn : n ≤ 16) (o : Prop) : F_X12_ordersOf (nI n) m o = (lN (fac n), m, o) := by
  show f_X12_ordersOf_4 1000 (nI n) 1 2 m o = _
  by_cases q : n = 0
  · subst q
    show f_X12_ordersOf_4b (f_X12_ordersOf_4 999) (nI 0) 1 2 m o = _
    unfold f_X12_ordersOf_4b
    rw [if_pos (by decide)]
    rfl
  · exact l_orders m hn (n - 1) 1000 2 o (by omega) (by omega) (by omega)
theorem bin_le : ∀ (n k : Nat), bin n k ≤ 2 ^ n
  | n, 0 => by rw [bin_0]; exact Nat.one_le_two_pow
  | 0, _ + 1 => Nat.zero_le _
  | n + 1, k + 1 => by
    show bin n k + bin n (k + 1) ≤ 2 ^ (n + 1)
    have h1 := bin_le n k
    have h2 := bin_le n (k + 1)
    rw [Nat.pow_succ]; omega
theorem l_choose (m : Mm) {n c : Nat} (hc : c ≤ n) (hn : n ≤ 16) : ∀ (k N i : Nat) (o : Prop), i + k = c → k < N → f_X8_choose_5 N (nI n) (nI c) (lN (bin (n - c + i) i)) (nI (i + 1)) m o = (lN (bin n c), m, o) := by
  intro k
  induction k with
  | zero =>
    intro N i o hi hN
    obtain ⟨N, rfl⟩ : ∃ N1, N = N1 + 1 := ⟨N - 1, by omega⟩
    show f_X8_choose_5b (f_X8_choose_5 N) _ _ _ (nI (i + 1)) m o = _
    unfold f_X8_choose_5b
    rw [if_pos (nI_lt (by omega) (by omega)), show n - c + i = n by omega, show i = c by omega]
  | succ k ih =>
    intro N i o hi hN
    obtain ⟨N, rfl⟩ : ∃ N1, N = N1 + 1 := ⟨N - 1, by omega⟩
    show f_X8_choose_5b (f_X8_choose_5 N) _ _ _ (nI (i + 1)) m o = _
    unfold f_X8_choose_5b
    have e := ih N (i + 1) o (by omega) (by omega)
    have hb : bin (n - c + i) i ≤ 2 ^ 16 := Nat.le_trans (bin_le _ _) (Nat.pow_le_pow_right (by omega) (by omega))
    have hm : bin (n - c + i) i * (n - c + (i + 1)) ≤ 2 ^ 16 * 17 := Nat.mul_le_mul hb (by omega)
    have hd : bin (n - c + i) i * (n - c + (i + 1)) / (i + 1) = bin (n - c + (i + 1)) (i + 1) := by
      have h := bin_mul (n - c + i) i
      rw [Nat.mul_comm (n - c + i + 1) _] at h
      show bin (n - c + i) i * (n - c + i + 1) / (i + 1) = bin (n - c + i + 1) (i + 1)
      rw [← h, Nat.mul_div_cancel _ (by omega)]
    have n0 : ¬ lN (i + 1) = 0 := fun z => absurd ((pk_lEQ (a := i + 1) (b := 0) (by omega) (by omega)).mp z) (by omega)
    rw [if_neg (fun z => absurd ((nI_ltI (by omega) (by omega)).mp z) (by omega)), pk_sub hc, nI_add, nI_l (by omega), nI_l (by omega), lN_mul, pk_lDiv (by omega) (by omega) (by omega), nI_1, hd, eq_true n0, and_true]
    exact e
theorem e_choose (m : Mm) {n c : Nat} (hc : c ≤ n) (hn : n ≤ 16) (o : Prop) : F_X8_choose (nI n) (nI c) m o = (lN (bin n c), m, o) := by
  have h := l_choose m hc hn c 1000 0 o (by omega) (by omega)
  rw [bin_0] at h
  exact h
/-- Euclid's steps: two of them halve -/
theorem gcd_two {b r n : Nat} (hr : r < b) (hr0 : 0 < r) (hb : b < 2 ^ (n + 1)) : b % r < 2 ^ n := by
  have h1 : b % r < r := Nat.mod_lt _ hr0
  have h2 : b % r + r ≤ b := by
    have := Nat.div_add_mod b r
    have h3 : 1 ≤ b / r := (Nat.le_div_iff_mul_le hr0).mpr (by omega)
    have h4 : r * 1 ≤ r * (b / r) := Nat.mul_le_mul_left r h3
    omega
  rw [Nat.pow_succ] at hb
  omega
theorem l_low (m : Mm) (up all what : _) : ∀ (n a b st N : Nat) (o : Prop), a < 2 ^ 63 → b < 2 ^ n → n ≤ 63 → st + 2 * n ≤ 199 → 2 * n < N → f_X11_lowestTerms_9 N up all what (lN a) (lN b) (nI st) m o = f_X11_lowestTerms_45 up all what (lN (Nat.gcd a b)) m o := by
  have fin : ∀ (a st N : Nat) (o : Prop), st ≤ 199 → f_X11_lowestTerms_9 (N + 1) up all what (lN a) (lN 0) (nI st) m o = f_X11_lowestTerms_45 up all what (lN (Nat.gcd a 0)) m o := fun a st N o hs => by
    show f_X11_lowestTerms_9b (f_X11_lowestTerms_9 N) up all what (lN a) (lN 0) (nI st) m o = _
    unfold f_X11_lowestTerms_9b
    rw [if_neg (show ¬ (200 : Int32) ≤ nI (st) from nI_ge (a := st) (b := 200) (by omega) (by omega)), if_pos ((lg_cmp_eq (lN 0) 0).mpr rfl), Nat.gcd_zero_right]
  have one : ∀ (a b st N : Nat) (o : Prop), a < 2 ^ 63 → b < 2 ^ 63 → 0 < b → st ≤ 199 → f_X11_lowestTerms_9 (N + 1) up all what (lN a) (lN b) (nI st) m o = f_X11_lowestTerms_9 N up all what (lN b) (lN (a % b)) (nI (st + 1)) m o := fun a b st N o ha hb h0 hs => by
    show f_X11_lowestTerms_9b (f_X11_lowestTerms_9 N) up all what (lN a) (lN b) (nI st) m o = _
    have n0 : ¬ lN b = 0 := fun z => absurd ((pk_lEQ (a := b) (b := 0) (by omega) (by omega)).mp z) (by omega)
    unfold f_X11_lowestTerms_9b
    rw [if_neg (show ¬ (200 : Int32) ≤ nI (st) from nI_ge (a := st) (b := 200) (by omega) (by omega)), if_neg (fun z => n0 ((lg_cmp_eq _ _).mp z)), lrm, pk_lRem ha h0 hb, nI_1, eq_true n0, and_true]
  intro n
  induction n with
  | zero =>
    intro a b st N o ha hb hn hs hN
    obtain rfl : b = 0 := by omega
    obtain ⟨N, rfl⟩ : ∃ N1, N = N1 + 1 := ⟨N - 1, by omega⟩
    exact fin a st N o (by omega)
  | succ n ih =>
    intro a b st N o ha hb hn hs hN
    have hp : 2 ^ (n + 1) ≤ 2 ^ 63 := Nat.pow_le_pow_right (by omega) hn
    obtain ⟨N, rfl⟩ : ∃ N1, N = N1 + 1 := ⟨N - 1, by omega⟩
    by_cases q : b = 0
    · subst q
      exact fin a st N o (by omega)
    · rw [one a b st N o ha (by omega) (by omega) (by omega)]
      have hr : a % b < b := Nat.mod_lt _ (by omega)
      have hg : Nat.gcd a b = Nat.gcd b (a % b) := by rw [Nat.gcd_comm a b, Nat.gcd_rec b a, Nat.gcd_comm]
      obtain ⟨N, rfl⟩ : ∃ N1, N = N1 + 1 := ⟨N - 1, by omega⟩
      by_cases q1 : a % b = 0
      · rw [q1, fin b (st + 1) N o (by omega), hg, q1]
      · rw [one b (a % b) (st + 1) N o (by omega) (by omega) (by omega) (by omega), hg]
        have hg2 : Nat.gcd b (a % b) = Nat.gcd (a % b) (b % (a % b)) := by rw [Nat.gcd_comm b, Nat.gcd_rec (a % b) b, Nat.gcd_comm]
        rw [hg2]
        exact ih (a % b) (b % (a % b)) (st + 1 + 1) N o (by omega) (gcd_two hr (by omega) hb) (by omega) (by omega) (by omega)
theorem e_low (m : Mm) {up all : Nat} (hu : up < 2 ^ 63) (ha : all < 2 ^ 63) (h0 : 0 < all) (what : Int32) (o : Prop) : F_X11_lowestTerms (lN up) (lN all) what m o = (if what = 0 then lN (up / Nat.gcd up all) else lN (all / Nat.gcd up all), m, o) := by
  show f_X11_lowestTerms_9 1000 (lN up) (lN all) what (lN all) (lN up) (nI 0) m o = _
  rw [l_low m (lN up) (lN all) what 63 all up 0 1000 o ha hu (by omega) (by omega) (by omega), Nat.gcd_comm all up]
  have g0 : 0 < Nat.gcd up all := Nat.gcd_pos_of_pos_right _ h0
  have g1 : Nat.gcd up all ≤ all := Nat.gcd_le_right _ h0
  have n0 : ¬ lN (Nat.gcd up all) = 0 := fun z => absurd ((pk_lEQ (b := 0) (by omega) (by omega)).mp z) (by omega)
  unfold f_X11_lowestTerms_45 f_X11_lowestTerms_55 f_X11_lowestTerms_74
  rw [if_neg (fun z => n0 ((lg_cmp_eq _ _).mp z)), if_neg (fun z => n0 ((lg_cmp_eq _ _).mp z)), pk_lDiv hu g0 (by omega), pk_lDiv ha g0 (by omega), eq_true n0, and_true]
  by_cases q : what = 0
  · rw [if_pos q, if_pos q]
  · rw [if_neg q, if_neg q]
theorem l_divisor (m : Mm) : ∀ (n a b N : Nat) (o : Prop), a < 2 ^ 63 → b < 2 ^ n → n ≤ 63 → 2 * n < N → f_X12_divisor_6 N (lN a) (lN b) m o = (lN (Nat.gcd a b), m, o) := by
  have fin : ∀ (a N : Nat) (o : Prop), f_X12_divisor_6 (N + 1) (lN a) (lN 0) m o = (lN (Nat.gcd a 0), m, o) := fun a N o => by
    show f_X12_divisor_6b (f_X12_divisor_6 N) (lN a) (lN 0) m o = _
    unfold f_X12_divisor_6b
    rw [if_pos ((lg_cmp_eq (lN 0) 0).mpr rfl), Nat.gcd_zero_right]
  have one : ∀ (a b N : Nat) (o : Prop), a < 2 ^ 63 → b < 2 ^ 63 → 0 < b → f_X12_divisor_6 (N + 1) (lN a) (lN b) m o = f_X12_divisor_6 N (lN b) (lN (a % b)) m o := fun a b N o ha hb h0 => by
    show f_X12_divisor_6b (f_X12_divisor_6 N) (lN a) (lN b) m o = _
    have n0 : ¬ lN b = 0 := fun z => absurd ((pk_lEQ (a := b) (b := 0) (by omega) (by omega)).mp z) (by omega)
    unfold f_X12_divisor_6b
    rw [if_neg (fun z => n0 ((lg_cmp_eq _ _).mp z)), lrm, pk_lRem ha h0 hb, eq_true n0, and_true]
  intro n
  induction n with
  | zero =>
    intro a b N o ha hb hn hN
    obtain rfl : b = 0 := by omega
    obtain ⟨N, rfl⟩ : ∃ N1, N = N1 + 1 := ⟨N - 1, by omega⟩
    exact fin a N o
  | succ n ih =>
    intro a b N o ha hb hn hN
    have hp : 2 ^ (n + 1) ≤ 2 ^ 63 := Nat.pow_le_pow_right (by omega) hn
    obtain ⟨N, rfl⟩ : ∃ N1, N = N1 + 1 := ⟨N - 1, by omega⟩
    by_cases q : b = 0
    · subst q
      exact fin a N o
    · rw [one a b N o ha (by omega) (by omega)]
      have hr : a % b < b := Nat.mod_lt _ (by omega)
      have hg : Nat.gcd a b = Nat.gcd b (a % b) := by rw [Nat.gcd_comm a b, Nat.gcd_rec b a, Nat.gcd_comm]
      obtain ⟨N, rfl⟩ : ∃ N1, N = N1 + 1 := ⟨N - 1, by omega⟩
      by_cases q1 : a % b = 0
      · rw [q1, fin b N o, hg, q1]
      · rw [one b (a % b) N o (by omega) (by omega) (by omega), hg]
        have hg2 : Nat.gcd b (a % b) = Nat.gcd (a % b) (b % (a % b)) := by rw [Nat.gcd_comm b, Nat.gcd_rec (a % b) b, Nat.gcd_comm]
        rw [hg2]
        exact ih (a % b) (b % (a % b)) N o (by omega) (gcd_two hr (by omega) hb) (by omega) (by omega)
theorem e_divisor (m : Mm) {a b : Nat} (ha : a < 2 ^ 63) (hb : b < 2 ^ 63) (o : Prop) : F_X12_divisor (lN a) (lN b) m o = (lN (Nat.gcd a b), m, o) := l_divisor m 63 a b 1000 o ha hb (by omega) (by omega)
