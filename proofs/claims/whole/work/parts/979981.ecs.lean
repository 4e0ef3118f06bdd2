/-! ===== what pieces of the class's code mean, put together ===== -/
theorem EC_mono {C : Nat → Nat → Int32} {i j d d' : Nat} {V : (Nat → Int32) → Option Int32} (h : EC C i j d V) (hd : d ≤ d') : EC C i j d' V :=
  ⟨h.1, fun w m hw hS hc to N st ly top a b c e => h.2 w m hw hS hc to N st ly top a b (by omega) e⟩
theorem EC_congr {C C' : Nat → Nat → Int32} {i j d : Nat} {V : (Nat → Int32) → Option Int32} (h : EC C i j d V) (hC : ∀ x, i ≤ x → x < j → C' 1 x = C 1 x ∧ C' 2 x = C 2 x) : EC C' i j d V :=
  ⟨h.1, fun w m hw hS hc => h.2 w m hw hS (fun x a b => ⟨(hc x a b).1.trans (hC x a b).1, (hc x a b).2.trans (hC x a b).2⟩)⟩
theorem CC_congr {C C' : Nat → Nat → Int32} {i j : Nat} {T : (Nat → Int32) → Option Bool} (h : CC C i j T) (hC : ∀ x, i ≤ x → x < j → C' 1 x = C 1 x ∧ C' 2 x = C 2 x) : CC C' i j T :=
  ⟨h.1, fun w m hw hS hc => h.2 w m hw hS (fun x a b => ⟨(hc x a b).1.trans (hC x a b).1, (hc x a b).2.trans (hC x a b).2⟩)⟩
theorem EC_num {C : Nat → Nat → Int32} {i : Nat} {v : Int32} (h1 : C 1 i = 1) (h2 : C 2 i = v) : EC C i (i + 1) 1 (fun _ => some v) := by
  refine ⟨by omega, fun w m hw h hc to N st ly top hj ht hl hst => ⟨fun v' hv => ?_, fun z => by cases z⟩⟩
  cases hv
  obtain ⟨a, b⟩ := hc i (Nat.le_refl _) (by omega)
  have e : i + 1 - i = 1 := by omega
  rw [e] at hst ⊢
  exact ⟨sI m (w + 9) ly top, fun o => rk_num h hw top (by omega) ht (by omega) (a.trans h1) (b.trans h2) (by omega) o, Fr_sI (P := fun q x => q = w + 9 ∧ ly ≤ x) (Fr_refl _ m) ⟨rfl, Nat.le_refl _⟩ _, by rw [gI_sI, if_pos ⟨rfl, rfl⟩]⟩
theorem EC_let {C : Nat → Nat → Int32} {i k : Nat} (h1 : C 1 i = 2) (h2 : C 2 i = nI k) (hk : k < 10) : EC C i (i + 1) 1 (fun l => some (l k)) := by
  refine ⟨by omega, fun w m hw h hc to N st ly top hj ht hl hst => ⟨fun v' hv => ?_, fun z => by cases z⟩⟩
  cases hv
  obtain ⟨a, b⟩ := hc i (Nat.le_refl _) (by omega)
  have e : i + 1 - i = 1 := by omega
  rw [e] at hst ⊢
  exact ⟨sI m (w + 9) ly top, fun o => rk_let h hw top (by omega) ht (by omega) (a.trans h1) (b.trans h2) hk (by omega) o, Fr_sI (P := fun q x => q = w + 9 ∧ ly ≤ x) (Fr_refl _ m) ⟨rfl, Nat.le_refl _⟩ _, by rw [gI_sI, if_pos ⟨rfl, rfl⟩]⟩
/-- two values piled up, one behind the other -/
theorem EC_two {C : Nat → Nat → Int32} {i j k d d' D : Nat} {V V' : (Nat → Int32) → Option Int32} (hL : EC C i j d V) (hR : EC C j k d' V') (hd : d ≤ D) (hd' : d' + 1 ≤ D) : i < j ∧ j < k ∧ ∀ (w : Nat) (m : Mm), isW w → Sh m → (∀ x, i ≤ x → x < k → gI m (w + 1) x = C 1 x ∧ gI m (w + 2) x = C 2 x) → ∀ (to N st ly : Nat) (top : Int32), k ≤ to → to ≤ 200 → ly + D ≤ 32 → st + (k - i) ≤ 200 →
    (∀ v1 v2, V (gI m (w + 7)) = some v1 → V' (gI m (w + 7)) = some v2 → ∃ m', (∀ o, f_X3_reckon_11 (N + (k - i)) w (nI to) top (nI ly) (nI i) (nI st) m o = f_X3_reckon_11 N w (nI to) v2 (nI (ly + 1 + 1)) (nI k) (nI (st + (k - i))) m' o) ∧ Fr (fun q x => q = w + 9 ∧ ly ≤ x) m m' ∧ gI m' (w + 9) ly = top ∧ gI m' (w + 9) (ly + 1) = v1) ∧
    (V (gI m (w + 7)) = none ∨ V' (gI m (w + 7)) = none → ∃ m', (∀ o, f_X3_reckon_11 (N + (k - i)) w (nI to) top (nI ly) (nI i) (nI st) m o = (0, m', o)) ∧ Fr (rkP w) m m') := by
  obtain ⟨hij, cL⟩ := hL
  obtain ⟨hjk, cR⟩ := hR
  refine ⟨hij, hjk, fun w m hw h hc to N st ly top hk ht hl hst => ?_⟩
  obtain ⟨L1, L2⟩ := cL w m hw h (fun x a b => hc x a (by omega)) to (N + (k - j)) st ly top (by omega) ht (by omega) (by omega)
  rw [show N + (k - j) + (j - i) = N + (k - i) by omega] at L1 L2
  cases hV : V (gI m (w + 7)) with
  | none =>
    obtain ⟨m', a1, a2⟩ := L2 hV
    exact ⟨fun v1 v2 z => (by cases z), fun _ => ⟨m', a1, a2⟩⟩
  | some v1 =>
    obtain ⟨m1, a1, a2, a3⟩ := L1 v1 hV
    have s1 := Fr_Sh a2 h
    have e7 : gI m1 (w + 7) = gI m (w + 7) := funext (fun x => Fr_at a2 (by omega))
    obtain ⟨R1, R2⟩ := cR w m1 hw s1 (fun x a b => by rw [Fr_at a2 (by omega), Fr_at a2 (by omega)]; exact hc x (by omega) b) to N (st + (j - i)) (ly + 1) v1 hk ht (by omega) (by omega)
    rw [e7] at R1 R2
    cases hV' : V' (gI m (w + 7)) with
    | none =>
      obtain ⟨m2, b1, b2⟩ := R2 hV'
      exact ⟨fun v1 v2 _ z => (by cases z), fun _ => ⟨m2, fun o => (a1 o).trans (b1 o), Fr_trans (Fr_mono a2 (fun q x hq => .inr hq.1)) b2⟩⟩
    | some v2 =>
      obtain ⟨m2, b1, b2, b3⟩ := R1 v2 hV'
      refine ⟨fun u1 u2 z1 z2 => ?_, fun z => by rcases z with z | z <;> cases z⟩
      cases z1
      cases z2
      refine ⟨m2, fun o => ?_, Fr_trans a2 (Fr_mono b2 (fun q x hq => ⟨hq.1, by omega⟩)), by rw [Fr_at b2 (by omega)]; exact a3, b3⟩
      rw [a1, b1, show st + (j - i) + (k - j) = st + (k - i) by omega]
theorem EC_bin {C : Nat → Nat → Int32} {i j k d d' D op : Nat} {V V' : (Nat → Int32) → Option Int32} (hL : EC C i j d V) (hR : EC C j k d' V') (hd : d ≤ D) (hd' : d' + 1 ≤ D) (hD : 2 ≤ D) (hop : isBin op) (h1 : C 1 k = nI op) : EC C i (k + 1) D (vBin op V V') := by
  obtain ⟨hij, hjk, hT⟩ := EC_two hL hR hd hd'
  refine ⟨by omega, fun w m hw h hc to N st ly top hk ht hl hst => ?_⟩
  obtain ⟨T1, T2⟩ := hT w m hw h (fun x a b => hc x a (by omega)) to (N + 1) st ly top (by omega) ht hl (by omega)
  rw [show N + 1 + (k - i) = N + (k + 1 - i) by omega] at T1 T2
  unfold vBin
  cases hV : V (gI m (w + 7)) with
  | none => exact ⟨fun v z => (by cases z), fun _ => T2 (.inl hV)⟩
  | some v1 =>
    cases hV' : V' (gI m (w + 7)) with
    | none => exact ⟨fun v z => (by cases z), fun _ => T2 (.inr hV')⟩
    | some v2 =>
      obtain ⟨m2, b1, b2, b3, b4⟩ := T1 v1 v2 hV hV'
      have s2 := Fr_Sh b2 h
      have hk' : gI m2 (w + 1) k = nI op := by
        rw [Fr_at b2 (by omega)]
        exact (hc k (by omega) (by omega)).1.trans h1
      obtain ⟨c1, c2⟩ := rk_bin s2 hw (N := N) (to := to) (x := k) (st := st + (k - i)) v2 (by omega) ht (by omega) hop hk' (y := ly + 1) (by omega)
      rw [b4] at c1 c2
      rw [show st + (k - i) + 1 = st + (k + 1 - i) by omega] at c1
      exact ⟨fun v z => ⟨m2, fun o => (b1 o).trans (c1 v z o), b2, b3⟩, fun z => ⟨m2, fun o => (b1 o).trans (c2 z o), Fr_mono b2 (fun q x hq => .inr hq.1)⟩⟩
theorem CC_cmp {C : Nat → Nat → Int32} {i j k d d' op : Nat} {V V' : (Nat → Int32) → Option Int32} (hL : EC C i j d V) (hR : EC C j k d' V') (hd : d ≤ 32) (hd' : d' + 1 ≤ 32) (hop : isCmp op) (h1 : C 1 k = nI op) : CC C i (k + 1) (tCmp op V V') := by
  obtain ⟨hij, hjk, hT⟩ := EC_two hL hR hd hd'
  refine ⟨by omega, fun w m hw h hc to N st top hk ht hst => ?_⟩
  obtain ⟨T1, T2⟩ := hT w m hw h (fun x a b => hc x a (by omega)) to (N + 1) st 0 top (by omega) ht (by omega) (by omega)
  rw [show N + 1 + (k - i) = N + (k + 1 - i) by omega, nI_0] at T1 T2
  unfold tCmp
  cases hV : V (gI m (w + 7)) with
  | none => exact ⟨fun v z => (by cases z), fun _ => T2 (.inl hV)⟩
  | some v1 =>
    cases hV' : V' (gI m (w + 7)) with
    | none => exact ⟨fun v z => (by cases z), fun _ => T2 (.inr hV')⟩
    | some v2 =>
      obtain ⟨m2, b1, b2, b3, b4⟩ := T1 v1 v2 hV hV'
      have s2 := Fr_Sh b2 h
      have hk' : gI m2 (w + 1) k = nI op := by
        rw [Fr_at b2 (by omega)]
        exact (hc k (by omega) (by omega)).1.trans h1
      have c1 := rk_cmp s2 hw (N := N) (to := to) (x := k) (st := st + (k - i)) v2 (by omega) ht (by omega) hop hk' (y := 0 + 1) (by omega)
      rw [b4] at c1
      refine ⟨fun b z => ⟨sI m2 w 11 (if opT op v1 v2 then 1 else 0), k + 1 - i, v2, Nat.le_refl _, fun o => ?_, Fr_sI (Fr_mono b2 (fun q x hq => .inr hq.1)) (.inl ⟨rfl, .inl rfl⟩) _, ?_⟩, fun z => by cases z⟩
      · rw [b1, c1, show N + (k + 1 - i) - (k + 1 - i) = N by omega, show st + (k - i) + 1 = st + (k + 1 - i) by omega]
      · cases z
        rw [gI_sI, if_pos ⟨rfl, rfl⟩]
theorem CC_not {C : Nat → Nat → Int32} {i j : Nat} {T : (Nat → Int32) → Option Bool} (hT : CC C i j T) (h1 : C 1 j = 33) : CC C i (j + 1) (tNot T) := by
  obtain ⟨hij, hT⟩ := hT
  refine ⟨by omega, fun w m hw h hc to N st top hk ht hst => ?_⟩
  obtain ⟨T1, T2⟩ := hT w m hw h (fun x a b => hc x a (by omega)) to (N + 1) st top (by omega) ht (by omega)
  rw [show N + 1 + (j - i) = N + (j + 1 - i) by omega] at T1 T2
  unfold tNot
  cases hV : T (gI m (w + 7)) with
  | none => exact ⟨fun v z => (by cases z), fun _ => T2 hV⟩
  | some b =>
    obtain ⟨m1, k, top', hk1, b1, b2, b3⟩ := T1 b hV
    have s1 := Fr_Sh b2 h
    have hj' : gI m1 (w + 1) j = 33 := by
      rw [Fr_at b2 (by unfold rkP; omega)]
      exact (hc j (by omega) (by omega)).1.trans h1
    have c1 := rk_not s1 hw (N := N + (j - i) - k) (to := to) (x := j) (st := st + k) top' (by omega) ht (by omega) (ly := 0) hj'
    rw [show N + (j - i) - k + 1 = N + (j + 1 - i) - k by omega] at c1
    refine ⟨fun b' z => ⟨sI m1 w 11 (if gI m1 w 11 = 0 then 1 else 0), k + 1, top', by omega, fun o => ?_, Fr_sI b2 (.inl ⟨rfl, .inl rfl⟩) _, ?_⟩, fun z => by cases z⟩
    · rw [b1, c1, show N + (j - i) - k = N + (j + 1 - i) - (k + 1) by omega, show st + k + 1 = st + (k + 1) by omega]
    · have z : some (!b) = some b' := z
      cases z
      rw [gI_sI, if_pos ⟨rfl, rfl⟩, b3]
      cases b <;> decide
theorem CC_and {C : Nat → Nat → Int32} {i j e : Nat} {T R : (Nat → Int32) → Option Bool} (hT : CC C i j T) (h1 : C 1 j = 38) (h2 : C 2 j = nI e) (hR : CC C (j + 1) e R) : CC C i e (tAnd T R) := by
  obtain ⟨hij, hT⟩ := hT
  obtain ⟨hje, hR⟩ := hR
  refine ⟨by omega, fun w m hw h hc to N st top hk ht hst => ?_⟩
  obtain ⟨T1, T2⟩ := hT w m hw h (fun x a b => hc x a (by omega)) to (N + (e - j)) st top (by omega) ht (by omega)
  rw [show N + (e - j) + (j - i) = N + (e - i) by omega] at T1 T2
  unfold tAnd
  cases hV : T (gI m (w + 7)) with
  | none => exact ⟨fun v z => (by cases z), fun _ => T2 hV⟩
  | some b =>
    obtain ⟨m1, k, top', hk1, b1, b2, b3⟩ := T1 b hV
    have s1 := Fr_Sh b2 h
    have e7 : gI m1 (w + 7) = gI m (w + 7) := funext (fun x => Fr_at b2 (by unfold rkP; omega))
    have hc1 : ∀ x, i ≤ x → x < e → gI m1 (w + 1) x = C 1 x ∧ gI m1 (w + 2) x = C 2 x := fun x a b => by
      rw [Fr_at b2 (by unfold rkP; omega), Fr_at b2 (by unfold rkP; omega)]
      exact hc x a b
    have c1 := rk_and s1 hw (N := N + (e - i) - k - 1) (to := to) (x := j) (st := st + k) top' (by omega) ht (by omega) (ly := 0) ((hc1 j (by omega) (by omega)).1.trans h1) ((hc1 j (by omega) (by omega)).2.trans h2)
    rw [show N + (e - i) - k - 1 + 1 = N + (e - i) - k by omega, b3] at c1
    cases b with
    | false =>
      rw [if_pos (show (if false = true then (1 : Int32) else 0) = 0 by decide)] at c1
      refine ⟨fun b' z => ⟨m1, k + 1, top', by omega, fun o => ?_, b2, ?_⟩, fun z => by cases z⟩
      · rw [b1, c1, show N + (e - i) - k - 1 = N + (e - i) - (k + 1) by omega, show st + k + 1 = st + (k + 1) by omega]
      · have z : some false = some b' := z
        cases z
        exact b3
    | true =>
      rw [if_pos rfl, if_neg (by decide)] at c1
      obtain ⟨R1, R2⟩ := hR w m1 hw s1 (fun x a b => hc1 x (by omega) b) to (N + (j - i) - k) (st + k + 1) top' hk ht (by omega)
      rw [show N + (j - i) - k + (e - (j + 1)) = N + (e - i) - k - 1 by omega, e7] at R1 R2
      refine ⟨fun b' z => ?_, fun z => ?_⟩
      · obtain ⟨m2, k2, top2, hk2, d1, d2, d3⟩ := R1 b' z
        refine ⟨m2, k + 1 + k2, top2, by omega, fun o => ?_, Fr_trans b2 d2, d3⟩
        rw [b1, c1, d1, show N + (e - i) - k - 1 - k2 = N + (e - i) - (k + 1 + k2) by omega, show st + k + 1 + k2 = st + (k + 1 + k2) by omega]
      · obtain ⟨m2, d1, d2⟩ := R2 z
        exact ⟨m2, fun o => by rw [b1, c1, d1], Fr_trans b2 d2⟩
theorem CC_or {C : Nat → Nat → Int32} {i j e : Nat} {T R : (Nat → Int32) → Option Bool} (hT : CC C i j T) (h1 : C 1 j = 124) (h2 : C 2 j = nI e) (hR : CC C (j + 1) e R) : CC C i e (tOr T R) := by
  obtain ⟨hij, hT⟩ := hT
  obtain ⟨hje, hR⟩ := hR
  refine ⟨by omega, fun w m hw h hc to N st top hk ht hst => ?_⟩
  obtain ⟨T1, T2⟩ := hT w m hw h (fun x a b => hc x a (by omega)) to (N + (e - j)) st top (by omega) ht (by omega)
  rw [show N + (e - j) + (j - i) = N + (e - i) by omega] at T1 T2
  unfold tOr
  cases hV : T (gI m (w + 7)) with
  | none => exact ⟨fun v z => (by cases z), fun _ => T2 hV⟩
  | some b =>
    obtain ⟨m1, k, top', hk1, b1, b2, b3⟩ := T1 b hV
    have s1 := Fr_Sh b2 h
    have e7 : gI m1 (w + 7) = gI m (w + 7) := funext (fun x => Fr_at b2 (by unfold rkP; omega))
    have hc1 : ∀ x, i ≤ x → x < e → gI m1 (w + 1) x = C 1 x ∧ gI m1 (w + 2) x = C 2 x := fun x a b => by
      rw [Fr_at b2 (by unfold rkP; omega), Fr_at b2 (by unfold rkP; omega)]
      exact hc x a b
    have c1 := rk_or s1 hw (N := N + (e - i) - k - 1) (to := to) (x := j) (st := st + k) top' (by omega) ht (by omega) (ly := 0) ((hc1 j (by omega) (by omega)).1.trans h1) ((hc1 j (by omega) (by omega)).2.trans h2)
    rw [show N + (e - i) - k - 1 + 1 = N + (e - i) - k by omega, b3] at c1
    cases b with
    | true =>
      rw [if_pos rfl, if_neg (by decide)] at c1
      refine ⟨fun b' z => ⟨m1, k + 1, top', by omega, fun o => ?_, b2, ?_⟩, fun z => by cases z⟩
      · rw [b1, c1, show N + (e - i) - k - 1 = N + (e - i) - (k + 1) by omega, show st + k + 1 = st + (k + 1) by omega]
      · have z : some true = some b' := z
        cases z
        exact b3
    | false =>
      rw [if_pos (show (if false = true then (1 : Int32) else 0) = 0 by decide)] at c1
      obtain ⟨R1, R2⟩ := hR w m1 hw s1 (fun x a b => hc1 x (by omega) b) to (N + (j - i) - k) (st + k + 1) top' hk ht (by omega)
      rw [show N + (j - i) - k + (e - (j + 1)) = N + (e - i) - k - 1 by omega, e7] at R1 R2
      refine ⟨fun b' z => ?_, fun z => ?_⟩
      · obtain ⟨m2, k2, top2, hk2, d1, d2, d3⟩ := R1 b' z
        refine ⟨m2, k + 1 + k2, top2, by omega, fun o => ?_, Fr_trans b2 d2, d3⟩
        rw [b1, c1, d1, show N + (e - i) - k - 1 - k2 = N + (e - i) - (k + 1 + k2) by omega, show st + k + 1 + k2 = st + (k + 1 + k2) by omega]
      · obtain ⟨m2, d1, d2⟩ := R2 z
        exact ⟨m2, fun o => by rw [b1, c1, d1], Fr_trans b2 d2⟩
