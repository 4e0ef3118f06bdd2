/-! ===== what the two forms of a law mean ===== -/
/-- only ints have changed, and only such as P names -/
def Fr (P : Nat → Nat → Prop) (m m' : Mm) : Prop := m'.2 = m.2 ∧ ∀ q i, ¬ P q i → gI m' q i = gI m q i
/-- what a reckoning of the class's law at w may change: truth, value, pile -/
def rkP (w q i : Nat) : Prop := (q = w ∧ (i = 11 ∨ i = 12)) ∨ q = w + 9
/-- the class's instructions from i on to j pile up V of the letters; d places of the pile are wanted -/
def EC (C : Nat → Nat → Int32) (i j d : Nat) (V : (Nat → Int32) → Option Int32) : Prop :=
  i < j ∧ ∀ (w : Nat) (m : Mm), (w = 205 ∨ w = 215) → Sh m → (∀ x, i ≤ x → x < j → gI m (w + 1) x = C 1 x ∧ gI m (w + 2) x = C 2 x) → ∀ (to N st ly : Nat) (top : Int32), j ≤ to → to ≤ 200 → ly + d ≤ 32 → st + (j - i) ≤ 200 →
    (∀ v, V (gI m (w + 7)) = some v → ∃ m', (∀ o, f_X3_reckon_11 (N + (j - i)) w (nI to) top (nI ly) (nI i) (nI st) m o = f_X3_reckon_11 N w (nI to) v (nI (ly + 1)) (nI j) (nI (st + (j - i))) m' o) ∧ Fr (fun q x => q = w + 9 ∧ ly ≤ x) m m' ∧ gI m' (w + 9) ly = top) ∧
    (V (gI m (w + 7)) = none → ∃ m', (∀ o, f_X3_reckon_11 (N + (j - i)) w (nI to) top (nI ly) (nI i) (nI st) m o = (0, m', o)) ∧ Fr (rkP w) m m')
/-- the class's instructions from i on to j set the truth to T of the letters -/
def CC (C : Nat → Nat → Int32) (i j : Nat) (T : (Nat → Int32) → Option Bool) : Prop :=
  i < j ∧ ∀ (w : Nat) (m : Mm), (w = 205 ∨ w = 215) → Sh m → (∀ x, i ≤ x → x < j → gI m (w + 1) x = C 1 x ∧ gI m (w + 2) x = C 2 x) → ∀ (to N st : Nat) (top : Int32), j ≤ to → to ≤ 200 → st + (j - i) ≤ 200 →
    (∀ b, T (gI m (w + 7)) = some b → ∃ m' k top', k ≤ j - i ∧ (∀ o, f_X3_reckon_11 (N + (j - i)) w (nI to) top 0 (nI i) (nI st) m o = f_X3_reckon_11 (N + (j - i) - k) w (nI to) top' 0 (nI j) (nI (st + k)) m' o) ∧ Fr (rkP w) m m' ∧ gI m' w 11 = if b then 1 else 0) ∧
    (T (gI m (w + 7)) = none → ∃ m', (∀ o, f_X3_reckon_11 (N + (j - i)) w (nI to) top 0 (nI i) (nI st) m o = (0, m', o)) ∧ Fr (rkP w) m m')
/-- the letters, as they are written -/
def lch (j : Nat) : Int32 := if j = 0 then 104 else if j = 1 then 118 else if j = 2 then 119 else if j = 3 then 120 else if j = 4 then 107 else if j = 5 then 115 else if j = 6 then 116 else if j = 7 then 100 else if j = 8 then 98 else 117
/-- the other side's letters are l, whatever its worths are -/
def LetM (m : Mm) (l : Nat → Int32) : Prop := ∀ m', Fr (fun q _ => q = 254 ∨ q = 255) m m' → ∀ j, j < 10 → ∀ o, F_X12_valueOf 225 (lch j) m' o = (l j, m', o)
def okV (x : Option Int32) (r w : Int32) : Prop := (∀ v, x = some v → r = 0 ∧ w = v) ∧ (x = none → r = 1)
/-- the other's codes from i on to j leave V of the letters as one worth more -/
def RE (D : Nat → Nat → Int32) (i j : Nat) (V : (Nat → Int32) → Option Int32) : Prop :=
  i < j ∧ ∀ m, Sh m → (∀ x, i ≤ x → x < j → gI m 245 x = D 4 x ∧ gI m 246 x = D 5 x) → ∀ l, LetM m l → ∀ (to N n : Nat), j ≤ to → to ≤ 200 → n + (j - i) ≤ 240 → ∃ m', (∀ o, f_X12_works_5 (N + (j - i)) 225 (nI to) (nI n) (nI i) m o = f_X12_works_5 N 225 (nI to) (nI (n + 1)) (nI j) m' o) ∧ Fr (fun q x => (q = 254 ∨ q = 255) ∧ n ≤ x) m m' ∧ okV (V l) (gI m' 255 n) (gI m' 254 n)
def b2i (b : Bool) : Int32 := if b then 1 else 0
def tV (T : (Nat → Int32) → Option Bool) (l : Nat → Int32) : Option Int32 := (T l).map b2i
/-- it asks for no letter but those that are marked -/
def dep {α : Type} (mk : Nat → Int32) (F : (Nat → Int32) → α) : Prop := ∀ l l', (∀ j, j < 10 → mk j = -1 → l j = l' j) → F l = F l'
def allm : Nat → Int32 := fun _ => -1
/-- the two forms of one law: the class's rows C (1 .. 6, 8) with cc clauses, the reference's D with cm -/
def LwP (cc : Int32) (C : Nat → Nat → Int32) (cm : Int32) (D : Nat → Nat → Int32) : Prop := ∃ n, n ≤ 14 ∧ cc = nI n ∧ cm = nI n ∧ (∀ j, j < 10 → C 8 j = 0 ∨ C 8 j = -1) ∧ ∃ (T : Nat → (Nat → Int32) → Option Bool) (V : Nat → (Nat → Int32) → Option Int32), ∀ k, k < n → ∃ ch vs cs ce s f t : Nat, (ch = 110 ∨ ch = 101 ∨ ch = 103) ∧ C 3 k = nI ch ∧ D 0 k = nI ch ∧ C 4 k = nI vs ∧ C 5 k = nI cs ∧ C 6 k = nI ce ∧ D 1 k = nI s ∧ D 2 k = nI f ∧ D 3 k = nI t ∧ ce ≤ 200 ∧ t ≤ 200 ∧ CC C cs ce (T k) ∧ RE D f t (tV (T k)) ∧ (ch ≠ 110 → ∃ d, d ≤ 32 ∧ EC C vs cs d (V k) ∧ RE D s f (V k)) ∧ dep allm (T k) ∧ dep allm (V k) ∧ (ch ≠ 103 → dep (C 8) (T k) ∧ (ch ≠ 110 → dep (C 8) (V k)))
