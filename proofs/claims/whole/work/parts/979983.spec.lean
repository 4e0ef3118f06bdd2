/-! ===== a law's text read: what both sides are held against =====
s a is the sign at a, 0 at the end; r how many more ( [ ! may be open; a result is a fault and its place, or the place behind and what it means -/
abbrev VE : Type := (Nat → Int32) → Option Int32
abbrev VC : Type := (Nat → Int32) → Option Bool
abbrev PRs (α : Type) : Type := Sum (Nat × Nat) (Nat × α)
def isDg (c : Nat) : Prop := 48 ≤ c ∧ c ≤ 57
def isTm (c : Nat) : Prop := c = 42 ∨ c = 47 ∨ c = 37
def isPl (c : Nat) : Prop := c = 43 ∨ c = 45
def lix (c : Nat) : Nat := if c = 104 then 0 else if c = 118 then 1 else if c = 119 then 2 else if c = 120 then 3 else if c = 107 then 4 else if c = 115 then 5 else if c = 116 then 6 else if c = 100 then 7 else if c = 98 then 8 else if c = 117 then 9 else 10
noncomputable def iT {α : Type} (p : Prop) (a b : α) : α := @ite _ p (Classical.propDecidable p) a b
theorem iT_pos {α : Type} {p : Prop} (h : p) (a b : α) : iT p a b = a := if_pos h
theorem iT_neg {α : Type} {p : Prop} (h : ¬ p) (a b : α) : iT p a b = b := if_neg h
noncomputable def sDg (s : Nat → Nat) : Nat → Nat → Nat → PRs Nat
  | 0, v, a => iT (isDg (s a)) (.inl (2, a)) (.inr (a, v))
  | r + 1, v, a => iT (isDg (s a)) (sDg s r (10 * v + s a - 48) (a + 1)) (.inr (a, v))
/-- a result led on -/
def bS {α β : Type} (x : PRs α) (f : Nat → α → PRs β) : PRs β := match x with
  | .inl e => .inl e
  | .inr q => f q.1 q.2
noncomputable def sFc (s : Nat → Nat) (rc : Option (Nat → PRs VE)) (a : Nat) : PRs VE :=
  iT (s a = 91) (match rc with
    | none => .inl (5, a)
    | some f => bS (f (a + 1)) (fun p V => iT (s p = 93) (.inr (p + 1, V)) (.inl (1, p))))
  (iT (isDg (s a)) (bS (sDg s 5 0 a) (fun p v => .inr (p, fun _ => some (nI v))))
  (iT (lix (s a) < 10) (.inr (a + 1, fun l => some (l (lix (s a))))) (.inl (1, a))))
def jV (M : Option (Nat × VE)) (V : VE) : VE := match M with
  | none => V
  | some q => vBin q.1 q.2 V
noncomputable def sEl (s : Nat → Nat) (rc : Option (Nat → PRs VE)) : Nat → Option (Nat × VE) → Option (Nat × VE) → Nat → PRs VE
  | 0, _, _, a => .inl (0, a)
  | k + 1, A, M, a => bS (sFc s rc a) (fun p V =>
    iT (isTm (s p)) (sEl s rc k A (some (s p, jV M V)) (p + 1))
    (iT (isPl (s p)) (sEl s rc k (some (s p, jV A (jV M V))) none (p + 1)) (.inr (p, jV A (jV M V)))))
noncomputable def sE (s : Nat → Nat) : Nat → Nat → PRs VE
  | 0, a => sEl s none 200 none none a
  | r + 1, a => sEl s (some (sE s r)) 200 none none a
def jA (A : Option VC) (T : VC) : VC := match A with
  | none => T
  | some q => tAnd q T
def jO (A : Option VC) (T : VC) : VC := match A with
  | none => T
  | some q => tOr q T
noncomputable def sCl (s : Nat → Nat) (f : Nat → PRs VC) : Nat → Option VC → Option VC → Nat → PRs VC
  | 0, _, _, a => .inl (0, a)
  | k + 1, O, A, a => bS (f a) (fun p T =>
    iT (s p = 38) (sCl s f k O (some (jA A T)) (p + 1))
    (iT (s p = 124) (sCl s f k (some (jO O (jA A T))) none (p + 1)) (.inr (p, jO O (jA A T)))))
noncomputable def sPc (s : Nat → Nat) (r : Nat) (rc : Option (Nat → PRs VC)) (a : Nat) : PRs VC :=
  iT (s a = 33) (match rc with
    | none => .inl (5, a)
    | some f => bS (f (a + 1)) (fun p T => .inr (p, tNot T)))
  (iT (s a = 40) (match rc with
    | none => .inl (5, a)
    | some f => bS (sCl s f 200 none none (a + 1)) (fun p T => iT (s p = 41) (.inr (p + 1, T)) (.inl (1, p))))
  (bS (sE s r a) (fun p V => iT (isCmp (s p)) (bS (sE s r (p + 1)) (fun q W => .inr (q, tCmp (s p) V W))) (.inl (1, p)))))
noncomputable def sP (s : Nat → Nat) : Nat → Nat → PRs VC
  | 0, a => sPc s 0 none a
  | r + 1, a => sPc s (r + 1) (some (sP s r)) a
/-- a clause behind its letter c -/
noncomputable def sKl (s : Nat → Nat) (c a : Nat) : PRs (VE × VC) :=
  bS (iT (c = 110) (.inr (a, fun _ => none)) (sE s 6 a)) (fun p V =>
    iT (s p = 40) (bS (sCl s (sP s 5) 200 none none (p + 1)) (fun q T => iT (s q = 41) (.inr (q + 1, (V, T))) (.inl (1, q)))) (.inl (1, p)))
/-! how far a result has come -/
def prg {α : Type} (n a : Nat) (x : PRs α) : Prop := ∀ q, x = .inr q → a < q.1 ∧ q.1 ≤ n
theorem prg_inl {α : Type} {n a : Nat} {e : Nat × Nat} : prg n a (Sum.inl e : PRs α) := fun q z => by cases z
theorem prg_inr {α : Type} {n a p : Nat} {v : α} (h : a < p ∧ p ≤ n) : prg n a (Sum.inr (p, v) : PRs α) := fun q z => by cases z; exact h
theorem prg_iT {α : Type} {n a : Nat} {c : Prop} {x y : PRs α} (hx : c → prg n a x) (hy : ¬ c → prg n a y) : prg n a (iT c x y) := by
  by_cases q : c
  · rw [iT_pos q]; exact hx q
  · rw [iT_neg q]; exact hy q
theorem prg_bS {α β : Type} {n a : Nat} {x : PRs α} {f : Nat → α → PRs β} (b : Nat) (hx : prg n b x) (hf : ∀ p v, b < p → p ≤ n → prg n a (f p v)) : prg n a (bS x f) := by
  cases x with
  | inl e => exact prg_inl
  | inr q => exact hf q.1 q.2 (hx q rfl).1 (hx q rfl).2
theorem prg_le {α : Type} {n a b : Nat} {x : PRs α} (h : prg n b x) (hab : a ≤ b) : prg n a x := fun q z => ⟨Nat.lt_of_le_of_lt hab (h q z).1, (h q z).2⟩
theorem sDg_prog {s : Nat → Nat} {n : Nat} (h0 : ∀ x, n ≤ x → s x = 0) : ∀ (r v a : Nat), a ≤ n → ∀ q, sDg s r v a = .inr q → a ≤ q.1 ∧ q.1 ≤ n ∧ (isDg (s a) → a < q.1)
  | 0, v, a, ha, q, z => by
    unfold sDg at z
    by_cases c : isDg (s a)
    · rw [iT_pos c] at z; cases z
    · rw [iT_neg c] at z; cases z; exact ⟨Nat.le_refl _, ha, fun y => absurd y c⟩
  | r + 1, v, a, ha, q, z => by
    unfold sDg at z
    by_cases c : isDg (s a)
    · rw [iT_pos c] at z
      have han : a < n := by
        by_cases y : n ≤ a
        · have := h0 a y; unfold isDg at c; omega
        · omega
      obtain ⟨p1, p2, -⟩ := sDg_prog h0 r _ (a + 1) han q z
      exact ⟨by omega, p2, fun _ => by omega⟩
    · rw [iT_neg c] at z; cases z; exact ⟨Nat.le_refl _, ha, fun y => absurd y c⟩
theorem lt_of_sg {s : Nat → Nat} {n : Nat} (h0 : ∀ x, n ≤ x → s x = 0) {a : Nat} (h : s a ≠ 0) : a < n := by
  by_cases y : n ≤ a
  · exact absurd (h0 a y) h
  · omega
def prO {α : Type} (n : Nat) (rc : Option (Nat → PRs α)) : Prop := ∀ f, rc = some f → ∀ a, a ≤ n → prg n a (f a)
theorem sFc_prog {s : Nat → Nat} {n : Nat} (h0 : ∀ x, n ≤ x → s x = 0) {rc : Option (Nat → PRs VE)} (hr : prO n rc) {a : Nat} (ha : a ≤ n) : prg n a (sFc s rc a) := by
  unfold sFc
  refine prg_iT (fun c => ?_) (fun c => prg_iT (fun c2 => ?_) (fun c2 => prg_iT (fun c3 => ?_) (fun c3 => prg_inl)))
  · have han : a < n := lt_of_sg h0 (by omega)
    cases rc with
    | none => exact prg_inl
    | some f => exact prg_bS (a + 1) (hr f rfl (a + 1) han) (fun p v h1 h2 => prg_iT (fun c4 => prg_inr ⟨by omega, lt_of_sg h0 (by omega)⟩) (fun c4 => prg_inl))
  · cases hd : sDg s 5 0 a with
    | inl e => exact prg_inl
    | inr q =>
      obtain ⟨p1, p2, p3⟩ := sDg_prog h0 5 0 a ha q hd
      exact prg_inr ⟨p3 c2, p2⟩
  · have : s a ≠ 0 := fun z => by rw [z] at c3; exact absurd c3 (by decide)
    exact prg_inr ⟨by omega, lt_of_sg h0 this⟩
theorem sEl_prog {s : Nat → Nat} {n : Nat} (h0 : ∀ x, n ≤ x → s x = 0) {rc : Option (Nat → PRs VE)} (hr : prO n rc) : ∀ (k : Nat) (A M : Option (Nat × VE)) (a : Nat), a ≤ n → prg n a (sEl s rc k A M a)
  | 0, _, _, _, _ => prg_inl
  | k + 1, A, M, a, ha => by
    unfold sEl
    refine prg_bS a (sFc_prog h0 hr ha) (fun p V h1 h2 => prg_iT (fun c => ?_) (fun c => prg_iT (fun c2 => ?_) (fun c2 => prg_inr ⟨h1, h2⟩)))
    · have hp : p < n := lt_of_sg h0 (by unfold isTm at c; omega)
      exact prg_le (sEl_prog h0 hr k _ _ (p + 1) hp) (by omega)
    · have hp : p < n := lt_of_sg h0 (by unfold isPl at c2; omega)
      exact prg_le (sEl_prog h0 hr k _ _ (p + 1) hp) (by omega)
theorem sE_prog {s : Nat → Nat} {n : Nat} (h0 : ∀ x, n ≤ x → s x = 0) : ∀ (r a : Nat), a ≤ n → prg n a (sE s r a)
  | 0, a, ha => sEl_prog h0 (fun f z => by cases z) 200 none none a ha
  | r + 1, a, ha => sEl_prog h0 (fun f z => by cases z; exact fun b hb => sE_prog h0 r b hb) 200 none none a ha
theorem sCl_prog {s : Nat → Nat} {n : Nat} (h0 : ∀ x, n ≤ x → s x = 0) {f : Nat → PRs VC} (hf : ∀ a, a ≤ n → prg n a (f a)) : ∀ (k : Nat) (O A : Option VC) (a : Nat), a ≤ n → prg n a (sCl s f k O A a)
  | 0, _, _, _, _ => prg_inl
  | k + 1, O, A, a, ha => by
    unfold sCl
    refine prg_bS a (hf a ha) (fun p V h1 h2 => prg_iT (fun c => ?_) (fun c => prg_iT (fun c2 => ?_) (fun c2 => prg_inr ⟨h1, h2⟩)))
    · have hp : p < n := lt_of_sg h0 (by omega)
      exact prg_le (sCl_prog h0 hf k _ _ (p + 1) hp) (by omega)
    · have hp : p < n := lt_of_sg h0 (by omega)
      exact prg_le (sCl_prog h0 hf k _ _ (p + 1) hp) (by omega)
theorem sPc_prog {s : Nat → Nat} {n : Nat} (h0 : ∀ x, n ≤ x → s x = 0) {r : Nat} {rc : Option (Nat → PRs VC)} (hr : prO n rc) {a : Nat} (ha : a ≤ n) : prg n a (sPc s r rc a) := by
  unfold sPc
  refine prg_iT (fun c => ?_) (fun c => prg_iT (fun c2 => ?_) (fun c2 => ?_))
  · have han : a < n := lt_of_sg h0 (by omega)
    cases rc with
    | none => exact prg_inl
    | some f => exact prg_bS (a + 1) (hr f rfl (a + 1) han) (fun p v h1 h2 => prg_inr ⟨by omega, h2⟩)
  · have han : a < n := lt_of_sg h0 (by omega)
    cases rc with
    | none => exact prg_inl
    | some f => exact prg_bS (a + 1) (sCl_prog h0 (hr f rfl) 200 none none (a + 1) han) (fun p v h1 h2 => prg_iT (fun c4 => prg_inr ⟨by omega, lt_of_sg h0 (by omega)⟩) (fun c4 => prg_inl))
  · refine prg_bS a (sE_prog h0 r a ha) (fun p V h1 h2 => prg_iT (fun c3 => ?_) (fun c3 => prg_inl))
    have hp : p < n := lt_of_sg h0 (by unfold isCmp at c3; omega)
    exact prg_bS (p + 1) (sE_prog h0 r (p + 1) hp) (fun q W h3 h4 => prg_inr ⟨by omega, h4⟩)
theorem sP_prog {s : Nat → Nat} {n : Nat} (h0 : ∀ x, n ≤ x → s x = 0) : ∀ (r a : Nat), a ≤ n → prg n a (sP s r a)
  | 0, a, ha => sPc_prog h0 (fun f z => by cases z) ha
  | r + 1, a, ha => sPc_prog h0 (fun f z => by cases z; exact fun b hb => sP_prog h0 r b hb) ha
