/-! ===== the class reads a value ===== -/
def rwC (m : Mm) (w : Nat) : Nat → Nat → Int32 := fun k x => gI m (w + k) x
def WfI (C : Nat → Nat → Int32) (i j : Nat) : Prop := ∀ x, i ≤ x → x < j → ¬ ((C 1 x = 38 ∨ C 1 x = 124) ∧ C 2 x = -1) ∧ (C 1 x = 2 → ∃ k, k < 10 ∧ C 2 x = nI k)
def dpn {α : Type} (C : Nat → Nat → Int32) (i j : Nat) (F : (Nat → Int32) → α) : Prop := ∀ l l', (∀ x k, i ≤ x → x < j → C 1 x = 2 → C 2 x = nI k → k < 10 → l k = l' k) → F l = F l'
def ECx (C : Nat → Nat → Int32) (i j d : Nat) (V : VE) : Prop := EC C i j d V ∧ WfI C i j ∧ dpn C i j V
def CCx (C : Nat → Nat → Int32) (i j : Nat) (T : VC) : Prop := CC C i j T ∧ WfI C i j ∧ dpn C i j T
theorem WfI_congr {C C' : Nat → Nat → Int32} {i j : Nat} (h : WfI C i j) (hC : ∀ x, i ≤ x → x < j → C' 1 x = C 1 x ∧ C' 2 x = C 2 x) : WfI C' i j := fun x a b => by
  obtain ⟨e1, e2⟩ := hC x a b
  rw [e1, e2]
  exact h x a b
theorem dpn_congr {α : Type} {C C' : Nat → Nat → Int32} {i j : Nat} {F : (Nat → Int32) → α} (h : dpn C i j F) (hC : ∀ x, i ≤ x → x < j → C' 1 x = C 1 x ∧ C' 2 x = C 2 x) : dpn C' i j F := fun l l' hl => h l l' (fun x k a b c d e => hl x k a b ((hC x a b).1.trans c) ((hC x a b).2.trans d) e)
theorem ECx_congr {C C' : Nat → Nat → Int32} {i j d : Nat} {V : VE} (h : ECx C i j d V) (hC : ∀ x, i ≤ x → x < j → C' 1 x = C 1 x ∧ C' 2 x = C 2 x) : ECx C' i j d V := ⟨EC_congr h.1 hC, WfI_congr h.2.1 hC, dpn_congr h.2.2 hC⟩
theorem CCx_congr {C C' : Nat → Nat → Int32} {i j : Nat} {V : VC} (h : CCx C i j V) (hC : ∀ x, i ≤ x → x < j → C' 1 x = C 1 x ∧ C' 2 x = C 2 x) : CCx C' i j V := ⟨CC_congr h.1 hC, WfI_congr h.2.1 hC, dpn_congr h.2.2 hC⟩
theorem ECx_mono {C : Nat → Nat → Int32} {i j d d' : Nat} {V : VE} (h : ECx C i j d V) (hd : d ≤ d') : ECx C i j d' V := ⟨EC_mono h.1 hd, h.2⟩
theorem WfI_cat {C : Nat → Nat → Int32} {i j k : Nat} (h1 : WfI C i j) (h2 : WfI C j k) : WfI C i k := fun x a b => by
  by_cases q : x < j
  · exact h1 x a q
  · exact h2 x (by omega) b
theorem WfI_one {C : Nat → Nat → Int32} {i op : Nat} (h : C 1 i = nI op) (ho : op < 256) (n38 : op ≠ 38) (n124 : op ≠ 124) (n2 : op ≠ 2) : WfI C i (i + 1) := fun x a b => by
  obtain rfl : x = i := by omega
  rw [h]
  refine ⟨fun z => ?_, fun z => absurd ((nI_eq (b := 2) (by omega) (by omega)).mp z) n2⟩
  rcases z.1 with z | z
  · exact n38 ((nI_eq (b := 38) (by omega) (by omega)).mp z)
  · exact n124 ((nI_eq (b := 124) (by omega) (by omega)).mp z)
theorem dpn_le {α : Type} {C : Nat → Nat → Int32} {i j i' j' : Nat} {F : (Nat → Int32) → α} (h : dpn C i j F) (hi : i' ≤ i) (hj : j ≤ j') : dpn C i' j' F := fun l l' hl => h l l' (fun x k a b => hl x k (by omega) (by omega))
theorem isBin_ne {op : Nat} (h : isBin op) : op < 256 ∧ op ≠ 38 ∧ op ≠ 124 ∧ op ≠ 2 ∧ 0 < op := by unfold isBin at h; omega
theorem isCmp_ne {op : Nat} (h : isCmp op) : op < 256 ∧ op ≠ 38 ∧ op ≠ 124 ∧ op ≠ 2 ∧ 0 < op := by unfold isCmp at h; omega
theorem ECx_bin {C : Nat → Nat → Int32} {i j k d d' D op : Nat} {V V' : VE} (hL : ECx C i j d V) (hR : ECx C j k d' V') (hd : d ≤ D) (hd' : d' + 1 ≤ D) (hD : 2 ≤ D) (hop : isBin op) (h1 : C 1 k = nI op) : ECx C i (k + 1) D (vBin op V V') := by
  obtain ⟨b1, b2, b3, b4, -⟩ := isBin_ne hop
  refine ⟨EC_bin hL.1 hR.1 hd hd' hD hop h1, WfI_cat (WfI_cat hL.2.1 hR.2.1) (WfI_one h1 b1 b2 b3 b4), fun l l' hl => ?_⟩
  have ij := hL.1.1
  have jk := hR.1.1
  unfold vBin
  rw [hL.2.2 l l' (fun x k a b => hl x k (by omega) (by omega)), hR.2.2 l l' (fun x k a b => hl x k (by omega) (by omega))]
theorem CCx_cmp {C : Nat → Nat → Int32} {i j k d d' op : Nat} {V V' : VE} (hL : ECx C i j d V) (hR : ECx C j k d' V') (hd : d ≤ 32) (hd' : d' + 1 ≤ 32) (hop : isCmp op) (h1 : C 1 k = nI op) : CCx C i (k + 1) (tCmp op V V') := by
  obtain ⟨b1, b2, b3, b4, -⟩ := isCmp_ne hop
  refine ⟨CC_cmp hL.1 hR.1 hd hd' hop h1, WfI_cat (WfI_cat hL.2.1 hR.2.1) (WfI_one h1 b1 b2 b3 b4), fun l l' hl => ?_⟩
  have ij := hL.1.1
  have jk := hR.1.1
  unfold tCmp
  rw [hL.2.2 l l' (fun x k a b => hl x k (by omega) (by omega)), hR.2.2 l l' (fun x k a b => hl x k (by omega) (by omega))]
theorem CCx_not {C : Nat → Nat → Int32} {i j : Nat} {T : VC} (hT : CCx C i j T) (h1 : C 1 j = 33) : CCx C i (j + 1) (tNot T) := by
  refine ⟨CC_not hT.1 h1, WfI_cat hT.2.1 (WfI_one (op := 33) h1 (by omega) (by omega) (by omega) (by omega)), fun l l' hl => ?_⟩
  unfold tNot
  rw [hT.2.2 l l' (fun x k a b => hl x k (by omega) (by omega))]
/-- how reading ends: at a fault; well -/
def CFl (m : Mm) (w z : Nat) (m' : Mm) (e : Nat × Nat) : Prop := Fr (cfP w z) m m' ∧ gI m' 193 4 = nI e.1 ∧ gI m' 193 3 = nI e.2 ∧ ∃ z', z' ≤ 200 ∧ z ≤ z' ∧ gI m' w 9 = nI z'
def COk (m : Mm) (w z a : Nat) (m' : Mm) (p z' : Nat) : Prop := Fr (cfP w z) m m' ∧ gI m' 193 3 = nI p ∧ gI m' w 9 = nI z' ∧ z < z' ∧ z' + a ≤ z + p
def CS (m : Mm) (w n : Nat) (s : Nat → Nat) (a z : Nat) : Prop := CB m w n s ∧ gI m 193 3 = nI a ∧ gI m w 9 = nI z ∧ z ≤ a ∧ a ≤ n
def SimE (F : Mm → Prop → Int32 × Mm × Prop) (m : Mm) (w z a d : Nat) (x : PRs VE) : Prop := (∀ e, x = .inl e → ∃ m', (∀ o, F m o = (0, m', o)) ∧ CFl m w z m' e) ∧ ∀ q, x = .inr q → ∃ m' z', (∀ o, F m o = (1, m', o)) ∧ COk m w z a m' q.1 z' ∧ ECx (rwC m' w) z z' d q.2
def SimC (F : Mm → Prop → Int32 × Mm × Prop) (m : Mm) (w z a : Nat) (x : PRs VC) : Prop := (∀ e, x = .inl e → ∃ m', (∀ o, F m o = (0, m', o)) ∧ CFl m w z m' e) ∧ ∀ q, x = .inr q → ∃ m' z', (∀ o, F m o = (1, m', o)) ∧ COk m w z a m' q.1 z' ∧ CCx (rwC m' w) z z' q.2
theorem rwC_at (m : Mm) {w : Nat} (hw : isW w) (i : Nat) (v : Int32) : rwC (sI m 193 i v) w = rwC m w := by
  funext k x
  show gI (sI m 193 i v) (w + k) x = gI m (w + k) x
  rw [gI_sI, if_neg (by rcases hw with rfl | rfl <;> omega)]
theorem w_ne {w : Nat} (hw : isW w) : w ≠ 193 ∧ w + 1 ≠ 193 ∧ w + 2 ≠ 193 ∧ ¬ w = 0 := by rcases hw with rfl | rfl <;> omega
theorem CS_at {m : Mm} {w n : Nat} {s : Nat → Nat} {a z : Nat} (h : CS m w n s a z) (han : a < n) : CS (sI m 193 3 (nI (a + 1))) w n s (a + 1) z := by
  obtain ⟨h1, h2, h3, h4, h5⟩ := h
  obtain ⟨w1, -⟩ := w_ne h1.2.1
  exact ⟨CB_Fr h1 (z := 0) (Fr_sI (Fr_refl _ m) (.inl ⟨rfl, .inl rfl⟩) _), by rw [gI_sI, if_pos ⟨rfl, rfl⟩], by rw [gI_sI, if_neg (fun y => w1 y.1)]; exact h3, by omega, han⟩
theorem Fr_at3 {m : Mm} {w z : Nat} (v : Int32) : Fr (cfP w z) m (sI m 193 3 v) := Fr_sI (Fr_refl _ m) (.inl ⟨rfl, .inl rfl⟩) _
theorem Fr_at4 {m : Mm} {w z : Nat} (v : Int32) : Fr (cfP w z) m (sI m 193 4 v) := Fr_sI (Fr_refl _ m) (.inl ⟨rfl, .inr rfl⟩) _
/-- the fault at the place where the reader is -/
theorem CFl_here {m : Mm} {w n : Nat} {s : Nat → Nat} {a z : Nat} (h : CS m w n s a z) (f : Nat) : CFl m w z (sI m 193 4 (nI f)) (f, a) := by
  obtain ⟨h1, h2, h3, h4, h5⟩ := h
  obtain ⟨w1, -⟩ := w_ne h1.2.1
  have := h1.2.2.2.2.1
  exact ⟨Fr_at4 _, by rw [gI_sI, if_pos ⟨rfl, rfl⟩], by rw [gI_sI, if_neg (by omega)]; exact h2, z, by omega, Nat.le_refl _, by rw [gI_sI, if_neg (fun y => w1 y.1)]; exact h3⟩
theorem CFl_pre {m m1 m' : Mm} {w z z1 : Nat} {e : Nat × Nat} (hF : Fr (cfP w z) m m1) (hz : z ≤ z1) (h : CFl m1 w z1 m' e) : CFl m w z m' e := by
  obtain ⟨h1, h2, h3, z', h4, h5, h6⟩ := h
  exact ⟨Fr_trans hF (Fr_mono h1 (fun q i y => cfP_le hz y)), h2, h3, z', h4, by omega, h6⟩
theorem CS_of {m m' : Mm} {w n : Nat} {s : Nat → Nat} {a z p z' : Nat} (h : CS m w n s a z) (hO : COk m w z a m' p z') (hp : p ≤ n) : CS m' w n s p z' := by
  obtain ⟨h1, h2, h3, h4, h5⟩ := h
  obtain ⟨o1, o2, o3, o4, o5⟩ := hO
  exact ⟨CB_Fr h1 o1, o2, o3, by omega, hp⟩
/-- one instruction more -/
theorem e_put {m : Mm} {w n : Nat} {s : Nat → Nat} {a z : Nat} (h : CS m w n s a z) (hz : z < 200) (op arg : Int32) : ∃ m', (∀ o, F_X3_add w op arg m o = ((), m', o)) ∧ Fr (cfP w z) m m' ∧ (∀ i, gI m' 193 i = gI m 193 i) ∧ gI m' w 9 = nI (z + 1) ∧ rwC m' w 1 z = op ∧ rwC m' w 2 z = arg ∧ ∀ x, x < z → rwC m' w 1 x = rwC m w 1 x ∧ rwC m' w 2 x = rwC m w 2 x := by
  obtain ⟨h1, h2, h3, h4, h5⟩ := h
  obtain ⟨w1, w2, w3, w4⟩ := w_ne h1.2.1
  refine ⟨_, e_add h1.1 h1.2.1 hz h3 op arg, Fr_sI (Fr_sI (Fr_sI (Fr_refl _ m) (by unfold cfP; omega) _) (by unfold cfP; omega) _) (by unfold cfP; omega) _, fun i => ?_, by rw [gI_sI, if_pos ⟨rfl, rfl⟩], ?_, ?_, fun x hx => ⟨?_, ?_⟩⟩
  · rw [gI_sI, if_neg (by omega), gI_sI, if_neg (by omega), gI_sI, if_neg (by omega)]
  · show gI (sI (sI (sI m (w + 1) z op) (w + 2) z arg) w 9 (nI (z + 1))) (w + 1) z = op
    rw [gI_sI, if_neg (by omega), gI_sI, if_neg (by omega), gI_sI, if_pos ⟨rfl, rfl⟩]
  · show gI (sI (sI (sI m (w + 1) z op) (w + 2) z arg) w 9 (nI (z + 1))) (w + 2) z = arg
    rw [gI_sI, if_neg (by omega), gI_sI, if_pos ⟨rfl, rfl⟩]
  · show gI (sI (sI (sI m (w + 1) z op) (w + 2) z arg) w 9 (nI (z + 1))) (w + 1) x = gI m (w + 1) x
    rw [gI_sI, if_neg (by omega), gI_sI, if_neg (by omega), gI_sI, if_neg (by omega)]
  · show gI (sI (sI (sI m (w + 1) z op) (w + 2) z arg) w 9 (nI (z + 1))) (w + 2) x = gI m (w + 2) x
    rw [gI_sI, if_neg (by omega), gI_sI, if_neg (by omega), gI_sI, if_neg (by omega)]
theorem ECx_num {C : Nat → Nat → Int32} {i : Nat} {v : Int32} (h1 : C 1 i = 1) (h2 : C 2 i = v) : ECx C i (i + 1) 1 (fun _ => some v) :=
  ⟨EC_num h1 h2, WfI_one (op := 1) h1 (by omega) (by omega) (by omega) (by omega), fun _ _ _ => rfl⟩
theorem ECx_let {C : Nat → Nat → Int32} {i k : Nat} (h1 : C 1 i = 2) (h2 : C 2 i = nI k) (hk : k < 10) : ECx C i (i + 1) 1 (fun l => some (l k)) :=
  ⟨EC_let h1 h2 hk, fun x a b => by
    obtain rfl : x = i := by omega
    exact ⟨fun z => by rw [h1] at z; exact absurd z.1 (by decide), fun _ => ⟨k, hk, h2⟩⟩, fun l l' hl => congrArg some (hl i k (Nat.le_refl _) (by omega) h1 h2 hk)⟩
