/-! ===== where a cow eats: the class, with what it remembers ===== -/
theorem md_top2 {m : Mm} (h : Sh m) {p : Nat} (hp : isMd p) : gR m p 3 = p + 4 ∧ gT m (p + 4) = 20 ∧ gN m (p + 4) = 16 ∧ gR m p 4 = p + 5 ∧ gT m (p + 5) = 20 ∧ gN m (p + 5) = 192 ∧ gR m p 5 = p + 6 ∧ gT m (p + 6) = 20 ∧ gN m (p + 6) = 192 := by
  rcases hp with rfl | rfl | rfl
  · exact ⟨shR_2_3 h, shT_6 h, shN_6 h, shR_2_4 h, shT_7 h, shN_7 h, shR_2_5 h, shT_8 h, shN_8 h⟩
  · exact ⟨shR_65_3 h, shT_69 h, shN_69 h, shR_65_4 h, shT_70 h, shN_70 h, shR_65_5 h, shT_71 h, shN_71 h⟩
  · exact ⟨shR_128_3 h, shT_132 h, shN_132 h, shR_128_4 h, shT_133 h, shN_133 h, shR_128_5 h, shT_134 h, shN_134 h⟩
/-- the choice: from i on, of k stacks -/
def chF (E : (Nat → Int32) → Int32) (a : Nat → Nat → Int32) (c : Nat) : Int32 → Int32 → Nat → Nat → Int32
  | b, _, _, 0 => b
  | b, t, i, k + 1 => if a (7 + 2 * i) 7 = 0 ∨ a (7 + 2 * i) 3 = 0 then chF E a c b t (i + 1) k else if t < E (letE a i c) then chF E a c (nI i) (E (letE a i c)) (i + 1) k else chF E a c b t (i + 1) k
theorem chF_in (E : (Nat → Int32) → Int32) (a : Nat → Nat → Int32) (c n : Nat) : ∀ (k i : Nat) (b t : Int32), i + k ≤ n → (b = -1 ∨ ∃ s, s < n ∧ b = nI s) → (chF E a c b t i k = -1 ∨ ∃ s, s < n ∧ chF E a c b t i k = nI s)
  | 0, _, _, _, _, h => h
  | k + 1, i, b, t, hi, h => by
    unfold chF
    by_cases q : a (7 + 2 * i) 7 = 0 ∨ a (7 + 2 * i) 3 = 0
    · rw [if_pos q]; exact chF_in E a c n k (i + 1) b t (by omega) h
    · rw [if_neg q]
      by_cases q2 : t < E (letE a i c)
      · rw [if_pos q2]; exact chF_in E a c n k (i + 1) _ _ (by omega) (.inr ⟨i, by omega, rfl⟩)
      · rw [if_neg q2]; exact chF_in E a c n k (i + 1) b t (by omega) h
/-- what days leave alone -/
def sta (a b : Nat → Nat → Int32) (n c : Nat) : Prop := (∀ s, s < n → b (7 + 2 * s) 0 = a (7 + 2 * s) 0 ∧ b (7 + 2 * s) 1 = a (7 + 2 * s) 1 ∧ b (7 + 2 * s) 2 = a (7 + 2 * s) 2 ∧ b (7 + 2 * s) 5 = a (7 + 2 * s) 5) ∧ ∀ e, e < c → (∀ f, f < 4 → b (31 + 2 * e) f = a (31 + 2 * e) f) ∧ ∀ j, j < 5 → b (32 + 2 * e) j = a (32 + 2 * e) j
theorem sta_refl (a : Nat → Nat → Int32) (n c : Nat) : sta a a n c := ⟨fun _ _ => ⟨rfl, rfl, rfl, rfl⟩, fun _ _ => ⟨fun _ _ => rfl, fun _ _ => rfl⟩⟩
theorem sta_trans {a b d : Nat → Nat → Int32} {n c : Nat} (h1 : sta a b n c) (h2 : sta b d n c) : sta a d n c := ⟨fun s hs => ⟨(h2.1 s hs).1.trans (h1.1 s hs).1, (h2.1 s hs).2.1.trans (h1.1 s hs).2.1, (h2.1 s hs).2.2.1.trans (h1.1 s hs).2.2.1, (h2.1 s hs).2.2.2.trans (h1.1 s hs).2.2.2⟩, fun e he => ⟨fun f hf => ((h2.2 e he).1 f hf).trans ((h1.2 e he).1 f hf), fun j hj => ((h2.2 e he).2 j hj).trans ((h1.2 e he).2 j hj)⟩⟩
/-- the looks of a stack, by the marks -/
def lk (mk : Nat → Int32) (a : Nat → Nat → Int32) (s : Nat) : Int32 := ((((a (7 + 2 * s) 3 &&& mk 0) <<< ((18 : Int32) &&& 31)) ||| ((a (7 + 2 * s) 6 &&& mk 3) <<< ((8 : Int32) &&& 31))) ||| ((a (7 + 2 * s) 4 &&& mk 1) <<< ((1 : Int32) &&& 31))) ||| (sal a s &&& mk 5)
theorem and_m1 (x : Int32) : x &&& -1 = x := by
  refine b_ext (fun i hi => ?_)
  rw [b_and, b_m1 i hi, Bool.and_true]
theorem and_0 (x : Int32) : x &&& 0 = 0 := by
  refine b_ext (fun i hi => ?_)
  rw [b_and, b_0, Bool.and_false]
theorem lk_nat {h t v s : Nat} (hh : h < 2 ^ 14) (ht : t < 2 ^ 10) (hv : v < 2 ^ 7) (hs : s < 2) {k0 k1 k3 k5 : Int32} (m0 : k0 = 0 ∨ k0 = -1) (m1 : k1 = 0 ∨ k1 = -1) (m3 : k3 = 0 ∨ k3 = -1) (m5 : k5 = 0 ∨ k5 = -1) : ((((nI h &&& k0) <<< ((18 : Int32) &&& 31)) ||| ((nI t &&& k3) <<< ((8 : Int32) &&& 31))) ||| ((nI v &&& k1) <<< ((1 : Int32) &&& 31))) ||| (nI s &&& k5) = nI (262144 * (if k0 = -1 then h else 0) + 256 * (if k3 = -1 then t else 0) + 2 * (if k1 = -1 then v else 0) + (if k5 = -1 then s else 0)) := by
  have key : ∀ (x : Nat) (k : Int32), (k = 0 ∨ k = -1) → nI x &&& k = nI (if k = -1 then x else 0) := fun x k hk => by
    rcases hk with rfl | rfl
    · rw [and_0, if_neg (by decide)]; rfl
    · rw [and_m1, if_pos rfl]
  have bd : ∀ (x B : Nat) (k : Int32), x < B → (if k = -1 then x else 0) < B := fun x B k hx => by
    by_cases q : k = -1
    · rw [if_pos q]; exact hx
    · rw [if_neg q]; omega
  rw [key h k0 m0, key t k3 m3, key v k1 m1, key s k5 m5]
  have b0 := bd h _ k0 hh
  have b3 := bd t _ k3 ht
  have b1 := bd v _ k1 hv
  have b5 := bd s _ k5 hs
  generalize (if k0 = -1 then h else 0) = h at *
  generalize (if k3 = -1 then t else 0) = t at *
  generalize (if k1 = -1 then v else 0) = v at *
  generalize (if k5 = -1 then s else 0) = s at *
  rw [pk_shlN (n := h) ((18 : Int32) &&& 31) 18 (by decide) (by omega), pk_shlN (n := t) ((8 : Int32) &&& 31) 8 (by decide) (by omega), pk_shlN (n := v) ((1 : Int32) &&& 31) 1 (by decide) (by omega)]
  have o1 := fa_or_sum (a := t * 2 ^ 8) (k := 18) h (by omega)
  have o2 := fa_or_sum (a := v * 2 ^ 1) (k := 8) (1024 * h + t) (by omega)
  have o3 := fa_or_sum (a := s) (k := 1) (131072 * h + 128 * t + v) (by omega)
  rw [show h * 2 ^ 18 = 2 ^ 18 * h by omega, o1, show 2 ^ 18 * h + t * 2 ^ 8 = 2 ^ 8 * (1024 * h + t) by omega, o2, show 2 ^ 8 * (1024 * h + t) + v * 2 ^ 1 = 2 ^ 1 * (131072 * h + 128 * t + v) by omega, o3]
  congr 1
  omega
theorem nI_inj32 {x y : Nat} (hx : x < 2 ^ 32) (hy : y < 2 ^ 32) (h : nI x = nI y) : x = y := by
  rw [← pk_tn hx, ← pk_tn hy, h]
theorem lk_inj {mk : Nat → Int32} (hm : ∀ j, j < 10 → mk j = 0 ∨ mk j = -1) {a b : Nat → Nat → Int32} {n c s : Nat} (hA : WfA a n c) (hB : WfA b n c) (hs : s < n) (h : lk mk b s = lk mk a s) : (mk 0 = -1 → b (7 + 2 * s) 3 = a (7 + 2 * s) 3) ∧ (mk 3 = -1 → b (7 + 2 * s) 6 = a (7 + 2 * s) 6) ∧ (mk 1 = -1 → b (7 + 2 * s) 4 = a (7 + 2 * s) 4) ∧ (mk 5 = -1 → sal b s = sal a s) := by
  have hn := hA.1.1.1
  have rng : ∀ d : Nat → Nat → Int32, WfA d n c → ∃ h t v z, h < 2 ^ 14 ∧ t < 2 ^ 10 ∧ v < 2 ^ 7 ∧ z < 2 ∧ d (7 + 2 * s) 3 = nI h ∧ d (7 + 2 * s) 6 = nI t ∧ d (7 + 2 * s) 4 = nI v ∧ sal d s = nI z := fun d hd => by
    obtain ⟨-, -, -, ⟨h, hh, e3⟩, ⟨v, hv, e4⟩, -, ⟨t, ht, e6, -⟩, -⟩ := hd.2.1 s hs
    have hb := hsum_ge (fun s => d (7 + 2 * s) 3) (s := s) (n := n) hs
    simp only [e3, nI_clamp hh] at hb
    have hb2 := hd.2.2.1
    refine ⟨h, t, v, if sal d s = 0 then 0 else 1, by omega, by omega, by omega, ?_, e3, e6, e4, ?_⟩
    · by_cases q : sal d s = 0 <;> simp [q]
    · rcases sal_01 d s with q | q <;> rw [q] <;> decide
  obtain ⟨h1, t1, v1, z1, p1, p2, p3, p4, e1, e2, e3, e4⟩ := rng a hA
  obtain ⟨h2, t2, v2, z2, q1, q2, q3, q4, f1, f2, f3, f4⟩ := rng b hB
  unfold lk at h
  rw [e1, e2, e3, e4, f1, f2, f3, f4, lk_nat p1 p2 p3 p4 (hm 0 (by omega)) (hm 1 (by omega)) (hm 3 (by omega)) (hm 5 (by omega)), lk_nat q1 q2 q3 q4 (hm 0 (by omega)) (hm 1 (by omega)) (hm 3 (by omega)) (hm 5 (by omega))] at h
  have bd : ∀ (x B : Nat) (k : Int32), x < B → (if k = -1 then x else 0) < B := fun x B k hx => by
    by_cases q : k = -1
    · rw [if_pos q]; exact hx
    · rw [if_neg q]; omega
  have a1 := bd h1 _ (mk 0) p1
  have a2 := bd t1 _ (mk 3) p2
  have a3 := bd v1 _ (mk 1) p3
  have a4 := bd z1 _ (mk 5) p4
  have b1 := bd h2 _ (mk 0) q1
  have b2 := bd t2 _ (mk 3) q2
  have b3 := bd v2 _ (mk 1) q3
  have b4 := bd z2 _ (mk 5) q4
  have hh := nI_inj32 (by omega) (by omega) h
  refine ⟨fun z => ?_, fun z => ?_, fun z => ?_, fun z => ?_⟩
  · rw [e1, f1]
    simp only [z, if_true] at hh a1 b1
    have : h2 = h1 := by omega
    rw [this]
  · rw [e2, f2]
    simp only [z, if_true] at hh a2 b2
    have : t2 = t1 := by omega
    rw [this]
  · rw [e3, f3]
    simp only [z, if_true] at hh a3 b3
    have : v2 = v1 := by omega
    rw [this]
  · rw [e4, f4]
    simp only [z, if_true] at hh a4 b4
    have : z2 = z1 := by omega
    rw [this]
/-- stacks that look alike, all else being the same, are eaten alike -/
theorem E_looks {mk : Nat → Int32} (hm : ∀ j, j < 10 → mk j = 0 ∨ mk j = -1) {E : (Nat → Int32) → Int32} (hE : dep mk E) {a b : Nat → Nat → Int32} {n c s e : Nat} (hA : WfA a n c) (hB : WfA b n c) (hS : sta a b n c) (hs : s < n) (he : e < c) (h : lk mk b s = lk mk a s) : E (letE b s e) = E (letE a s e) := by
  obtain ⟨l0, l3, l1, l5⟩ := lk_inj hm hA hB hs h
  obtain ⟨s0, s1, s2, s5⟩ := hS.1 s hs
  obtain ⟨c1, c2⟩ := hS.2 e he
  obtain ⟨-, -, ⟨k, hk, ek⟩, -⟩ := hA.2.1 s hs
  refine hE _ _ (fun j hj z => ?_)
  unfold letE lts ltc
  have : j = 0 ∨ j = 1 ∨ j = 2 ∨ j = 3 ∨ j = 4 ∨ j = 5 ∨ j = 6 ∨ j = 7 ∨ j = 8 ∨ j = 9 := by omega
  rcases this with rfl | rfl | rfl | rfl | rfl | rfl | rfl | rfl | rfl | rfl
  · exact l0 z
  · exact l1 z
  · exact s5
  · exact l3 z
  · exact s2
  · exact l5 z
  · show b (32 + 2 * e) (ix (b (7 + 2 * s) 2)) = a (32 + 2 * e) (ix (a (7 + 2 * s) 2))
    rw [s2, ek, ix_nI (by omega)]
    exact c2 k (by omega)
  · show ab (b (31 + 2 * e) 0 - b (7 + 2 * s) 0) + ab (b (31 + 2 * e) 1 - b (7 + 2 * s) 1) = _
    rw [s0, s1, c1 0 (by omega), c1 1 (by omega)]
    rfl
  · exact c1 2 (by omega)
  · exact c1 3 (by omega)
/-- what is remembered is so, for all meadows that differ from a0 in nothing but what days change -/
def KC (E : (Nat → Int32) → Int32) (mk : Nat → Int32) (m : Mm) (p : Nat) (a0 : Nat → Nat → Int32) (n c : Nat) : Prop := ∀ e s, e < c → s < n → gI m (p + 5) (12 * e + s) = -1 ∨ ∀ b, sta a0 b n c → WfA b n c → lk mk b s = gI m (p + 6) (12 * e + s) → E (letE b s e) = gI m (p + 5) (12 * e + s)
theorem KC_Fr {E : (Nat → Int32) → Int32} {mk : Nat → Int32} {P : Nat → Nat → Prop} {m m' : Mm} {p : Nat} {a0 : Nat → Nat → Int32} {n c : Nat} (h : KC E mk m p a0 n c) (hF : Fr P m m') (hP : ∀ x, ¬ P (p + 5) x ∧ ¬ P (p + 6) x) : KC E mk m' p a0 n c := fun e s he hs => by
  rw [Fr_at hF (hP _).1, Fr_at hF (hP _).2]
  exact h e s he hs
def bsP (p w q i : Nat) : Prop := lwP w q i ∨ q = p + 5 ∨ q = p + 6
theorem e_looks {m : Mm} (h : Sh m) {p s w : Nat} (hp : isMd p) (hs : s < 12) {C : Nat → Nat → Int32} {nl : Nat} (hA : lawAt m w C nl) {a : Nat → Nat → Int32} (hM : Md m p a) (o : Prop) : F_X3_looksOf w (p + 7 + 2 * s) (sal a s) m o = (lk (C 8) a s, m, o) := by
  obtain ⟨hw, hR, -⟩ := hA
  obtain ⟨u1, u2, -⟩ := md_stk h hp hs
  obtain ⟨t0, -, -, -, -, -, -, -, r7, -⟩ := w_sh h hw
  obtain ⟨-, -, -, -, -, -, -, y8, -⟩ := w_T h hw
  obtain ⟨-, -, -, -, -, -, -, z8, -⟩ := w_N h hw
  have gs : ∀ i, gI m (p + 7 + 2 * s) i = a (7 + 2 * s) i := fun i => Md_at hM (by omega) (by omega) (by omega)
  have g8 : ∀ x, gI m (w + 8) x = C 8 x := fun x => hR 8 x (by omega) (by omega) (by omega)
  have n3 : ¬ w + 8 = 0 := by omega
  have i0 : vp_in (0 : Int32) 10 := vp_in_nI (n := 0) (by omega) (by omega)
  have i1 : vp_in (1 : Int32) 10 := vp_in_nI (n := 1) (by omega) (by omega)
  have i3 : vp_in (3 : Int32) 10 := vp_in_nI (n := 3) (by omega) (by omega)
  have i5 : vp_in (5 : Int32) 10 := vp_in_nI (n := 5) (by omega) (by omega)
  have x0 : ix (0 : Int32) = 0 := by decide
  have x1 : ix (1 : Int32) = 1 := by decide
  have x3 : ix (3 : Int32) = 3 := by decide
  have x5 : ix (5 : Int32) = 5 := by decide
  unfold lk
  rcases sal_01 a s with z | z
  · simp (config := {decide := true}) only [f_X3_looksOf_54, f_X3_looksOf_0, F_X3_looksOf, gs, g8, t0, r7, y8, z8, u2, n3, i0, i1, i3, i5, x0, x1, x3, x5, z, ne_eq, not_false_eq_true, and_self, and_true, true_and, and_false, false_and, true_or, or_true, false_or, or_false, not_true_eq_false, if_false, if_true]
  · simp (config := {decide := true}) only [f_X3_looksOf_54, f_X3_looksOf_0, F_X3_looksOf, gs, g8, t0, r7, y8, z8, u2, n3, i0, i1, i3, i5, x0, x1, x3, x5, z, ne_eq, not_false_eq_true, and_self, and_true, true_and, and_false, false_and, true_or, or_true, false_or, or_false, not_true_eq_false, if_false, if_true]
theorem l_best {C : Nat → Nat → Int32} {nl : Nat} {T : Nat → (Nat → Int32) → Option Bool} {V : Nat → (Nat → Int32) → Option Int32} (hL : LwF C nl T V) (hmk : ∀ j, j < 10 → C 8 j = 0 ∨ C 8 j = -1) (hdE : dep (C 8) (Ev C nl T V)) {p w : Nat} (hp : isMd p) {a0 a : Nat → Nat → Int32} {n c e : Nat} (hW : WfA a n c) (hS : sta a0 a n c) (he : e < c) : ∀ (k N i : Nat) (b t : Int32) (m : Mm), Sh m → lawAt m w C nl → Md m p a → KC (Ev C nl T V) (C 8) m p a0 n c → i + k = n → k < N → ∃ m', (∀ o, f_X5_bestStack_8 N p w (nI e) b t (nI i) m o = (chF (Ev C nl T V) a e b t i k, m', o)) ∧ Fr (bsP p w) m m' ∧ KC (Ev C nl T V) (C 8) m' p a0 n c := by
  have hn := hW.1.1.1
  have hc := hW.1.1.2
  have hpp : p + 63 ≤ 191 := by rcases hp with rfl | rfl | rfl <;> omega
  intro k
  induction k with
  | zero =>
    intro N i b t m h hA hM hK hi hN
    obtain ⟨N, rfl⟩ : ∃ N1, N = N1 + 1 := ⟨N - 1, by omega⟩
    obtain ⟨t1, -⟩ := md_top h hp
    have h6 : gI m p 6 = nI n := (hM 0 6 (by omega) (by omega)).trans hW.1.2.1
    have hle : nI n ≤ nI i := nI_le (by omega) (by omega)
    refine ⟨m, fun o => ?_, Fr_refl _ m, hK⟩
    show f_X5_bestStack_8b (f_X5_bestStack_8 N) p w (nI e) b t (nI i) m o = _
    simp (config := {decide := true}) only [f_X5_bestStack_8b, h6, hle, t1, chF, ne_eq, not_false_eq_true, and_self, and_true, true_and, and_false, false_and, true_or, or_true, false_or, or_false, not_true_eq_false, if_false, if_true]
  | succ k ih =>
    intro N i b t m h hA hM hK hi hN
    obtain ⟨N, rfl⟩ : ∃ N1, N = N1 + 1 := ⟨N - 1, by omega⟩
    obtain ⟨t1, t2, t3, t4, -⟩ := md_top h hp
    obtain ⟨u1, u2, -⟩ := md_stk h hp (show i < 12 by omega)
    obtain ⟨-, -, -, v4, v5, v6, v7, v8, v9⟩ := md_top2 h hp
    have h6 : gI m p 6 = nI n := (hM 0 6 (by omega) (by omega)).trans hW.1.2.1
    have hle : ¬ nI n ≤ nI i := nI_ge (by omega) (by omega)
    have gs : ∀ x, gI m (p + 7 + 2 * i) x = a (7 + 2 * i) x := fun x => Md_at hM (by omega) (by omega) (by omega)
    have hin : vp_in (nI i) 12 := vp_in_nI (by omega) (by omega)
    have n1 : ¬ p + 1 = 0 := by omega
    have n2 : ¬ p + 7 + 2 * i = 0 := by omega
    obtain ⟨-, -, ⟨kc, hkc, ekc⟩, ⟨hy, hhy, ehy⟩, -⟩ := hW.2.1 i (by omega)
    have e0 : (a (7 + 2 * i) 3 ≤ 0) = (a (7 + 2 * i) 3 = 0) := by
      rw [ehy]
      exact propext ⟨fun z => by
        by_cases q : hy = 0
        · rw [q]; rfl
        · exact absurd z (nI_nle (by omega) hhy), fun z => by rw [z]; decide⟩
    rw [chF]
    by_cases q0 : a (7 + 2 * i) 7 = 0 ∨ a (7 + 2 * i) 3 = 0
    · obtain ⟨m2, b1, b2, b3⟩ := ih N (i + 1) b t m h hA hM hK (by omega) (by omega)
      refine ⟨m2, fun o => ?_, b2, b3⟩
      show f_X5_bestStack_8b (f_X5_bestStack_8 N) p w (nI e) b t (nI i) m o = _
      rw [if_pos q0]
      simp (config := {decide := true}) only [f_X5_bestStack_8b, f_X5_bestStack_142, h6, hle, t1, t2, t3, t4, u1, u2, gs, n1, n2, hin, ix_nI (show i < 2 ^ 31 by omega), e0, nI_1, ne_eq, not_false_eq_true, and_self, and_true, true_and, and_false, false_and, true_or, or_true, false_or, or_false, not_true_eq_false, if_false, if_true]
      by_cases q1 : a (7 + 2 * i) 7 = 0
      · rw [if_pos q1]; exact b1 o
      · rw [if_neg q1, if_pos (q0.resolve_left q1)]; exact b1 o
    · have q1 : ¬ a (7 + 2 * i) 7 = 0 := fun z => q0 (.inl z)
      have q2 : ¬ a (7 + 2 * i) 3 = 0 := fun z => q0 (.inr z)
      rw [if_neg q0]
      have e12 : nI e * 12 + nI i = nI (12 * e + i) := by rw [show (12 : Int32) = nI 12 from rfl, pk_mul, nI_add, Nat.mul_comm]
      have hin2 : vp_in (nI (12 * e + i)) 192 := vp_in_nI (by omega) (by omega)
      have n5 : ¬ p + 5 = 0 := by omega
      have n6 : ¬ p + 6 = 0 := by omega
      obtain ⟨w0, -⟩ := w_sh h hA.1
      have hlt : ∀ x y : Int32, (x ≤ y) = ¬ (y < x) := fun x y => propext (i32_nlt y x).symm
      -- the amount: remembered, or found
      have step : ∃ m1, (∀ (K : Nat → Nat → Int32 → Int32 → Int32 → Int32 → Mm → Prop → Int32 × Mm × Prop) o, f_X5_bestStack_69 K p w (nI e) b t (nI i) (nI (12 * e + i)) (lk (C 8) a i) m o = f_X5_bestStack_118 K p w (nI e) b t (nI i) (nI (12 * e + i)) m1 o) ∧ Fr (bsP p w) m m1 ∧ KC (Ev C nl T V) (C 8) m1 p a0 n c ∧ gI m1 (p + 5) (12 * e + i) = Ev C nl T V (letE a i e) := by
        have found : ∃ m1, (∀ (K : Nat → Nat → Int32 → Int32 → Int32 → Int32 → Mm → Prop → Int32 × Mm × Prop) o, f_X5_bestStack_94 K p w (nI e) b t (nI i) (nI (12 * e + i)) (lk (C 8) a i) m o = f_X5_bestStack_118 K p w (nI e) b t (nI i) (nI (12 * e + i)) m1 o) ∧ Fr (bsP p w) m m1 ∧ KC (Ev C nl T V) (C 8) m1 p a0 n c ∧ gI m1 (p + 5) (12 * e + i) = Ev C nl T V (letE a i e) := by
          obtain ⟨m1, a1, a2⟩ := e_wouldEat hL h hA hp (show i < 12 by omega) (show e < 16 by omega) hM hkc ekc
          have h1 := Fr_Sh a2 h
          obtain ⟨-, -, -, x4, x5, x6, x7, x8, x9⟩ := md_top2 h1 hp
          have hwp : 205 ≤ w := by rcases hA.1 with rfl | rfl <;> omega
          obtain ⟨s1, -⟩ := md_top h1 hp
          refine ⟨sI (sI m1 (p + 5) (12 * e + i) (Ev C nl T V (letE a i e))) (p + 6) (12 * e + i) (lk (C 8) a i), fun K o => ?_, Fr_sI (Fr_sI (Fr_mono a2 (fun q x hq => .inl hq)) (.inr (.inl rfl)) _) (.inr (.inr rfl)) _, fun e' s' he' hs' => ?_, ?_⟩
          · simp (config := {decide := true}) only [f_X5_bestStack_94, f_X5_bestStack_108, f_X5_bestStack_109, bnd, a1, w0, t1, s1, v4, v5, v6, x4, x5, x6, x7, x8, x9, n5, n6, gT_sI, gR_sI, gN_sI, hin2, ix_nI (show 12 * e + i < 2 ^ 31 by omega), ne_eq, not_false_eq_true, and_self, and_true, true_and, and_false, false_and, true_or, or_true, false_or, or_false, not_true_eq_false, if_false, if_true]
          · rw [gI_sI, if_neg (by omega), gI_sI, gI_sI]
            by_cases z : e' = e ∧ s' = i
            · obtain ⟨rfl, rfl⟩ := z
              rw [if_pos ⟨rfl, rfl⟩, if_pos ⟨rfl, rfl⟩]
              refine .inr (fun b' hb hWb hl => ?_)
              exact E_looks hmk hdE hW hWb ⟨fun s hs => by
                obtain ⟨q1, q2, q3, q4⟩ := hb.1 s hs
                obtain ⟨r1, r2, r3, r4⟩ := hS.1 s hs
                exact ⟨q1.trans r1.symm, q2.trans r2.symm, q3.trans r3.symm, q4.trans r4.symm⟩, fun x hx => ⟨fun f hf => ((hb.2 x hx).1 f hf).trans ((hS.2 x hx).1 f hf).symm, fun j hj => ((hb.2 x hx).2 j hj).trans ((hS.2 x hx).2 j hj).symm⟩⟩ hs' he' hl
            · have hne : ¬ (12 * e' + s' = 12 * e + i) := by omega
              rw [if_neg (fun y => hne y.2), if_neg (fun y => hne y.2), gI_sI, if_neg (by omega), Fr_at a2 (by unfold lwP; omega), Fr_at a2 (by unfold lwP; omega)]
              exact hK e' s' he' hs'
          · rw [gI_sI, if_neg (by omega), gI_sI, if_pos ⟨rfl, rfl⟩]
        by_cases q3 : gI m (p + 5) (12 * e + i) = -1
        · obtain ⟨m1, a1, a2⟩ := found
          refine ⟨m1, fun K o => ?_, a2⟩
          simp (config := {decide := true}) only [f_X5_bestStack_69, t1, v4, v5, v6, n5, hin2, ix_nI (show 12 * e + i < 2 ^ 31 by omega), q3, ne_eq, not_false_eq_true, and_self, and_true, true_and, and_false, false_and, true_or, or_true, false_or, or_false, not_true_eq_false, if_false, if_true]
          exact a1 K o
        · by_cases q4 : gI m (p + 6) (12 * e + i) = lk (C 8) a i
          · refine ⟨m, fun K o => ?_, Fr_refl _ m, hK, ?_⟩
            · simp (config := {decide := true}) only [f_X5_bestStack_69, t1, v4, v5, v6, v7, v8, v9, n5, n6, hin2, ix_nI (show 12 * e + i < 2 ^ 31 by omega), q3, q4, ne_eq, not_false_eq_true, and_self, and_true, true_and, and_false, false_and, true_or, or_true, false_or, or_false, not_true_eq_false, if_false, if_true]
            · exact ((hK e i he (by omega)).resolve_left q3 a hS hW q4.symm).symm
          · obtain ⟨m1, a1, a2⟩ := found
            refine ⟨m1, fun K o => ?_, a2⟩
            simp (config := {decide := true}) only [f_X5_bestStack_69, t1, v4, v5, v6, v7, v8, v9, n5, n6, hin2, ix_nI (show 12 * e + i < 2 ^ 31 by omega), q3, q4, ne_eq, not_false_eq_true, and_self, and_true, true_and, and_false, false_and, true_or, or_true, false_or, or_false, not_true_eq_false, if_false, if_true]
            exact a1 K o
      obtain ⟨m1, a1, a2, a3, a4⟩ := step
      have h1 := Fr_Sh a2 h
      have hwp : 205 ≤ w := by rcases hA.1 with rfl | rfl <;> omega
      have hA1 : lawAt m1 w C nl := lawAt_Fr hA a2 (fun q x hq => by unfold bsP lwP; omega)
      have hM1 : Md m1 p a := Md_frame hM (fun q x hq => Fr_at a2 (by unfold bsP lwP; unfold inM at hq; omega))
      obtain ⟨s1, -⟩ := md_top h1 hp
      obtain ⟨-, -, -, x4, x5, x6, -⟩ := md_top2 h1 hp
      have hsal := fun o => e_isSalted h (s := i) hp hM o
      have hlks := fun o => e_looks h hp (show i < 12 by omega) hA hM o
      by_cases q5 : t < Ev C nl T V (letE a i e)
      · rw [if_pos q5]
        obtain ⟨m2, b1, b2, b3⟩ := ih N (i + 1) (nI i) (Ev C nl T V (letE a i e)) m1 h1 hA1 hM1 a3 (by omega) (by omega)
        refine ⟨m2, fun o => ?_, Fr_trans a2 b2, b3⟩
        show f_X5_bestStack_8b (f_X5_bestStack_8 N) p w (nI e) b t (nI i) m o = _
        simp (config := {decide := true}) only [f_X5_bestStack_8b, f_X5_bestStack_66, f_X5_bestStack_118, f_X5_bestStack_142, bnd, h6, hle, t1, t2, t3, t4, u1, u2, gs, n1, n2, n5, hin, hin2, ix_nI (show i < 2 ^ 31 by omega), ix_nI (show 12 * e + i < 2 ^ 31 by omega), e0, q1, q2, e12, hsal, hlks, w0, a1, s1, x4, x5, x6, a4, hlt, q5, nI_1, ne_eq, not_false_eq_true, and_self, and_true, true_and, and_false, false_and, true_or, or_true, false_or, or_false, not_true_eq_false, if_false, if_true]
        exact b1 o
      · rw [if_neg q5]
        obtain ⟨m2, b1, b2, b3⟩ := ih N (i + 1) b t m1 h1 hA1 hM1 a3 (by omega) (by omega)
        refine ⟨m2, fun o => ?_, Fr_trans a2 b2, b3⟩
        show f_X5_bestStack_8b (f_X5_bestStack_8 N) p w (nI e) b t (nI i) m o = _
        simp (config := {decide := true}) only [f_X5_bestStack_8b, f_X5_bestStack_66, f_X5_bestStack_118, f_X5_bestStack_142, bnd, h6, hle, t1, t2, t3, t4, u1, u2, gs, n1, n2, n5, hin, hin2, ix_nI (show i < 2 ^ 31 by omega), ix_nI (show 12 * e + i < 2 ^ 31 by omega), e0, q1, q2, e12, hsal, hlks, w0, a1, s1, x4, x5, x6, a4, hlt, q5, nI_1, ne_eq, not_false_eq_true, and_self, and_true, true_and, and_false, false_and, true_or, or_true, false_or, or_false, not_true_eq_false, if_false, if_true]
        exact b1 o
/-- the choice of the other side -/
theorem l_choice {C D : Nat → Nat → Int32} {nl : Nat} {T : Nat → (Nat → Int32) → Option Bool} {V : Nat → (Nat → Int32) → Option Int32} (hL : LwM (C 3) D nl T V) {a : Nat → Nat → Int32} {n c e : Nat} {d : Nat → Int32} (hW : WfA a n c) (he : e < c) : ∀ (k N i : Nat) (b t : Int32) (m : Mm), Sh m → lawM m D nl → MM m a n c d → i + k = n → k < N → ∃ m', (∀ o, f_X12_choice_7 N 225 (nI e) b t (nI i) m o = (chF (Ev C nl T V) a e b t i k, m', o)) ∧ Fr lmP m m' := by
  have hn := hW.1.1.1
  have hc := hW.1.1.2
  intro k
  induction k with
  | zero =>
    intro N i b t m h hA hE hi hN
    obtain ⟨N, rfl⟩ : ∃ N1, N = N1 + 1 := ⟨N - 1, by omega⟩
    have h2 : gI m 225 2 = nI n := hE.2.1.trans hW.1.2.1
    have hle : nI n ≤ nI i := nI_le (by omega) (by omega)
    refine ⟨m, fun o => ?_, Fr_refl _ m⟩
    show f_X12_choice_7b (f_X12_choice_7 N) 225 (nI e) b t (nI i) m o = _
    simp (config := {decide := true}) only [f_X12_choice_7b, h2, hle, shT_225 h, chF, ne_eq, not_false_eq_true, and_self, and_true, true_and, and_false, false_and, true_or, or_true, false_or, or_false, not_true_eq_false, if_false, if_true]
  | succ k ih =>
    intro N i b t m h hA hE hi hN
    obtain ⟨N, rfl⟩ : ∃ N1, N = N1 + 1 := ⟨N - 1, by omega⟩
    have h2 : gI m 225 2 = nI n := hE.2.1.trans hW.1.2.1
    have hle : ¬ nI n ≤ nI i := nI_ge (by omega) (by omega)
    have hin : vp_in (nI i) 12 := vp_in_nI (by omega) (by omega)
    obtain ⟨-, -, s2, -, -, -, s6⟩ := MM_at hE (show i < n by omega)
    rw [chF]
    by_cases q0 : a (7 + 2 * i) 7 = 0 ∨ a (7 + 2 * i) 3 = 0
    · obtain ⟨m2, b1, b2⟩ := ih N (i + 1) b t m h hA hE (by omega) (by omega)
      refine ⟨m2, fun o => ?_, b2⟩
      show f_X12_choice_7b (f_X12_choice_7 N) 225 (nI e) b t (nI i) m o = _
      rw [if_pos q0]
      simp (config := {decide := true}) only [f_X12_choice_7b, f_X12_choice_63, h2, hle, shT_225 h, shR_225_10 h, shR_225_14 h, shT_229 h, shN_229 h, shT_233 h, shN_233 h, hin, ix_nI (show i < 2 ^ 31 by omega), s2, s6, nI_1, ne_eq, not_false_eq_true, and_self, and_true, true_and, and_false, false_and, true_or, or_true, false_or, or_false, not_true_eq_false, if_false, if_true]
      by_cases q1 : a (7 + 2 * i) 7 = 0
      · rw [if_pos q1]; exact b1 o
      · rw [if_neg q1, if_pos (q0.resolve_left q1)]; exact b1 o
    · have q1 : ¬ a (7 + 2 * i) 7 = 0 := fun z => q0 (.inl z)
      have q2 : ¬ a (7 + 2 * i) 3 = 0 := fun z => q0 (.inr z)
      rw [if_neg q0]
      obtain ⟨m1, a1, a2⟩ := e_wouldEatM hL h hA hE hW (show i < n by omega) he
      have h1 := Fr_Sh a2 h
      have hA1 := lawM_Fr hA a2 (fun q x hq => by unfold lmP; omega)
      have hE1 : MM m1 a n c d := MM_frame hE (fun q x hq => Fr_at a2 (by unfold lmP; omega))
      by_cases q5 : t < Ev C nl T V (letE a i e)
      · rw [if_pos q5]
        obtain ⟨m2, b1, b2⟩ := ih N (i + 1) (nI i) (Ev C nl T V (letE a i e)) m1 h1 hA1 hE1 (by omega) (by omega)
        refine ⟨m2, fun o => ?_, Fr_trans a2 b2⟩
        show f_X12_choice_7b (f_X12_choice_7 N) 225 (nI e) b t (nI i) m o = _
        simp (config := {decide := true}) only [f_X12_choice_7b, f_X12_choice_46, f_X12_choice_63, bnd, h2, hle, shT_225 h, shR_225_10 h, shR_225_14 h, shT_229 h, shN_229 h, shT_233 h, shN_233 h, hin, ix_nI (show i < 2 ^ 31 by omega), s2, s6, q1, q2, a1, q5, nI_1, ne_eq, not_false_eq_true, and_self, and_true, true_and, and_false, false_and, true_or, or_true, false_or, or_false, not_true_eq_false, if_false, if_true]
        exact b1 o
      · rw [if_neg q5]
        obtain ⟨m2, b1, b2⟩ := ih N (i + 1) b t m1 h1 hA1 hE1 (by omega) (by omega)
        refine ⟨m2, fun o => ?_, Fr_trans a2 b2⟩
        show f_X12_choice_7b (f_X12_choice_7 N) 225 (nI e) b t (nI i) m o = _
        simp (config := {decide := true}) only [f_X12_choice_7b, f_X12_choice_46, f_X12_choice_63, bnd, h2, hle, shT_225 h, shR_225_10 h, shR_225_14 h, shT_229 h, shN_229 h, shT_233 h, shN_233 h, hin, ix_nI (show i < 2 ^ 31 by omega), s2, s6, q1, q2, a1, q5, nI_1, ne_eq, not_false_eq_true, and_self, and_true, true_and, and_false, false_and, true_or, or_true, false_or, or_false, not_true_eq_false, if_false, if_true]
        exact b1 o
