/-! ===== a day ===== -/
def bite (h u : Int32) : Int32 := if h < u then h else u
def eatG (a : Nat → Nat → Int32) (s c : Nat) : Nat → Nat → Int32 := up (up (up (up a (7 + 2 * s) 3 (a (7 + 2 * s) 3 - bite (a (7 + 2 * s) 3) (a (31 + 2 * c) 3))) (8 + 2 * s) c (a (8 + 2 * s) c + bite (a (7 + 2 * s) 3) (a (31 + 2 * c) 3))) 3 (ix (a (7 + 2 * s) 2)) (a 3 (ix (a (7 + 2 * s) 2)) + a (31 + 2 * c) 2)) (31 + 2 * c) 4 (a (7 + 2 * s) 2)
theorem bite_nI {h u : Nat} (hh : h < 2 ^ 31) (hu : u < 2 ^ 31) : bite (nI h) (nI u) = nI (if h < u then h else u) := by
  unfold bite
  by_cases q : h < u
  · rw [if_pos (nI_lt q hu), if_pos q]
  · rw [if_neg (nI_nlt (by omega) hh), if_neg q]
theorem eatG_ne (a : Nat → Nat → Int32) (s c : Nat) {x y : Nat} (h1 : ¬ (x = 7 + 2 * s ∧ y = 3)) (h2 : ¬ (x = 8 + 2 * s ∧ y = c)) (h3 : x ≠ 3) (h4 : ¬ (x = 31 + 2 * c ∧ y = 4)) : eatG a s c x y = a x y := by
  unfold eatG
  rw [up_ne _ _ h4, up_ne _ _ (fun z => h3 z.1), up_ne _ _ h2, up_ne _ _ h1]
theorem WfA_eat {a : Nat → Nat → Int32} {n c s e : Nat} (hW : WfA a n c) (hs : s < n) (he : e < c) : WfA (eatG a s e) n c ∧ sta a (eatG a s e) n c := by
  obtain ⟨⟨⟨w1, w2⟩, w3, w4, w5, w6⟩, w7, w8, w9, w10⟩ := hW
  obtain ⟨-, -, ⟨k, hk, ek⟩, ⟨h, hh, eh⟩, -⟩ := w7 s hs
  obtain ⟨-, -, -, ⟨u, hu1, hu, eu⟩, -⟩ := w9 e he
  have v0 : ∀ i, eatG a s e 0 i = a 0 i := fun i => eatG_ne _ _ _ (by omega) (by omega) (by omega) (by omega)
  have vS : ∀ x i, i ≠ 3 → x < 12 → eatG a s e (7 + 2 * x) i = a (7 + 2 * x) i := fun x i hi hx => eatG_ne _ _ _ (by omega) (by omega) (by omega) (by omega)
  have v3 : ∀ x, x < 12 → eatG a s e (7 + 2 * x) 3 = if x = s then nI (h - (if h < u then h else u)) else a (7 + 2 * x) 3 := fun x hx => by
    by_cases q : x = s
    · subst q
      rw [if_pos rfl]
      unfold eatG
      rw [up_ne _ _ (by omega), up_ne _ _ (by omega), up_ne _ _ (by omega), up_same, eh, eu, bite_nI hh (by omega), pk_sub]
      by_cases z : h < u
      · rw [if_pos z]; omega
      · rw [if_neg z]; omega
    · rw [if_neg q]
      exact eatG_ne _ _ _ (by omega) (by omega) (by omega) (by omega)
  have vC : ∀ x i, i ≠ 4 → x < 16 → eatG a s e (31 + 2 * x) i = a (31 + 2 * x) i := fun x i hi hx => eatG_ne _ _ _ (by omega) (by omega) (by omega) (by omega)
  have v4 : ∀ x, x < 16 → eatG a s e (31 + 2 * x) 4 = if x = e then nI k else a (31 + 2 * x) 4 := fun x hx => by
    by_cases q : x = e
    · subst q
      rw [if_pos rfl]
      unfold eatG
      rw [up_same, ek]
    · rw [if_neg q]
      exact eatG_ne _ _ _ (by omega) (by omega) (by omega) (by omega)
  have vT : ∀ x i, x < 16 → eatG a s e (32 + 2 * x) i = a (32 + 2 * x) i := fun x i hx => eatG_ne _ _ _ (by omega) (by omega) (by omega) (by omega)
  refine ⟨⟨⟨⟨w1, w2⟩, by rw [v0]; exact w3, by rw [v0]; exact w4, by rw [v0, v0]; exact w5, by rw [v0]; exact w6⟩, fun x hx => ?_, ?_, fun x hx => ?_, fun x hx i h1 h2 => ?_⟩, fun x hx => ?_, fun x hx => ?_⟩
  · have := w7 x hx
    unfold wS at this ⊢
    rw [vS x 0 (by omega) (by omega), vS x 1 (by omega) (by omega), vS x 2 (by omega) (by omega), vS x 4 (by omega) (by omega), vS x 5 (by omega) (by omega), vS x 6 (by omega) (by omega), vS x 7 (by omega) (by omega), v3 x (by omega)]
    obtain ⟨q0, q1, q2, q3, q4, q5, q6, q7⟩ := this
    refine ⟨q0, q1, q2, ?_, q4, q5, q6, q7⟩
    by_cases q : x = s
    · rw [if_pos q]
      exact ⟨_, by omega, rfl⟩
    · rw [if_neg q]; exact q3
  · have g := hsum_set (fun s => a (7 + 2 * s) 3) (nI (h - (if h < u then h else u))) (s := s) (n := n) hs
    rw [hsum_congr (g := fun x => if x = s then nI (h - (if h < u then h else u)) else a (7 + 2 * x) 3) (fun x hx => v3 x (by omega))]
    simp only [eh, nI_clamp hh, nI_clamp (show h - (if h < u then h else u) < 2 ^ 31 by omega)] at g
    omega
  · obtain ⟨q0, q1, q2, q3, q4, q5⟩ := w9 x hx
    refine ⟨?_, ?_, ?_, ?_, ?_, fun j hj => ?_⟩
    · rw [vC x 0 (by omega) (by omega)]; exact q0
    · rw [vC x 1 (by omega) (by omega)]; exact q1
    · rw [vC x 2 (by omega) (by omega)]; exact q2
    · rw [vC x 3 (by omega) (by omega)]; exact q3
    · rw [v4 x (by omega)]
      by_cases q : x = e
      · rw [if_pos q]; exact .inr ⟨k, hk, rfl⟩
      · rw [if_neg q]; exact q4
    · rw [vT x j (by omega)]; exact q5 j hj
  · rw [eatG_ne _ _ _ (by omega) (by omega) (by omega) (by omega)]
    exact w10 x hx i h1 h2
  · exact ⟨vS x 0 (by omega) (by omega), vS x 1 (by omega) (by omega), vS x 2 (by omega) (by omega), vS x 5 (by omega) (by omega)⟩
  · exact ⟨fun f hf => vC x f (by omega) (by omega), fun j hj => vT x j (by omega)⟩
theorem e_eatAt {m : Mm} (h : Sh m) {p : Nat} (hp : isMd p) {a : Nat → Nat → Int32} {n c s e : Nat} (hM : Md m p a) (hW : WfA a n c) (hs : s < n) (he : e < c) : ∃ m', (∀ o, F_X5_eatAt p (nI s) (nI e) m o = (bite (a (7 + 2 * s) 3) (a (31 + 2 * e) 3), m', o)) ∧ Md m' p (eatG a s e) ∧ Fr (fun q _ => inM p q) m m' := by
  have hn := hW.1.1.1
  have hc := hW.1.1.2
  obtain ⟨t1, t2, t3, t4, t5, t6, t7, t8, t9, t10⟩ := md_top h hp
  obtain ⟨u1, u2, u3, u4, u5⟩ := md_stk h hp (show s < 12 by omega)
  obtain ⟨v1, v2, -⟩ := md_cow h hp (show e < 16 by omega)
  obtain ⟨-, -, ⟨k, hk, ek⟩, -⟩ := hW.2.1 s hs
  have gs : ∀ i, gI m (p + 7 + 2 * s) i = a (7 + 2 * s) i := fun i => Md_at hM (by omega) (by omega) (by omega)
  have ge : ∀ i, gI m (p + 8 + 2 * s) i = a (8 + 2 * s) i := fun i => Md_at hM (by omega) (by omega) (by omega)
  have gc : ∀ i, gI m (p + 31 + 2 * e) i = a (31 + 2 * e) i := fun i => Md_at hM (by omega) (by omega) (by omega)
  have gk : ∀ i, gI m (p + 3) i = a 3 i := fun i => Md_at hM (j := 3) (by omega) (by omega) rfl
  have n1 : ¬ p + 1 = 0 := by omega
  have n2 : ¬ p + 2 = 0 := by omega
  have n3 : ¬ p + 3 = 0 := by omega
  have n4 : ¬ p + 7 + 2 * s = 0 := by omega
  have n5 : ¬ p + 8 + 2 * s = 0 := by omega
  have n6 : ¬ p + 31 + 2 * e = 0 := by omega
  have d1 : (p + 8 + 2 * s = p + 7 + 2 * s) = False := eq_false (by omega)
  have d2 : (p + 7 + 2 * s = p + 8 + 2 * s) = False := eq_false (by omega)
  have d3 : (p + 7 + 2 * s = p + 3) = False := eq_false (by omega)
  have d4 : (p + 3 = p + 7 + 2 * s) = False := eq_false (by omega)
  have d5 : (p + 3 = p + 8 + 2 * s) = False := eq_false (by omega)
  have d6 : (p + 31 + 2 * e = p + 7 + 2 * s) = False := eq_false (by omega)
  have d7 : (p + 31 + 2 * e = p + 8 + 2 * s) = False := eq_false (by omega)
  have d8 : (p + 31 + 2 * e = p + 3) = False := eq_false (by omega)
  have hin1 : vp_in (nI s) 12 := vp_in_nI (by omega) (by omega)
  have hin2 : vp_in (nI e) 16 := vp_in_nI (by omega) (by omega)
  have hin3 : vp_in (nI k) 5 := vp_in_nI (by omega) (by omega)
  refine ⟨sI (sI (sI (sI m (p + 7 + 2 * s) 3 (a (7 + 2 * s) 3 - bite (a (7 + 2 * s) 3) (a (31 + 2 * e) 3))) (p + 8 + 2 * s) e (a (8 + 2 * s) e + bite (a (7 + 2 * s) 3) (a (31 + 2 * e) 3))) (p + 3) k (a 3 k + a (31 + 2 * e) 2)) (p + 31 + 2 * e) 4 (a (7 + 2 * s) 2), fun o => ?_, ?_, ?_⟩
  · simp (config := {decide := true}) only [f_X5_eatAt_77, f_X5_eatAt_68, f_X5_eatAt_51, f_X5_eatAt_40, f_X5_eatAt_0, F_X5_eatAt, bite, t1, t2, t3, t4, t5, t6, t7, t8, t9, t10, u1, u2, u3, u4, u5, v1, v2, gs, ge, gc, gk, n1, n2, n3, n4, n5, n6, d1, d2, d3, d4, d5, d6, d7, d8, hin1, hin2, hin3, ix_nI (show s < 2 ^ 31 by omega), ix_nI (show e < 2 ^ 31 by omega), ix_nI (show k < 2 ^ 31 by omega), gI_sI, gT_sI, gN_sI, gR_sI, ek, ne_eq, not_false_eq_true, and_self, and_true, true_and, and_false, false_and, true_or, or_true, false_or, or_false, not_true_eq_false, if_false, if_true]
  · unfold eatG
    rw [ek, ix_nI (by omega)]
    exact Md_up' (Md_up' (Md_up' (Md_up' hM 3 _ (by omega)) e _ (by omega)) k _ rfl) 4 _ (by omega)
  · refine Fr_sI (Fr_sI (Fr_sI (Fr_sI (Fr_refl _ m) ?_ _) ?_ _) ?_ _) ?_ _ <;> unfold inM <;> omega
/-- heat -/
def heatG (G : (Nat → Int32) → Int32) (a : Nat → Nat → Int32) (s : Nat) : Nat → Nat → Int32 := if 500 ≤ a (7 + 2 * s) 6 + G (letG a s) then up (up (up a (7 + 2 * s) 6 (a (7 + 2 * s) 6 + G (letG a s))) (7 + 2 * s) 7 0) (7 + 2 * s) 3 0 else up a (7 + 2 * s) 6 (a (7 + 2 * s) 6 + G (letG a s))
theorem WfA_heat {G : (Nat → Int32) → Int32} (hG : ∀ l, ∃ v, v ≤ 99 ∧ G l = nI v) {a : Nat → Nat → Int32} {n c s : Nat} (hW : WfA a n c) (hs : s < n) (hst : ¬ a (7 + 2 * s) 7 = 0) : WfA (heatG G a s) n c ∧ sta a (heatG G a s) n c := by
  obtain ⟨⟨⟨w1, w2⟩, w3, w4, w5, w6⟩, w7, w8, w9, w10⟩ := hW
  obtain ⟨-, -, -, ⟨h, hh, eh⟩, -, -, ⟨t, ht, et, ht2⟩, hst2⟩ := w7 s hs
  obtain ⟨v, hv, ev⟩ := hG (letG a s)
  have ht3 := ht2 (hst2.resolve_left hst)
  have e6 : a (7 + 2 * s) 6 + G (letG a s) = nI (t + v) := by rw [et, ev, nI_add]
  have hc : (500 ≤ a (7 + 2 * s) 6 + G (letG a s)) ↔ 500 ≤ t + v := by rw [e6]; exact nI_leI (a := 500) (b := t + v) (by omega) (by omega)
  have ne : ∀ x y, ¬ (x = 7 + 2 * s ∧ (y = 3 ∨ y = 6 ∨ y = 7)) → heatG G a s x y = a x y := fun x y hxy => by
    unfold heatG
    by_cases q : 500 ≤ a (7 + 2 * s) 6 + G (letG a s)
    · rw [if_pos q, up_ne _ _ (by omega), up_ne _ _ (by omega), up_ne _ _ (by omega)]
    · rw [if_neg q, up_ne _ _ (by omega)]
  have v6 : heatG G a s (7 + 2 * s) 6 = nI (t + v) := by
    unfold heatG
    by_cases q : 500 ≤ a (7 + 2 * s) 6 + G (letG a s)
    · rw [if_pos q, up_ne _ _ (by omega), up_ne _ _ (by omega), up_same, e6]
    · rw [if_neg q, up_same, e6]
  have v7 : heatG G a s (7 + 2 * s) 7 = if 500 ≤ t + v then 0 else a (7 + 2 * s) 7 := by
    unfold heatG
    by_cases q : 500 ≤ a (7 + 2 * s) 6 + G (letG a s)
    · rw [if_pos q, up_ne _ _ (by omega), up_same, if_pos (hc.mp q)]
    · rw [if_neg q, up_ne _ _ (by omega), if_neg (fun z => q (hc.mpr z))]
  have v3 : heatG G a s (7 + 2 * s) 3 = if 500 ≤ t + v then 0 else nI h := by
    unfold heatG
    by_cases q : 500 ≤ a (7 + 2 * s) 6 + G (letG a s)
    · rw [if_pos q, up_same, if_pos (hc.mp q)]
    · rw [if_neg q, up_ne _ _ (by omega), if_neg (fun z => q (hc.mpr z)), eh]
  have v0 : ∀ i, heatG G a s 0 i = a 0 i := fun i => ne 0 i (by omega)
  refine ⟨⟨⟨⟨w1, w2⟩, by rw [v0]; exact w3, by rw [v0]; exact w4, by rw [v0, v0]; exact w5, by rw [v0]; exact w6⟩, fun x hx => ?_, ?_, fun x hx => ?_, fun x hx i h1 h2 => ?_⟩, fun x hx => ?_, fun x hx => ?_⟩
  · have := w7 x hx
    by_cases q : x = s
    · subst q
      unfold wS at this ⊢
      obtain ⟨q0, q1, q2, q3, q4, q5, q6, q7⟩ := this
      rw [ne _ 0 (by omega), ne _ 1 (by omega), ne _ 2 (by omega), ne _ 4 (by omega), ne _ 5 (by omega), v3, v6, v7]
      refine ⟨q0, q1, q2, ?_, q4, q5, ⟨t + v, by omega, rfl, ?_⟩, ?_⟩
      · by_cases z : 500 ≤ t + v
        · rw [if_pos z]; exact ⟨0, by omega, rfl⟩
        · rw [if_neg z]; exact ⟨h, hh, rfl⟩
      · by_cases z : 500 ≤ t + v
        · rw [if_pos z]; exact fun y => absurd y (by decide)
        · rw [if_neg z]; exact fun _ => by omega
      · by_cases z : 500 ≤ t + v
        · rw [if_pos z]; exact .inl rfl
        · rw [if_neg z]; exact q7
    · unfold wS at this ⊢
      rw [ne _ 0 (by omega), ne _ 1 (by omega), ne _ 2 (by omega), ne _ 3 (by omega), ne _ 4 (by omega), ne _ 5 (by omega), ne _ 6 (by omega), ne _ 7 (by omega)]
      exact this
  · have g := hsum_set (fun s => a (7 + 2 * s) 3) (if 500 ≤ t + v then 0 else nI h) (s := s) (n := n) hs
    rw [hsum_congr (g := fun x => if x = s then (if 500 ≤ t + v then 0 else nI h) else a (7 + 2 * x) 3) (fun x hx => by
      by_cases q : x = s
      · subst q; rw [v3, if_pos rfl]
      · rw [if_neg q]; exact ne _ 3 (by omega))]
    simp only [eh, nI_clamp hh] at g
    by_cases z : 500 ≤ t + v
    · simp only [if_pos z, show (0 : Int32).toNatClampNeg = 0 by decide] at g ⊢
      omega
    · simp only [if_neg z, nI_clamp hh] at g ⊢
      omega
  · have := w9 x hx
    unfold wC at this ⊢
    have e1 : ∀ g, heatG G a s (31 + 2 * x) g = a (31 + 2 * x) g := fun g => ne _ g (by omega)
    have e2 : ∀ g, heatG G a s (32 + 2 * x) g = a (32 + 2 * x) g := fun g => ne _ g (by omega)
    simp only [e1, e2]
    exact this
  · rw [ne _ i (by omega)]
    exact w10 x hx i h1 h2
  · exact ⟨ne _ 0 (by omega), ne _ 1 (by omega), ne _ 2 (by omega), ne _ 5 (by omega)⟩
  · exact ⟨fun f hf => ne _ f (by omega), fun j hj => ne _ j (by omega)⟩
theorem e_heatUp {C : Nat → Nat → Int32} {nl : Nat} {T : Nat → (Nat → Int32) → Option Bool} {V : Nat → (Nat → Int32) → Option Int32} (hL : LwF C nl T V) {m : Mm} (h : Sh m) {w : Nat} (hA : lawAt m w C nl) {p s : Nat} (hp : isMd p) (hs : s < 12) {a : Nat → Nat → Int32} (hM : Md m p a) : ∃ m', (∀ o, F_X5_heatUp p w (nI s) m o = ((), m', o)) ∧ Md m' p (heatG (Gv C nl T V) a s) ∧ Fr (fun q x => lwP w q x ∨ inM p q) m m' := by
  obtain ⟨t1, t2, t3, t4, -⟩ := md_top h hp
  obtain ⟨u1, u2, -⟩ := md_stk h hp hs
  obtain ⟨w0, -⟩ := w_sh h hA.1
  have hpp : p + 63 ≤ 191 := by rcases hp with rfl | rfl | rfl <;> omega
  have hwp : 205 ≤ w := by rcases hA.1 with rfl | rfl <;> omega
  obtain ⟨m1, a1, a2⟩ := e_hotterBy hL h hA hp hs hM
  have h1 := Fr_Sh a2 h
  have hM1 : Md m1 p a := Md_frame hM (fun q x hq => Fr_at a2 (by unfold lwP; unfold inM at hq; omega))
  obtain ⟨s1, s2, s3, s4, -⟩ := md_top h1 hp
  obtain ⟨x1, x2, -⟩ := md_stk h1 hp hs
  have gs : ∀ i, gI m (p + 7 + 2 * s) i = a (7 + 2 * s) i := fun i => Md_at hM (by omega) (by omega) (by omega)
  have n1 : ¬ p + 1 = 0 := by omega
  have n4 : ¬ p + 7 + 2 * s = 0 := by omega
  have hin : vp_in (nI s) 12 := vp_in_nI (by omega) (by omega)
  have hiM : inM p (p + 7 + 2 * s) := by unfold inM; omega
  have hlt : ∀ x y : Int32, (x < y) = ¬ (y ≤ x) := fun x y => propext ⟨fun z y => (fa_of_lt z).2.1 y, fun z => fa_of_nle z⟩
  have M1 := Md_up' hM1 (q := p + 7 + 2 * s) (j := 7 + 2 * s) 6 (a (7 + 2 * s) 6 + Gv C nl T V (letG a s)) (by omega)
  have F1 : Fr (fun q x => lwP w q x ∨ inM p q) m (sI m1 (p + 7 + 2 * s) 6 (a (7 + 2 * s) 6 + Gv C nl T V (letG a s))) := Fr_sI (Fr_mono a2 (fun q x hq => .inl hq)) (.inr hiM) _
  unfold heatG
  by_cases q : 500 ≤ a (7 + 2 * s) 6 + Gv C nl T V (letG a s)
  · rw [if_pos q]
    refine ⟨sI (sI (sI m1 (p + 7 + 2 * s) 6 (a (7 + 2 * s) 6 + Gv C nl T V (letG a s))) (p + 7 + 2 * s) 7 0) (p + 7 + 2 * s) 3 0, fun o => ?_, Md_up' (Md_up' M1 7 _ (by omega)) 3 _ (by omega), Fr_sI (Fr_sI F1 (.inr hiM) _) (.inr hiM) _⟩
    simp (config := {decide := true}) only [f_X5_heatUp_44, f_X5_heatUp_20, f_X5_heatUp_16, f_X5_heatUp_0, F_X5_heatUp, f_X7_vanish_10, f_X7_vanish_5, f_X7_vanish_0, F_X7_vanish, bnd, t1, t2, t3, t4, u1, u2, w0, n1, n4, hin, ix_nI (show s < 2 ^ 31 by omega), gs, a1, s1, s2, s3, s4, x1, x2, gI_sI, gT_sI, gN_sI, gR_sI, hlt, q, ne_eq, not_false_eq_true, and_self, and_true, true_and, and_false, false_and, true_or, or_true, false_or, or_false, not_true_eq_false, if_false, if_true]
  · rw [if_neg q]
    refine ⟨sI m1 (p + 7 + 2 * s) 6 (a (7 + 2 * s) 6 + Gv C nl T V (letG a s)), fun o => ?_, M1, F1⟩
    simp (config := {decide := true}) only [f_X5_heatUp_44, f_X5_heatUp_20, f_X5_heatUp_16, f_X5_heatUp_0, F_X5_heatUp, bnd, t1, t2, t3, t4, u1, u2, w0, n1, n4, hin, ix_nI (show s < 2 ^ 31 by omega), gs, a1, s1, s2, s3, s4, x1, x2, gI_sI, gT_sI, gN_sI, gR_sI, hlt, q, ne_eq, not_false_eq_true, and_self, and_true, true_and, and_false, false_and, true_or, or_true, false_or, or_false, not_true_eq_false, if_false, if_true]
/-- the cows one after another: meadow, hay eaten, where each ate -/
def dC1 (E : (Nat → Int32) → Int32) (n : Nat) (z : (Nat → Nat → Int32) × Int32 × (Nat → Int32)) (c : Nat) : (Nat → Nat → Int32) × Int32 × (Nat → Int32) := if chF E z.1 c (-1) 0 0 n = -1 then (z.1, z.2.1, fun x => if x = c then -1 else z.2.2 x) else (eatG z.1 (ix (chF E z.1 c (-1) 0 0 n)) c, z.2.1 + bite (z.1 (7 + 2 * ix (chF E z.1 c (-1) 0 0 n)) 3) (z.1 (31 + 2 * c) 3), fun x => if x = c then chF E z.1 c (-1) 0 0 n else z.2.2 x)
def dC (E : (Nat → Int32) → Int32) (n : Nat) : (Nat → Nat → Int32) × Int32 × (Nat → Int32) → Nat → Nat → (Nat → Nat → Int32) × Int32 × (Nat → Int32)
  | z, _, 0 => z
  | z, c, k + 1 => dC E n (dC1 E n z c) (c + 1) k
/-- the stacks one after another: meadow, how many burn -/
def dS1 (G : (Nat → Int32) → Int32) (z : (Nat → Nat → Int32) × Int32) (s : Nat) : (Nat → Nat → Int32) × Int32 := if z.1 (7 + 2 * s) 7 = 0 then z else (heatG G z.1 s, if 500 ≤ z.1 (7 + 2 * s) 6 + G (letG z.1 s) then z.2 + 1 else z.2)
def dS (G : (Nat → Int32) → Int32) : (Nat → Nat → Int32) × Int32 → Nat → Nat → (Nat → Nat → Int32) × Int32
  | z, _, 0 => z
  | z, s, k + 1 => dS G (dS1 G z s) (s + 1) k
theorem WfA_dC1 (E : (Nat → Int32) → Int32) {n c e : Nat} {z : (Nat → Nat → Int32) × Int32 × (Nat → Int32)} (hW : WfA z.1 n c) (he : e < c) : WfA (dC1 E n z e).1 n c ∧ sta z.1 (dC1 E n z e).1 n c := by
  have hn := hW.1.1.1
  unfold dC1
  by_cases q : chF E z.1 e (-1) 0 0 n = -1
  · rw [if_pos q]; exact ⟨hW, sta_refl _ _ _⟩
  · rw [if_neg q]
    obtain ⟨s, hs, es⟩ := (chF_in E z.1 e n n 0 (-1) 0 (by omega) (.inl rfl)).resolve_left q
    rw [es, ix_nI (by omega)]
    exact WfA_eat hW hs he
theorem WfA_dS1 {G : (Nat → Int32) → Int32} (hG : ∀ l, ∃ v, v ≤ 99 ∧ G l = nI v) {n c s : Nat} {z : (Nat → Nat → Int32) × Int32} (hW : WfA z.1 n c) (hs : s < n) : WfA (dS1 G z s).1 n c ∧ sta z.1 (dS1 G z s).1 n c := by
  unfold dS1
  by_cases q : z.1 (7 + 2 * s) 7 = 0
  · rw [if_pos q]; exact ⟨hW, sta_refl _ _ _⟩
  · rw [if_neg q]; exact WfA_heat hG hW hs q
theorem WfA_dC (E : (Nat → Int32) → Int32) {n c : Nat} : ∀ (k e : Nat) (z : (Nat → Nat → Int32) × Int32 × (Nat → Int32)), WfA z.1 n c → e + k ≤ c → WfA (dC E n z e k).1 n c ∧ sta z.1 (dC E n z e k).1 n c
  | 0, _, _, hW, _ => ⟨hW, sta_refl _ _ _⟩
  | k + 1, e, z, hW, he => by
    obtain ⟨h1, h2⟩ := WfA_dC1 E hW (show e < c by omega)
    obtain ⟨h3, h4⟩ := WfA_dC E k (e + 1) (dC1 E n z e) h1 (by omega)
    exact ⟨h3, sta_trans h2 h4⟩
theorem WfA_dS {G : (Nat → Int32) → Int32} (hG : ∀ l, ∃ v, v ≤ 99 ∧ G l = nI v) {n c : Nat} : ∀ (k s : Nat) (z : (Nat → Nat → Int32) × Int32), WfA z.1 n c → s + k ≤ n → WfA (dS G z s k).1 n c ∧ sta z.1 (dS G z s k).1 n c
  | 0, _, _, hW, _ => ⟨hW, sta_refl _ _ _⟩
  | k + 1, s, z, hW, hs => by
    obtain ⟨h1, h2⟩ := WfA_dS1 hG hW (show s < n by omega)
    obtain ⟨h3, h4⟩ := WfA_dS hG k (s + 1) (dS1 G z s) h1 (by omega)
    exact ⟨h3, sta_trans h2 h4⟩
/-- a whole day -/
def dayA (E G : (Nat → Int32) → Int32) (n c : Nat) (a : Nat → Nat → Int32) : Nat → Nat → Int32 := up (dS G ((dC E n (a, 0, d0) 0 c).1, 0) 0 n).1 0 10 ((dS G ((dC E n (a, 0, d0) 0 c).1, 0) 0 n).1 0 10 + 1)
def dayH (E : (Nat → Int32) → Int32) (n c : Nat) (a : Nat → Nat → Int32) : Int32 := (dC E n (a, 0, d0) 0 c).2.1
def dayT (E : (Nat → Int32) → Int32) (n c : Nat) (a : Nat → Nat → Int32) : Nat → Int32 := (dC E n (a, 0, d0) 0 c).2.2
def dayB (E G : (Nat → Int32) → Int32) (n c : Nat) (a : Nat → Nat → Int32) : Int32 := (dS G ((dC E n (a, 0, d0) 0 c).1, 0) 0 n).2
theorem WfA_tick {a : Nat → Nat → Int32} {n c : Nat} (hW : WfA a n c) (v : Int32) : WfA (up a 0 10 v) n c ∧ sta a (up a 0 10 v) n c := by
  obtain ⟨⟨⟨w1, w2⟩, w3, w4, w5, w6⟩, w7, w8, w9, w10⟩ := hW
  have v0 : ∀ i, i ≠ 10 → up a 0 10 v 0 i = a 0 i := fun i hi => up_ne _ _ (by omega)
  have ne : ∀ x i, x ≠ 0 → up a 0 10 v x i = a x i := fun x i hx => up_ne _ _ (by omega)
  have neS : ∀ x, up a 0 10 v (7 + 2 * x) = a (7 + 2 * x) := fun x => funext (fun i => ne _ i (by omega))
  have neE : ∀ x, up a 0 10 v (8 + 2 * x) = a (8 + 2 * x) := fun x => funext (fun i => ne _ i (by omega))
  have neC : ∀ x, up a 0 10 v (31 + 2 * x) = a (31 + 2 * x) := fun x => funext (fun i => ne _ i (by omega))
  have neT : ∀ x, up a 0 10 v (32 + 2 * x) = a (32 + 2 * x) := fun x => funext (fun i => ne _ i (by omega))
  refine ⟨⟨⟨⟨w1, w2⟩, by rw [v0 6 (by omega)]; exact w3, by rw [v0 7 (by omega)]; exact w4, by rw [v0 8 (by omega), v0 9 (by omega)]; exact w5, by rw [v0 11 (by omega)]; exact w6⟩, fun x hx => by rw [neS]; exact w7 x hx, by simp only [neS]; exact w8, fun x hx => by rw [neC, neT]; exact w9 x hx, fun x hx i h1 h2 => by rw [neE]; exact w10 x hx i h1 h2⟩, fun x hx => by rw [neS]; exact ⟨rfl, rfl, rfl, rfl⟩, fun x hx => by rw [neC, neT]; exact ⟨fun _ _ => rfl, fun _ _ => rfl⟩⟩
theorem WfA_day (E : (Nat → Int32) → Int32) {G : (Nat → Int32) → Int32} (hG : ∀ l, ∃ v, v ≤ 99 ∧ G l = nI v) {a : Nat → Nat → Int32} {n c : Nat} (hW : WfA a n c) : WfA (dayA E G n c a) n c ∧ sta a (dayA E G n c a) n c := by
  obtain ⟨h1, h2⟩ := WfA_dC E c 0 (a, 0, d0) hW (by omega)
  obtain ⟨h3, h4⟩ := WfA_dS hG n 0 ((dC E n (a, 0, d0) 0 c).1, 0) h1 (by omega)
  obtain ⟨h5, h6⟩ := WfA_tick h3 ((dS G ((dC E n (a, 0, d0) 0 c).1, 0) 0 n).1 0 10 + 1)
  exact ⟨h5, sta_trans (sta_trans h2 h4) h6⟩
