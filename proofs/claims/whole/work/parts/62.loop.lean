/-! ===== the law's loop, out of what each pair of calls does (printed by a program of ours) ===== -/
def PrI (R : Mm → Prop) (f g : Mm → Prop → Int32 × Mm × Prop) : Prop := ∀ (m : Mm) (o : Prop), R m → o → (f m o).2.2 ∧ gT (f m o).2.1 225 = 12 ∧ ∀ o' : Prop, o' → (g (f m o).2.1 o').1 = (f m o).1 ∧ (g (f m o).2.1 o').2.2 ∧ R (g (f m o).2.1 o').2.1
def PrJ (R : Mm → Prop) (f g : Mm → Prop → Int64 × Mm × Prop) : Prop := ∀ (m : Mm) (o : Prop), R m → o → (f m o).2.2 ∧ gT (f m o).2.1 225 = 12 ∧ ∀ o' : Prop, o' → (g (f m o).2.1 o').1 = (f m o).1 ∧ (g (f m o).2.1 o').2.2 ∧ R (g (f m o).2.1 o').2.1
def Good (R : Mm → Prop) (r : Int32 × Mm × Prop) : Prop := r.1 = 1 ∧ r.2.2 ∧ R r.2.1
theorem good_ite {R : Mm → Prop} {C : Prop} [Decidable C] {r1 r2 : Int32 × Mm × Prop} (h1 : C → Good R r1) (h2 : ¬ C → Good R r2) : Good R (if C then r1 else r2) := by
  by_cases h : C
  · rw [if_pos h]; exact h1 h
  · rw [if_neg h]; exact h2 h
theorem csI {R : Mm → Prop} {f g : Mm → Prop → Int32 × Mm × Prop} {m : Mm} {o : Prop} (h : PrI R f g) (hR : R m) (ho : o) (O : Mm → Prop → Prop) (hO : ∀ m1 o1, o1 → gT m1 225 = 12 → O m1 o1) (K : Mm → Prop → Int32 × Mm × Prop) (hK : ∀ m2 o2, R m2 → o2 → Good R (K m2 o2)) : Good R (bnd (f m o) (fun v1 m1 o1 => bnd (g m1 (O m1 o1)) (fun v2 m2 o2 => if v1 = v2 then K m2 o2 else ((0 : Int32), m2, o2)))) := by
  obtain ⟨h1, h2, h3⟩ := h m o hR ho
  obtain ⟨e1, e2, e3⟩ := h3 _ (hO _ _ h1 h2)
  show Good R (if (f m o).1 = (g (f m o).2.1 (O (f m o).2.1 (f m o).2.2)).1 then _ else _)
  rw [if_pos e1.symm]
  exact hK _ _ e3 e2
theorem csJ {R : Mm → Prop} {f g : Mm → Prop → Int64 × Mm × Prop} {m : Mm} {o : Prop} (h : PrJ R f g) (hR : R m) (ho : o) (O : Mm → Prop → Prop) (hO : ∀ m1 o1, o1 → gT m1 225 = 12 → O m1 o1) (K : Mm → Prop → Int32 × Mm × Prop) (hK : ∀ m2 o2, R m2 → o2 → Good R (K m2 o2)) : Good R (bnd (f m o) (fun v1 m1 o1 => bnd (g m1 (O m1 o1)) (fun v2 m2 o2 => if lg_cmp v1 v2 = 0 then K m2 o2 else ((0 : Int32), m2, o2)))) := by
  obtain ⟨h1, h2, h3⟩ := h m o hR ho
  obtain ⟨e1, e2, e3⟩ := h3 _ (hO _ _ h1 h2)
  show Good R (if lg_cmp (f m o).1 (g (f m o).2.1 (O (f m o).2.1 (f m o).2.2)).1 = 0 then _ else _)
  rw [e1, if_pos (by unfold lg_cmp; simp)]
  exact hK _ _ e3 e2
def Pr_stack (R : Mm → Prop) : Prop := ∀ a0 a1 a2 a3 a4 a5 : Int32, PrI R (F_X11_stack 1 a0 a1 a2 a3 a4 a5) (F_X12_stack 225 a0 a1 a2 a3 a4 a5)
def Pr_cow (R : Mm → Prop) : Prop := ∀ a0 a1 a2 a3 : Int32, (a2 = 0 ∨ a2 = 1) → PrI R (F_X11_cow 1 a0 a1 a2 a3) (F_X12_cow 225 a0 a1 a2 a3)
def Pr_taste (R : Mm → Prop) : Prop := ∀ a0 a1 a2 : Int32, PrI R (F_X11_taste 1 a0 a1 a2) (F_X12_taste 225 a0 a1 a2)
def Pr_salt (R : Mm → Prop) : Prop := ∀ a0 a1 : Int32, PrI R (F_X11_salt 1 a0 a1) (F_X12_salt 225 a0 a1)
def Pr_feed (R : Mm → Prop) : Prop := ∀ a0 a1 a2 a3 a4 : Int32, PrI R (F_X11_feed 1 a0 a1 a2 a3 a4) (F_X12_feed 225 a0 a1 a2 a3 a4)
def Pr_law (R : Mm → Prop) : Prop := ∀ a0 : Int32, PrI R (F_X11_law 1 a0) (F_X12_law 225 a0)
def Pr_would (R : Mm → Prop) : Prop := ∀ a0 a1 : Int32, PrI R (F_X11_would 1 a0 a1) (F_X12_would 225 a0 a1)
def Pr_chooses (R : Mm → Prop) : Prop := ∀ a0 : Int32, PrI R (F_X11_chooses 1 a0) (F_X12_chooses 225 a0)
def Pr_days (R : Mm → Prop) : Prop := ∀ a0 : Int32, PrI R (F_X11_days 1 a0) (F_X12_days 225 a0)
def Pr_run (R : Mm → Prop) : Prop := ∀ a0 a1 : Int32, PrI R (F_X11_run 1 a0 a1) (F_X12_run 225 a0 a1)
def Pr_stackIs (R : Mm → Prop) : Prop := ∀ a0 a1 : Int32, PrI R (F_X11_stackIs 1 a0 a1) (F_X12_stackIs 225 a0 a1)
def Pr_cowIs (R : Mm → Prop) : Prop := ∀ a0 a1 : Int32, PrI R (F_X11_cowIs 1 a0 a1) (F_X12_cowIs 225 a0 a1)
def Pr_eaten (R : Mm → Prop) : Prop := ∀ a0 a1 : Int32, PrI R (F_X11_eaten 1 a0 a1) (F_X12_eaten 225 a0 a1)
def Pr_votes (R : Mm → Prop) : Prop := ∀ a0 : Int32, PrI R (F_X11_votes 1 a0) (F_X12_votes 225 a0)
def Pr_campaign (R : Mm → Prop) : Prop := ∀ a0 a1 a2 : Int32, PrI R (F_X11_campaign 1 a0 a1 a2) (F_X12_campaign 225 a0 a1 a2)
def Pr_power (R : Mm → Prop) : Prop := ∀ a0 : Int32, PrI R (F_X11_power 1 a0) (F_X12_power 225 a0)
def Pr_share (R : Mm → Prop) : Prop := ∀ a0 a1 : Int32, PrJ R (F_X11_share 1 a0 a1) (F_X12_share 225 a0 a1)
def Pr_seat (R : Mm → Prop) : Prop := ∀ a0 : Int32, PrI R (F_X11_seat 1 a0) (F_X12_seat 225 a0)
def Pr_cut (R : Mm → Prop) : Prop := ∀ a0 a1 : Int32, PrI R (F_X11_cut 1 a0 a1) (F_X12_cut 225 a0 a1)
def Pr_foreseen (R : Mm → Prop) : Prop := ∀ a0 : Int32, PrI R (F_X11_foreseen 1 a0) (F_X12_foreseen 225 a0)
def Pr_burns (R : Mm → Prop) : Prop := ∀ a0 a1 a2 a3 : Int32, PrJ R (F_X11_burns 1 a0 a1 a2 a3) (F_X12_burns 225 a0 a1 a2 a3)
def Pr_salted (R : Mm → Prop) : Prop := ∀ a0 a1 : Int32, PrI R (F_X11_salted 1 a0 a1) (F_X12_salted 225 a0 a1)
def Pr_storm (R : Mm → Prop) : Prop := ∀ a0 : Int32, PrI R (F_X11_storm 1 a0) (F_X12_storm 225 a0)
def Pr_seed (R : Mm → Prop) : Prop := ∀ a0 : Int32, PrI R (F_X11_seed 1 a0) (F_X12_seed 225 a0)
def Pr_draw (R : Mm → Prop) : Prop := ∀ a0 : Int32, PrI R (F_X11_draw 1 a0) (F_X12_draw 225 a0)
def Pr_keep (R : Mm → Prop) : Prop := PrI R (F_X11_keep 1) (F_X12_keep 225)
def Pr_undo (R : Mm → Prop) : Prop := PrI R (F_X11_undo 1) (F_X12_undo 225)
def Pr_check (R : Mm → Prop) : Prop := ∀ a0 a1 : Int32, PrI R (F_X11_check 1 a0 a1) (F_X12_check 225 a0 a1)
def Pr_count (R : Mm → Prop) : Prop := ∀ a0 : Int32, PrI R (F_X11_count 1 a0) (F_X12_count 225 a0)
def Pairs (R : Mm → Prop) : Prop := Pr_stack R ∧ Pr_cow R ∧ Pr_taste R ∧ Pr_salt R ∧ Pr_feed R ∧ Pr_law R ∧ Pr_would R ∧ Pr_chooses R ∧ Pr_days R ∧ Pr_run R ∧ Pr_stackIs R ∧ Pr_cowIs R ∧ Pr_eaten R ∧ Pr_votes R ∧ Pr_campaign R ∧ Pr_power R ∧ Pr_share R ∧ Pr_seat R ∧ Pr_cut R ∧ Pr_foreseen R ∧ Pr_burns R ∧ Pr_salted R ∧ Pr_storm R ∧ Pr_seed R ∧ Pr_draw R ∧ Pr_keep R ∧ Pr_undo R ∧ Pr_check R ∧ Pr_count R
theorem nI_sub7 {L : Nat} (hL : L ≤ 3584) : (Int32.ofNat L - (7 : Int32)).toInt = (L : Int) - 7 := by
  have h := pk_sub_toInt (a := L) (b := 7) (by omega) (by omega)
  exact h
theorem law_in {L k j : Nat} (hL : L ≤ 3584) (h : 7 * k + 7 ≤ L) (hj : j < 7) : vp_in (nI (7 * k) + nI j) L := by
  rw [nI_add]
  exact vp_in_nI (by omega) (by omega)
set_option maxRecDepth 10000 in
theorem law_loop {R : Mm → Prop} (hT : ∀ m, R m → gT m 1 = 11) (hP : Pairs R) {L : Nat} (hL : L ≤ 3584) (xs : Nat → Int32) : ∀ (n k : Nat) (m : Mm) (o : Prop), k ≤ 512 → 514 ≤ n + k → R m → o → Good R (f_L_law_18 L xs n 1 225 (nI (7 * k)) m o) := by
  intro n
  induction n with
  | zero => intro k m o hk hn; omega
  | succ n ih =>
    intro k m o hk hn hR ho
    obtain ⟨h_stack, h_cow, h_taste, h_salt, h_feed, h_law, h_would, h_chooses, h_days, h_run, h_stackIs, h_cowIs, h_eaten, h_votes, h_campaign, h_power, h_share, h_seat, h_cut, h_foreseen, h_burns, h_salted, h_storm, h_seed, h_draw, h_keep, h_undo, h_check, h_count⟩ := hP
    show Good R (f_L_law_18b L xs (f_L_law_18 L xs n) 1 225 (nI (7 * k)) m o)
    unfold f_L_law_18b
    refine good_ite (fun _ => ⟨rfl, ho, hR⟩) (fun hc => ?_)
    have hlt : 7 * k + 7 ≤ L := by
      rw [Int32.lt_iff_toInt_lt, nI_sub7 hL, nI_toInt (by omega)] at hc
      omega
    have v0 : vp_in (nI (7 * k)) L := vp_in_nI (by omega) (by omega)
    have v1 : vp_in (nI (7 * k) + (1 : Int32)) L := law_in hL hlt (j := 1) (by decide)
    have v2 : vp_in (nI (7 * k) + (2 : Int32)) L := law_in hL hlt (j := 2) (by decide)
    have v3 : vp_in (nI (7 * k) + (3 : Int32)) L := law_in hL hlt (j := 3) (by decide)
    have v4 : vp_in (nI (7 * k) + (4 : Int32)) L := law_in hL hlt (j := 4) (by decide)
    have v5 : vp_in (nI (7 * k) + (5 : Int32)) L := law_in hL hlt (j := 5) (by decide)
    have v6 : vp_in (nI (7 * k) + (6 : Int32)) L := law_in hL hlt (j := 6) (by decide)
    have hg : gT m 1 = 11 := hT m hR
    have hK : ∀ m2 o2, R m2 → o2 → Good R (f_L_law_18 L xs n 1 225 (nI (7 * k) + 7) m2 o2) := fun m2 o2 hR2 ho2 => by
      have e : nI (7 * k) + 7 = nI (7 * (k + 1)) := nI_add (7 * k) 7
      rw [e]
      exact ih (k + 1) m2 o2 (by omega) (by omega) hR2 ho2
    refine good_ite (fun _ => ?_) (fun _ => ?_)
    · exact csI (h_stack (xs (ix (nI (7 * k) + (1 : Int32)))) (xs (ix (nI (7 * k) + (2 : Int32)))) (xs (ix (nI (7 * k) + (3 : Int32)))) (xs (ix (nI (7 * k) + (4 : Int32)))) (xs (ix (nI (7 * k) + (5 : Int32)))) (xs (ix (nI (7 * k) + (6 : Int32))))) hR ⟨⟨⟨⟨⟨⟨⟨⟨ho, v0⟩, v1⟩, v2⟩, v3⟩, v4⟩, v5⟩, v6⟩, hg⟩ (fun m1 o1 => ((((((o1 ∧ vp_in (nI (7 * k) + (1 : Int32)) L) ∧ vp_in (nI (7 * k) + (2 : Int32)) L) ∧ vp_in (nI (7 * k) + (3 : Int32)) L) ∧ vp_in (nI (7 * k) + (4 : Int32)) L) ∧ vp_in (nI (7 * k) + (5 : Int32)) L) ∧ vp_in (nI (7 * k) + (6 : Int32)) L) ∧ gT m1 225 = 12) (fun m1 o1 q1 q2 => ⟨⟨⟨⟨⟨⟨⟨q1, v1⟩, v2⟩, v3⟩, v4⟩, v5⟩, v6⟩, q2⟩) (fun m2 o2 => f_L_law_18 L xs n 1 225 (nI (7 * k) + 7) m2 o2) hK
    refine good_ite (fun _ => ?_) (fun _ => ?_)
    · refine good_ite (fun hb => ?_) (fun hb => ?_)
      · have hc := csI (h_cow (xs (ix (nI (7 * k) + (1 : Int32)))) (xs (ix (nI (7 * k) + (2 : Int32)))) 0 (xs (ix (nI (7 * k) + (4 : Int32)))) (.inl rfl)) hR (o := (((((o ∧ vp_in (nI (7 * k)) L) ∧ vp_in (nI (7 * k) + (1 : Int32)) L) ∧ vp_in (nI (7 * k) + (2 : Int32)) L) ∧ vp_in (nI (7 * k) + (3 : Int32)) L) ∧ vp_in (nI (7 * k) + (4 : Int32)) L) ∧ gT m 1 = 11) ⟨⟨⟨⟨⟨⟨ho, v0⟩, v1⟩, v2⟩, v3⟩, v4⟩, hg⟩ (fun m1 o1 => ((((o1 ∧ vp_in (nI (7 * k) + (1 : Int32)) L) ∧ vp_in (nI (7 * k) + (2 : Int32)) L) ∧ vp_in (nI (7 * k) + (3 : Int32)) L) ∧ vp_in (nI (7 * k) + (4 : Int32)) L) ∧ gT m1 225 = 12) (fun m1 o1 q1 q2 => ⟨⟨⟨⟨⟨q1, v1⟩, v2⟩, v3⟩, v4⟩, q2⟩) (fun m2 o2 => f_L_law_18 L xs n 1 225 (nI (7 * k) + 7) m2 o2) hK
        have e : ∀ v1 m1 o1, f_L_law_271 L xs (f_L_law_18 L xs n) 1 225 (nI (7 * k)) v1 m1 o1 = f_L_law_295 L xs (f_L_law_18 L xs n) 1 225 (nI (7 * k)) 0 (xs (ix (nI (7 * k) + (2 : Int32)))) (xs (ix (nI (7 * k) + (1 : Int32)))) 225 v1 m1 (((o1 ∧ vp_in (nI (7 * k) + (1 : Int32)) L) ∧ vp_in (nI (7 * k) + (2 : Int32)) L) ∧ vp_in (nI (7 * k) + (3 : Int32)) L) := fun v1 m1 o1 => by unfold f_L_law_271; rw [if_pos hb]
        unfold f_L_law_263
        simp only [e]
        exact hc
      · have hc := csI (h_cow (xs (ix (nI (7 * k) + (1 : Int32)))) (xs (ix (nI (7 * k) + (2 : Int32)))) 1 (xs (ix (nI (7 * k) + (4 : Int32)))) (.inr rfl)) hR (o := (((((o ∧ vp_in (nI (7 * k)) L) ∧ vp_in (nI (7 * k) + (1 : Int32)) L) ∧ vp_in (nI (7 * k) + (2 : Int32)) L) ∧ vp_in (nI (7 * k) + (3 : Int32)) L) ∧ vp_in (nI (7 * k) + (4 : Int32)) L) ∧ gT m 1 = 11) ⟨⟨⟨⟨⟨⟨ho, v0⟩, v1⟩, v2⟩, v3⟩, v4⟩, hg⟩ (fun m1 o1 => ((((o1 ∧ vp_in (nI (7 * k) + (1 : Int32)) L) ∧ vp_in (nI (7 * k) + (2 : Int32)) L) ∧ vp_in (nI (7 * k) + (3 : Int32)) L) ∧ vp_in (nI (7 * k) + (4 : Int32)) L) ∧ gT m1 225 = 12) (fun m1 o1 q1 q2 => ⟨⟨⟨⟨⟨q1, v1⟩, v2⟩, v3⟩, v4⟩, q2⟩) (fun m2 o2 => f_L_law_18 L xs n 1 225 (nI (7 * k) + 7) m2 o2) hK
        have e : ∀ v1 m1 o1, f_L_law_271 L xs (f_L_law_18 L xs n) 1 225 (nI (7 * k)) v1 m1 o1 = f_L_law_295 L xs (f_L_law_18 L xs n) 1 225 (nI (7 * k)) 1 (xs (ix (nI (7 * k) + (2 : Int32)))) (xs (ix (nI (7 * k) + (1 : Int32)))) 225 v1 m1 (((o1 ∧ vp_in (nI (7 * k) + (1 : Int32)) L) ∧ vp_in (nI (7 * k) + (2 : Int32)) L) ∧ vp_in (nI (7 * k) + (3 : Int32)) L) := fun v1 m1 o1 => by unfold f_L_law_271; rw [if_neg hb]
        unfold f_L_law_263
        simp only [e]
        exact hc
    refine good_ite (fun _ => ?_) (fun _ => ?_)
    · exact csI (h_taste (xs (ix (nI (7 * k) + (1 : Int32)))) (xs (ix (nI (7 * k) + (2 : Int32)))) (xs (ix (nI (7 * k) + (3 : Int32))))) hR ⟨⟨⟨⟨⟨ho, v0⟩, v1⟩, v2⟩, v3⟩, hg⟩ (fun m1 o1 => (((o1 ∧ vp_in (nI (7 * k) + (1 : Int32)) L) ∧ vp_in (nI (7 * k) + (2 : Int32)) L) ∧ vp_in (nI (7 * k) + (3 : Int32)) L) ∧ gT m1 225 = 12) (fun m1 o1 q1 q2 => ⟨⟨⟨⟨q1, v1⟩, v2⟩, v3⟩, q2⟩) (fun m2 o2 => f_L_law_18 L xs n 1 225 (nI (7 * k) + 7) m2 o2) hK
    refine good_ite (fun _ => ?_) (fun _ => ?_)
    · exact csI (h_salt (xs (ix (nI (7 * k) + (1 : Int32)))) (xs (ix (nI (7 * k) + (2 : Int32))))) hR ⟨⟨⟨⟨ho, v0⟩, v1⟩, v2⟩, hg⟩ (fun m1 o1 => ((o1 ∧ vp_in (nI (7 * k) + (1 : Int32)) L) ∧ vp_in (nI (7 * k) + (2 : Int32)) L) ∧ gT m1 225 = 12) (fun m1 o1 q1 q2 => ⟨⟨⟨q1, v1⟩, v2⟩, q2⟩) (fun m2 o2 => f_L_law_18 L xs n 1 225 (nI (7 * k) + 7) m2 o2) hK
    refine good_ite (fun _ => ?_) (fun _ => ?_)
    · exact csI (h_feed (xs (ix (nI (7 * k) + (1 : Int32)))) (xs (ix (nI (7 * k) + (2 : Int32)))) (xs (ix (nI (7 * k) + (3 : Int32)))) (xs (ix (nI (7 * k) + (4 : Int32)))) (xs (ix (nI (7 * k) + (5 : Int32))))) hR ⟨⟨⟨⟨⟨⟨⟨ho, v0⟩, v1⟩, v2⟩, v3⟩, v4⟩, v5⟩, hg⟩ (fun m1 o1 => (((((o1 ∧ vp_in (nI (7 * k) + (1 : Int32)) L) ∧ vp_in (nI (7 * k) + (2 : Int32)) L) ∧ vp_in (nI (7 * k) + (3 : Int32)) L) ∧ vp_in (nI (7 * k) + (4 : Int32)) L) ∧ vp_in (nI (7 * k) + (5 : Int32)) L) ∧ gT m1 225 = 12) (fun m1 o1 q1 q2 => ⟨⟨⟨⟨⟨⟨q1, v1⟩, v2⟩, v3⟩, v4⟩, v5⟩, q2⟩) (fun m2 o2 => f_L_law_18 L xs n 1 225 (nI (7 * k) + 7) m2 o2) hK
    refine good_ite (fun _ => ?_) (fun _ => ?_)
    · exact csI (h_law (xs (ix (nI (7 * k) + (1 : Int32))))) hR ⟨⟨⟨ho, v0⟩, v1⟩, hg⟩ (fun m1 o1 => (o1 ∧ vp_in (nI (7 * k) + (1 : Int32)) L) ∧ gT m1 225 = 12) (fun m1 o1 q1 q2 => ⟨⟨q1, v1⟩, q2⟩) (fun m2 o2 => f_L_law_18 L xs n 1 225 (nI (7 * k) + 7) m2 o2) hK
    refine good_ite (fun _ => ?_) (fun _ => ?_)
    · exact csI (h_would (xs (ix (nI (7 * k) + (1 : Int32)))) (xs (ix (nI (7 * k) + (2 : Int32))))) hR ⟨⟨⟨⟨ho, v0⟩, v1⟩, v2⟩, hg⟩ (fun m1 o1 => ((o1 ∧ vp_in (nI (7 * k) + (1 : Int32)) L) ∧ vp_in (nI (7 * k) + (2 : Int32)) L) ∧ gT m1 225 = 12) (fun m1 o1 q1 q2 => ⟨⟨⟨q1, v1⟩, v2⟩, q2⟩) (fun m2 o2 => f_L_law_18 L xs n 1 225 (nI (7 * k) + 7) m2 o2) hK
    refine good_ite (fun _ => ?_) (fun _ => ?_)
    · exact csI (h_chooses (xs (ix (nI (7 * k) + (1 : Int32))))) hR ⟨⟨⟨ho, v0⟩, v1⟩, hg⟩ (fun m1 o1 => (o1 ∧ vp_in (nI (7 * k) + (1 : Int32)) L) ∧ gT m1 225 = 12) (fun m1 o1 q1 q2 => ⟨⟨q1, v1⟩, q2⟩) (fun m2 o2 => f_L_law_18 L xs n 1 225 (nI (7 * k) + 7) m2 o2) hK
    refine good_ite (fun _ => ?_) (fun _ => ?_)
    · exact csI (h_days (xs (ix (nI (7 * k) + (1 : Int32))))) hR ⟨⟨⟨ho, v0⟩, v1⟩, hg⟩ (fun m1 o1 => (o1 ∧ vp_in (nI (7 * k) + (1 : Int32)) L) ∧ gT m1 225 = 12) (fun m1 o1 q1 q2 => ⟨⟨q1, v1⟩, q2⟩) (fun m2 o2 => f_L_law_18 L xs n 1 225 (nI (7 * k) + 7) m2 o2) hK
    refine good_ite (fun _ => ?_) (fun _ => ?_)
    · exact csI (h_run (xs (ix (nI (7 * k) + (1 : Int32)))) (xs (ix (nI (7 * k) + (2 : Int32))))) hR ⟨⟨⟨⟨ho, v0⟩, v1⟩, v2⟩, hg⟩ (fun m1 o1 => ((o1 ∧ vp_in (nI (7 * k) + (1 : Int32)) L) ∧ vp_in (nI (7 * k) + (2 : Int32)) L) ∧ gT m1 225 = 12) (fun m1 o1 q1 q2 => ⟨⟨⟨q1, v1⟩, v2⟩, q2⟩) (fun m2 o2 => f_L_law_18 L xs n 1 225 (nI (7 * k) + 7) m2 o2) hK
    refine good_ite (fun _ => ?_) (fun _ => ?_)
    · exact csI (h_stackIs (xs (ix (nI (7 * k) + (1 : Int32)))) (xs (ix (nI (7 * k) + (2 : Int32))))) hR ⟨⟨⟨⟨ho, v0⟩, v1⟩, v2⟩, hg⟩ (fun m1 o1 => ((o1 ∧ vp_in (nI (7 * k) + (1 : Int32)) L) ∧ vp_in (nI (7 * k) + (2 : Int32)) L) ∧ gT m1 225 = 12) (fun m1 o1 q1 q2 => ⟨⟨⟨q1, v1⟩, v2⟩, q2⟩) (fun m2 o2 => f_L_law_18 L xs n 1 225 (nI (7 * k) + 7) m2 o2) hK
    refine good_ite (fun _ => ?_) (fun _ => ?_)
    · exact csI (h_cowIs (xs (ix (nI (7 * k) + (1 : Int32)))) (xs (ix (nI (7 * k) + (2 : Int32))))) hR ⟨⟨⟨⟨ho, v0⟩, v1⟩, v2⟩, hg⟩ (fun m1 o1 => ((o1 ∧ vp_in (nI (7 * k) + (1 : Int32)) L) ∧ vp_in (nI (7 * k) + (2 : Int32)) L) ∧ gT m1 225 = 12) (fun m1 o1 q1 q2 => ⟨⟨⟨q1, v1⟩, v2⟩, q2⟩) (fun m2 o2 => f_L_law_18 L xs n 1 225 (nI (7 * k) + 7) m2 o2) hK
    refine good_ite (fun _ => ?_) (fun _ => ?_)
    · exact csI (h_eaten (xs (ix (nI (7 * k) + (1 : Int32)))) (xs (ix (nI (7 * k) + (2 : Int32))))) hR ⟨⟨⟨⟨ho, v0⟩, v1⟩, v2⟩, hg⟩ (fun m1 o1 => ((o1 ∧ vp_in (nI (7 * k) + (1 : Int32)) L) ∧ vp_in (nI (7 * k) + (2 : Int32)) L) ∧ gT m1 225 = 12) (fun m1 o1 q1 q2 => ⟨⟨⟨q1, v1⟩, v2⟩, q2⟩) (fun m2 o2 => f_L_law_18 L xs n 1 225 (nI (7 * k) + 7) m2 o2) hK
    refine good_ite (fun _ => ?_) (fun _ => ?_)
    · exact csI (h_votes (xs (ix (nI (7 * k) + (1 : Int32))))) hR ⟨⟨⟨ho, v0⟩, v1⟩, hg⟩ (fun m1 o1 => (o1 ∧ vp_in (nI (7 * k) + (1 : Int32)) L) ∧ gT m1 225 = 12) (fun m1 o1 q1 q2 => ⟨⟨q1, v1⟩, q2⟩) (fun m2 o2 => f_L_law_18 L xs n 1 225 (nI (7 * k) + 7) m2 o2) hK
    refine good_ite (fun _ => ?_) (fun _ => ?_)
    · exact csI (h_campaign (xs (ix (nI (7 * k) + (1 : Int32)))) (xs (ix (nI (7 * k) + (2 : Int32)))) (xs (ix (nI (7 * k) + (3 : Int32))))) hR ⟨⟨⟨⟨⟨ho, v0⟩, v1⟩, v2⟩, v3⟩, hg⟩ (fun m1 o1 => (((o1 ∧ vp_in (nI (7 * k) + (1 : Int32)) L) ∧ vp_in (nI (7 * k) + (2 : Int32)) L) ∧ vp_in (nI (7 * k) + (3 : Int32)) L) ∧ gT m1 225 = 12) (fun m1 o1 q1 q2 => ⟨⟨⟨⟨q1, v1⟩, v2⟩, v3⟩, q2⟩) (fun m2 o2 => f_L_law_18 L xs n 1 225 (nI (7 * k) + 7) m2 o2) hK
    refine good_ite (fun _ => ?_) (fun _ => ?_)
    · exact csI (h_power (xs (ix (nI (7 * k) + (1 : Int32))))) hR ⟨⟨⟨ho, v0⟩, v1⟩, hg⟩ (fun m1 o1 => (o1 ∧ vp_in (nI (7 * k) + (1 : Int32)) L) ∧ gT m1 225 = 12) (fun m1 o1 q1 q2 => ⟨⟨q1, v1⟩, q2⟩) (fun m2 o2 => f_L_law_18 L xs n 1 225 (nI (7 * k) + 7) m2 o2) hK
    refine good_ite (fun _ => ?_) (fun _ => ?_)
    · exact csJ (h_share (xs (ix (nI (7 * k) + (1 : Int32)))) (xs (ix (nI (7 * k) + (2 : Int32))))) hR ⟨⟨⟨⟨ho, v0⟩, v1⟩, v2⟩, hg⟩ (fun m1 o1 => ((o1 ∧ vp_in (nI (7 * k) + (1 : Int32)) L) ∧ vp_in (nI (7 * k) + (2 : Int32)) L) ∧ gT m1 225 = 12) (fun m1 o1 q1 q2 => ⟨⟨⟨q1, v1⟩, v2⟩, q2⟩) (fun m2 o2 => f_L_law_18 L xs n 1 225 (nI (7 * k) + 7) m2 o2) hK
    refine good_ite (fun _ => ?_) (fun _ => ?_)
    · exact csI (h_seat (xs (ix (nI (7 * k) + (1 : Int32))))) hR ⟨⟨⟨ho, v0⟩, v1⟩, hg⟩ (fun m1 o1 => (o1 ∧ vp_in (nI (7 * k) + (1 : Int32)) L) ∧ gT m1 225 = 12) (fun m1 o1 q1 q2 => ⟨⟨q1, v1⟩, q2⟩) (fun m2 o2 => f_L_law_18 L xs n 1 225 (nI (7 * k) + 7) m2 o2) hK
    refine good_ite (fun _ => ?_) (fun _ => ?_)
    · exact csI (h_cut (xs (ix (nI (7 * k) + (1 : Int32)))) (xs (ix (nI (7 * k) + (2 : Int32))))) hR ⟨⟨⟨⟨ho, v0⟩, v1⟩, v2⟩, hg⟩ (fun m1 o1 => ((o1 ∧ vp_in (nI (7 * k) + (1 : Int32)) L) ∧ vp_in (nI (7 * k) + (2 : Int32)) L) ∧ gT m1 225 = 12) (fun m1 o1 q1 q2 => ⟨⟨⟨q1, v1⟩, v2⟩, q2⟩) (fun m2 o2 => f_L_law_18 L xs n 1 225 (nI (7 * k) + 7) m2 o2) hK
    refine good_ite (fun _ => ?_) (fun _ => ?_)
    · exact csI (h_foreseen (xs (ix (nI (7 * k) + (1 : Int32))))) hR ⟨⟨⟨ho, v0⟩, v1⟩, hg⟩ (fun m1 o1 => (o1 ∧ vp_in (nI (7 * k) + (1 : Int32)) L) ∧ gT m1 225 = 12) (fun m1 o1 q1 q2 => ⟨⟨q1, v1⟩, q2⟩) (fun m2 o2 => f_L_law_18 L xs n 1 225 (nI (7 * k) + 7) m2 o2) hK
    refine good_ite (fun _ => ?_) (fun _ => ?_)
    · exact csJ (h_burns (xs (ix (nI (7 * k) + (1 : Int32)))) (xs (ix (nI (7 * k) + (2 : Int32)))) (xs (ix (nI (7 * k) + (3 : Int32)))) (xs (ix (nI (7 * k) + (4 : Int32))))) hR ⟨⟨⟨⟨⟨⟨ho, v0⟩, v1⟩, v2⟩, v3⟩, v4⟩, hg⟩ (fun m1 o1 => ((((o1 ∧ vp_in (nI (7 * k) + (1 : Int32)) L) ∧ vp_in (nI (7 * k) + (2 : Int32)) L) ∧ vp_in (nI (7 * k) + (3 : Int32)) L) ∧ vp_in (nI (7 * k) + (4 : Int32)) L) ∧ gT m1 225 = 12) (fun m1 o1 q1 q2 => ⟨⟨⟨⟨⟨q1, v1⟩, v2⟩, v3⟩, v4⟩, q2⟩) (fun m2 o2 => f_L_law_18 L xs n 1 225 (nI (7 * k) + 7) m2 o2) hK
    refine good_ite (fun _ => ?_) (fun _ => ?_)
    · exact csI (h_salted (xs (ix (nI (7 * k) + (1 : Int32)))) (xs (ix (nI (7 * k) + (2 : Int32))))) hR ⟨⟨⟨⟨ho, v0⟩, v1⟩, v2⟩, hg⟩ (fun m1 o1 => ((o1 ∧ vp_in (nI (7 * k) + (1 : Int32)) L) ∧ vp_in (nI (7 * k) + (2 : Int32)) L) ∧ gT m1 225 = 12) (fun m1 o1 q1 q2 => ⟨⟨⟨q1, v1⟩, v2⟩, q2⟩) (fun m2 o2 => f_L_law_18 L xs n 1 225 (nI (7 * k) + 7) m2 o2) hK
    refine good_ite (fun _ => ?_) (fun _ => ?_)
    · exact csI (h_storm (xs (ix (nI (7 * k) + (1 : Int32))))) hR ⟨⟨⟨ho, v0⟩, v1⟩, hg⟩ (fun m1 o1 => (o1 ∧ vp_in (nI (7 * k) + (1 : Int32)) L) ∧ gT m1 225 = 12) (fun m1 o1 q1 q2 => ⟨⟨q1, v1⟩, q2⟩) (fun m2 o2 => f_L_law_18 L xs n 1 225 (nI (7 * k) + 7) m2 o2) hK
    refine good_ite (fun _ => ?_) (fun _ => ?_)
    · exact csI (h_seed (xs (ix (nI (7 * k) + (1 : Int32))))) hR ⟨⟨⟨ho, v0⟩, v1⟩, hg⟩ (fun m1 o1 => (o1 ∧ vp_in (nI (7 * k) + (1 : Int32)) L) ∧ gT m1 225 = 12) (fun m1 o1 q1 q2 => ⟨⟨q1, v1⟩, q2⟩) (fun m2 o2 => f_L_law_18 L xs n 1 225 (nI (7 * k) + 7) m2 o2) hK
    refine good_ite (fun _ => ?_) (fun _ => ?_)
    · exact csI (h_draw (xs (ix (nI (7 * k) + (1 : Int32))))) hR ⟨⟨⟨ho, v0⟩, v1⟩, hg⟩ (fun m1 o1 => (o1 ∧ vp_in (nI (7 * k) + (1 : Int32)) L) ∧ gT m1 225 = 12) (fun m1 o1 q1 q2 => ⟨⟨q1, v1⟩, q2⟩) (fun m2 o2 => f_L_law_18 L xs n 1 225 (nI (7 * k) + 7) m2 o2) hK
    refine good_ite (fun _ => ?_) (fun _ => ?_)
    · exact csI h_keep hR ⟨⟨ho, v0⟩, hg⟩ (fun m1 o1 => o1 ∧ gT m1 225 = 12) (fun m1 o1 q1 q2 => ⟨q1, q2⟩) (fun m2 o2 => f_L_law_18 L xs n 1 225 (nI (7 * k) + 7) m2 o2) hK
    refine good_ite (fun _ => ?_) (fun _ => ?_)
    · exact csI h_undo hR ⟨⟨ho, v0⟩, hg⟩ (fun m1 o1 => o1 ∧ gT m1 225 = 12) (fun m1 o1 q1 q2 => ⟨q1, q2⟩) (fun m2 o2 => f_L_law_18 L xs n 1 225 (nI (7 * k) + 7) m2 o2) hK
    refine good_ite (fun _ => ?_) (fun _ => ?_)
    · exact csI (h_check (xs (ix (nI (7 * k) + (1 : Int32)))) (xs (ix (nI (7 * k) + (2 : Int32))))) hR ⟨⟨⟨⟨ho, v0⟩, v1⟩, v2⟩, hg⟩ (fun m1 o1 => ((o1 ∧ vp_in (nI (7 * k) + (1 : Int32)) L) ∧ vp_in (nI (7 * k) + (2 : Int32)) L) ∧ gT m1 225 = 12) (fun m1 o1 q1 q2 => ⟨⟨⟨q1, v1⟩, v2⟩, q2⟩) (fun m2 o2 => f_L_law_18 L xs n 1 225 (nI (7 * k) + 7) m2 o2) hK
    refine good_ite (fun _ => ?_) (fun _ => ?_)
    · exact csI (h_count (xs (ix (nI (7 * k) + (1 : Int32))))) hR ⟨⟨⟨ho, v0⟩, v1⟩, hg⟩ (fun m1 o1 => (o1 ∧ vp_in (nI (7 * k) + (1 : Int32)) L) ∧ gT m1 225 = 12) (fun m1 o1 q1 q2 => ⟨⟨q1, v1⟩, q2⟩) (fun m2 o2 => f_L_law_18 L xs n 1 225 (nI (7 * k) + 7) m2 o2) hK
    exact hK m _ hR ⟨ho, v0⟩
theorem law_of {R : Mm → Prop} (hT : ∀ m, R m → gT m 1 = 11) (hC : ∀ m, R m → gC m ≤ 600000 ∧ gS m ≤ 7302249) (h0 : R mZ) (hP : Pairs R) (L : Nat) (xs : Nat → Int32) (hL : L ≤ 3584) : (f_L_law_0 L xs m00 True).1 = 1 ∧ (f_L_law_0 L xs m00 True).2.2 ∧ gC (f_L_law_0 L xs m00 True).2.1 ≤ 600000 ∧ gS (f_L_law_0 L xs m00 True).2.1 ≤ 7302249 := by
  rw [law_start]
  obtain ⟨h1, h2, h3⟩ := law_loop hT hP hL xs 1000 0 mZ oZ (by omega) (by omega) h0 oZ_ok
  exact ⟨h1, h2, hC _ h3⟩
