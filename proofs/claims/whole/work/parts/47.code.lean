def f_X12_laysVotes_58 (k9 : Nat → Int32 → Mm → Prop → Unit × Mm × Prop) (l0 : Nat) (l1 : Int32) (m : Mm) (o : Prop) : Unit × Mm × Prop := k9 l0 (l1 + 1) m o
set_option maxRecDepth 10000 in
theorem t_X12_laysVotes_58 (l : Launch) (E : En) (c0 s0 : Nat) (k9 : Nat → Int32 → Mm → Prop → Unit × Mm × Prop) (hk9 : ∀ (l0 : Nat) (l1 : Int32) (m : Mm) (o : Prop), Mh wU l E mi_X12_laysVotes c0 s0 9 [(0, .ref l0), (1, .int l1)] [] m o (k9 l0 l1 m o)) (l0 : Nat) (l1 : Int32) (m : Mm) (o : Prop) : Mh wU l E mi_X12_laysVotes c0 s0 58 [(0, .ref l0), (1, .int l1)] [] m o (f_X12_laysVotes_58 k9 l0 l1 m o) := by
  refine Mh_iinc (v := l1 + 1) (lv' := [(1, .int (l1 + 1)), (0, .ref l0)]) 1 dX12_laysVotes_58 rfl rfl (Nat.le_of_ble_eq_true rfl) rfl ?_
  refine Mh_goto (tgt := 9) dX12_laysVotes_61 (by decide) ?_
  refine Mh_sub (lv' := [(0, .ref l0), (1, .int (l1 + 1))]) [1, 0] rfl ?_
  exact hk9 _ _ _ _
def f_X12_laysVotes_26 (k9 : Nat → Int32 → Mm → Prop → Unit × Mm × Prop) (k21 : Nat → Int32 → Int32 → Mm → Prop → Unit × Mm × Prop) (l0 : Nat) (l1 : Int32) (l2 : Int32) (y0 : Int32) (m : Mm) (o : Prop) : Unit × Mm × Prop := if y0 = 0 then (k21 l0 l1 (l2 + 1) m o) else (f_X12_laysVotes_58 k9 l0 l1 (sI m (gR m l0 70) (ix l1) ((gI m (gR m l0 70) (ix (l1 &&& (l1 - (1 : Int32))))) + (gI m (gR m l0 16) (ix l2)))) (((((o ∧ (gT m l0 = 12 ∧ gR m l0 70 ≠ 0)) ∧ (gT m (gR m l0 70) = 20 ∧ vp_in (l1 &&& (l1 - (1 : Int32))) (gN m (gR m l0 70)))) ∧ (gT m l0 = 12 ∧ gR m l0 16 ≠ 0)) ∧ (gT m (gR m l0 16) = 20 ∧ vp_in l2 (gN m (gR m l0 16)))) ∧ (gT m (gR m l0 70) = 20 ∧ vp_in l1 (gN m (gR m l0 70)))))
set_option maxRecDepth 10000 in
theorem t_X12_laysVotes_26 (l : Launch) (E : En) (c0 s0 : Nat) (k9 : Nat → Int32 → Mm → Prop → Unit × Mm × Prop) (hk9 : ∀ (l0 : Nat) (l1 : Int32) (m : Mm) (o : Prop), Mh wU l E mi_X12_laysVotes c0 s0 9 [(0, .ref l0), (1, .int l1)] [] m o (k9 l0 l1 m o)) (k21 : Nat → Int32 → Int32 → Mm → Prop → Unit × Mm × Prop) (hk21 : ∀ (l0 : Nat) (l1 : Int32) (l2 : Int32) (m : Mm) (o : Prop), Mh wU l E mi_X12_laysVotes c0 s0 21 [(0, .ref l0), (1, .int l1), (2, .int l2)] [] m o (k21 l0 l1 l2 m o)) (l0 : Nat) (l1 : Int32) (l2 : Int32) (y0 : Int32) (m : Mm) (o : Prop) : Mh wU l E mi_X12_laysVotes c0 s0 26 [(0, .ref l0), (1, .int l1), (2, .int l2)] [.int y0] m o (f_X12_laysVotes_26 k9 k21 l0 l1 l2 y0 m o) := by
  refine Mh_if_ne (tgt := 35) dX12_laysVotes_26 (by decide) rfl (fun _ => ?_) (fun _ => ?_)
  · refine Mh_aload_n 0 rfl dX12_laysVotes_35 ?_
    refine Mh_gR fd_11_70 fl_RX12_164 dX12_laysVotes_36 ?_
    refine Mh_iload_n 1 rfl dX12_laysVotes_39 ?_
    refine Mh_aload_n 0 rfl dX12_laysVotes_40 ?_
    refine Mh_gR fd_11_70 fl_RX12_164 dX12_laysVotes_41 ?_
    refine Mh_ok (fun h => h.2) ?_
    refine Mh_iload_n 1 rfl dX12_laysVotes_44 ?_
    refine Mh_iload_n 1 rfl dX12_laysVotes_45 ?_
    refine Mh_iconst (v := 1) dX12_laysVotes_46 (by decide) ?_
    refine Mh_isub dX12_laysVotes_47 ?_
    refine Mh_iand dX12_laysVotes_48 ?_
    refine Mh_ial dX12_laysVotes_49 ?_
    refine Mh_aload_n 0 rfl dX12_laysVotes_50 ?_
    refine Mh_gR fd_11_16 fl_RX12_46 dX12_laysVotes_51 ?_
    refine Mh_iload_n 2 rfl dX12_laysVotes_54 ?_
    refine Mh_ial dX12_laysVotes_55 ?_
    refine Mh_iadd dX12_laysVotes_56 ?_
    refine Mh_ias dX12_laysVotes_57 ?_
    refine Mh_sub (lv' := [(0, .ref l0), (1, .int l1)]) [0, 1] rfl ?_
    exact t_X12_laysVotes_58 l E c0 s0 k9 hk9 _ _ _ _
  · refine Mh_iinc (v := l2 + 1) (lv' := [(2, .int (l2 + 1)), (0, .ref l0), (1, .int l1)]) 2 dX12_laysVotes_29 rfl rfl (Nat.le_of_ble_eq_true rfl) rfl ?_
    refine Mh_goto (tgt := 21) dX12_laysVotes_32 (by decide) ?_
    refine Mh_sub (lv' := [(0, .ref l0), (1, .int l1), (2, .int (l2 + 1))]) [1, 2, 0] rfl ?_
    exact hk21 _ _ _ _ _
def f_X12_laysVotes_21b (k9 : Nat → Int32 → Mm → Prop → Unit × Mm × Prop) (k21 : Nat → Int32 → Int32 → Mm → Prop → Unit × Mm × Prop) (l0 : Nat) (l1 : Int32) (l2 : Int32) (m : Mm) (o : Prop) : Unit × Mm × Prop := bnd (F_X12_has l1 l2 m o) (fun v1 m1 o1 => f_X12_laysVotes_26 k9 k21 l0 l1 l2 v1 m1 o1)
set_option maxRecDepth 10000 in
theorem t_X12_laysVotes_21b (l : Launch) (E : En) (c0 s0 : Nat) (k9 : Nat → Int32 → Mm → Prop → Unit × Mm × Prop) (hk9 : ∀ (l0 : Nat) (l1 : Int32) (m : Mm) (o : Prop), Mh wU l E mi_X12_laysVotes c0 s0 9 [(0, .ref l0), (1, .int l1)] [] m o (k9 l0 l1 m o)) (k21 : Nat → Int32 → Int32 → Mm → Prop → Unit × Mm × Prop) (hk21 : ∀ (l0 : Nat) (l1 : Int32) (l2 : Int32) (m : Mm) (o : Prop), Mh wU l E mi_X12_laysVotes c0 s0 21 [(0, .ref l0), (1, .int l1), (2, .int l2)] [] m o (k21 l0 l1 l2 m o)) (l0 : Nat) (l1 : Int32) (l2 : Int32) (m : Mm) (o : Prop) : Mh wU l E mi_X12_laysVotes c0 s0 21 [(0, .ref l0), (1, .int l1), (2, .int l2)] [] m o (f_X12_laysVotes_21b k9 k21 l0 l1 l2 m o) := by
  refine Mh_iload_n 1 rfl dX12_laysVotes_21 ?_
  refine Mh_iload_n 2 rfl dX12_laysVotes_22 ?_
  refine Mh_csI (N := mi_X12_has) (as := [.int l1, .int l2]) (st := []) cg_yX12_has (.inl ml_RX12_441) sv_yX12_has pd_yX12_has rfl (by decide) (Nat.le_of_ble_eq_true rfl) rfl dX12_laysVotes_23 (T_X12_has l E _ _ _ _) rfl ?_
  exact t_X12_laysVotes_26 l E c0 s0 k9 hk9 k21 hk21 _ _ _ _ _ _
def f_X12_laysVotes_21 (k9 : Nat → Int32 → Mm → Prop → Unit × Mm × Prop) : Nat → Nat → Int32 → Int32 → Mm → Prop → Unit × Mm × Prop
  | 0, _, _, _, m, _ => ((), m, False)
  | n + 1, l0, l1, l2, m, o => f_X12_laysVotes_21b k9 (f_X12_laysVotes_21 k9 n) l0 l1 l2 m o
theorem t_X12_laysVotes_21 (l : Launch) (E : En) (c0 s0 : Nat) (k9 : Nat → Int32 → Mm → Prop → Unit × Mm × Prop) (hk9 : ∀ (l0 : Nat) (l1 : Int32) (m : Mm) (o : Prop), Mh wU l E mi_X12_laysVotes c0 s0 9 [(0, .ref l0), (1, .int l1)] [] m o (k9 l0 l1 m o)) : ∀ (n : Nat) (l0 : Nat) (l1 : Int32) (l2 : Int32) (m : Mm) (o : Prop), Mh wU l E mi_X12_laysVotes c0 s0 21 [(0, .ref l0), (1, .int l1), (2, .int l2)] [] m o (f_X12_laysVotes_21 k9 n l0 l1 l2 m o)
  | 0, _, _, _, _, _ => Mh_out rfl
  | n + 1, l0, l1, l2, m, o => t_X12_laysVotes_21b l E c0 s0 k9 hk9 (f_X12_laysVotes_21 k9 n) (t_X12_laysVotes_21 l E c0 s0 k9 hk9 n) l0 l1 l2 m o
def f_X12_laysVotes_9b (k9 : Nat → Int32 → Mm → Prop → Unit × Mm × Prop) (l0 : Nat) (l1 : Int32) (m : Mm) (o : Prop) : Unit × Mm × Prop := if ((1 : Int32) <<< ((gI m l0 3) &&& 31)) ≤ l1 then ((), m, (o ∧ gT m l0 = 12)) else (f_X12_laysVotes_21 k9 70000 l0 l1 (0 : Int32) m (o ∧ gT m l0 = 12))
set_option maxRecDepth 10000 in
theorem t_X12_laysVotes_9b (l : Launch) (E : En) (c0 s0 : Nat) (k9 : Nat → Int32 → Mm → Prop → Unit × Mm × Prop) (hk9 : ∀ (l0 : Nat) (l1 : Int32) (m : Mm) (o : Prop), Mh wU l E mi_X12_laysVotes c0 s0 9 [(0, .ref l0), (1, .int l1)] [] m o (k9 l0 l1 m o)) (l0 : Nat) (l1 : Int32) (m : Mm) (o : Prop) : Mh wU l E mi_X12_laysVotes c0 s0 9 [(0, .ref l0), (1, .int l1)] [] m o (f_X12_laysVotes_9b k9 l0 l1 m o) := by
  refine Mh_iload_n 1 rfl dX12_laysVotes_9 ?_
  refine Mh_iconst (v := 1) dX12_laysVotes_10 (by decide) ?_
  refine Mh_aload_n 0 rfl dX12_laysVotes_11 ?_
  refine Mh_gI fd_11_3 fl_RX12_199 dX12_laysVotes_12 ?_
  refine Mh_ishl dX12_laysVotes_15 ?_
  refine Mh_icmp_ge (tgt := 64) dX12_laysVotes_16 (by decide) rfl (fun _ => ?_) (fun _ => ?_)
  · exact Mh_ret dX12_laysVotes_64 rfl (fun _ => trivial) rfl
  · refine Mh_iconst (v := 0) dX12_laysVotes_19 (by decide) ?_
    refine Mh_istore_n (lv' := [(2, .int (0 : Int32)), (0, .ref l0), (1, .int l1)]) dX12_laysVotes_20 (Nat.le_of_ble_eq_true rfl) rfl ?_
    refine Mh_sub (lv' := [(0, .ref l0), (1, .int l1), (2, .int (0 : Int32))]) [1, 2, 0] rfl ?_
    exact t_X12_laysVotes_21 l E c0 s0 k9 hk9 _ _ _ _ _ _
def f_X12_laysVotes_9 : Nat → Nat → Int32 → Mm → Prop → Unit × Mm × Prop
  | 0, _, _, m, _ => ((), m, False)
  | n + 1, l0, l1, m, o => f_X12_laysVotes_9b (f_X12_laysVotes_9 n) l0 l1 m o
theorem t_X12_laysVotes_9 (l : Launch) (E : En) (c0 s0 : Nat) : ∀ (n : Nat) (l0 : Nat) (l1 : Int32) (m : Mm) (o : Prop), Mh wU l E mi_X12_laysVotes c0 s0 9 [(0, .ref l0), (1, .int l1)] [] m o (f_X12_laysVotes_9 n l0 l1 m o)
  | 0, _, _, _, _ => Mh_out rfl
  | n + 1, l0, l1, m, o => t_X12_laysVotes_9b l E c0 s0 (f_X12_laysVotes_9 n) (t_X12_laysVotes_9 l E c0 s0 n) l0 l1 m o
def f_X12_laysVotes_7 (l0 : Nat) (m : Mm) (o : Prop) : Unit × Mm × Prop := f_X12_laysVotes_9 70000 l0 (1 : Int32) m o
set_option maxRecDepth 10000 in
theorem t_X12_laysVotes_7 (l : Launch) (E : En) (c0 s0 : Nat) (l0 : Nat) (m : Mm) (o : Prop) : Mh wU l E mi_X12_laysVotes c0 s0 7 [(0, .ref l0)] [] m o (f_X12_laysVotes_7 l0 m o) := by
  refine Mh_iconst (v := 1) dX12_laysVotes_7 (by decide) ?_
  refine Mh_istore_n (lv' := [(1, .int (1 : Int32)), (0, .ref l0)]) dX12_laysVotes_8 (Nat.le_of_ble_eq_true rfl) rfl ?_
  refine Mh_sub (lv' := [(0, .ref l0), (1, .int (1 : Int32))]) [1, 0] rfl ?_
  exact t_X12_laysVotes_9 l E c0 s0 _ _ _ _ _
def f_X12_laysVotes_0 (l0 : Nat) (m : Mm) (o : Prop) : Unit × Mm × Prop := f_X12_laysVotes_7 l0 (sI m (gR m l0 70) (ix (0 : Int32)) (0 : Int32)) ((o ∧ (gT m l0 = 12 ∧ gR m l0 70 ≠ 0)) ∧ (gT m (gR m l0 70) = 20 ∧ vp_in (0 : Int32) (gN m (gR m l0 70))))
set_option maxRecDepth 10000 in
theorem t_X12_laysVotes_0 (l : Launch) (E : En) (c0 s0 : Nat) (l0 : Nat) (m : Mm) (o : Prop) : Mh wU l E mi_X12_laysVotes c0 s0 0 [(0, .ref l0)] [] m o (f_X12_laysVotes_0 l0 m o) := by
  refine Mh_aload_n 0 rfl dX12_laysVotes_0 ?_
  refine Mh_gR fd_11_70 fl_RX12_164 dX12_laysVotes_1 ?_
  refine Mh_iconst (v := 0) dX12_laysVotes_4 (by decide) ?_
  refine Mh_iconst (v := 0) dX12_laysVotes_5 (by decide) ?_
  refine Mh_ias dX12_laysVotes_6 ?_
  exact t_X12_laysVotes_7 l E c0 s0 _ _ _
def F_X12_laysVotes (a0 : Nat) (m : Mm) (o : Prop) : Unit × Mm × Prop := f_X12_laysVotes_0 a0 m o
theorem T_X12_laysVotes (l : Launch) (E : En) (a0 : Nat) (m : Mm) (o : Prop) : Mt wU l E yX12_laysVotes mi_X12_laysVotes [.ref a0] m o (F_X12_laysVotes a0 m o) :=
  Mt_U (by decide) rfl (fun h => by cases h) rfl (Nat.le_of_ble_eq_true rfl) rfl (t_X12_laysVotes_0 l E _ _ _ _ _)
def f_X12_power_43 (k18 : Nat → Int32 → Int32 → Int32 → Mm → Prop → Int32 × Mm × Prop) (l0 : Nat) (l1 : Int32) (l3 : Int32) (y1 : Int32) (y0 : Int32) (m : Mm) (o : Prop) : Int32 × Mm × Prop := k18 l0 l1 (y0 + y1) (l3 + 1) m o
set_option maxRecDepth 10000 in
theorem t_X12_power_43 (l : Launch) (E : En) (c0 s0 : Nat) (k18 : Nat → Int32 → Int32 → Int32 → Mm → Prop → Int32 × Mm × Prop) (hk18 : ∀ (l0 : Nat) (l1 : Int32) (l2 : Int32) (l3 : Int32) (m : Mm) (o : Prop), Mh wI l E mi_X12_power c0 s0 18 [(0, .ref l0), (1, .int l1), (2, .int l2), (3, .int l3)] [] m o (k18 l0 l1 l2 l3 m o)) (l0 : Nat) (l1 : Int32) (l3 : Int32) (y1 : Int32) (y0 : Int32) (m : Mm) (o : Prop) : Mh wI l E mi_X12_power c0 s0 43 [(0, .ref l0), (1, .int l1), (3, .int l3)] [.int y1, .int y0] m o (f_X12_power_43 k18 l0 l1 l3 y1 y0 m o) := by
  refine Mh_iadd dX12_power_43 ?_
  refine Mh_istore_n (lv' := [(2, .int (y0 + y1)), (0, .ref l0), (1, .int l1), (3, .int l3)]) dX12_power_44 (Nat.le_of_ble_eq_true rfl) rfl ?_
  refine Mh_iinc (v := l3 + 1) (lv' := [(3, .int (l3 + 1)), (2, .int (y0 + y1)), (0, .ref l0), (1, .int l1)]) 3 dX12_power_45 rfl rfl (Nat.le_of_ble_eq_true rfl) rfl ?_
  refine Mh_goto (tgt := 18) dX12_power_48 (by decide) ?_
  refine Mh_sub (lv' := [(0, .ref l0), (1, .int l1), (2, .int (y0 + y1)), (3, .int (l3 + 1))]) [2, 3, 1, 0] rfl ?_
  exact hk18 _ _ _ _ _ _
def f_X12_power_35 (k18 : Nat → Int32 → Int32 → Int32 → Mm → Prop → Int32 × Mm × Prop) (l0 : Nat) (l1 : Int32) (l3 : Int32) (y1 : Int32) (y0 : Int32) (m : Mm) (o : Prop) : Int32 × Mm × Prop := if y1 = 0 then (f_X12_power_43 k18 l0 l1 l3 (0 : Int32) y0 m o) else (f_X12_power_43 k18 l0 l1 l3 (1 : Int32) y0 m o)
set_option maxRecDepth 10000 in
theorem t_X12_power_35 (l : Launch) (E : En) (c0 s0 : Nat) (k18 : Nat → Int32 → Int32 → Int32 → Mm → Prop → Int32 × Mm × Prop) (hk18 : ∀ (l0 : Nat) (l1 : Int32) (l2 : Int32) (l3 : Int32) (m : Mm) (o : Prop), Mh wI l E mi_X12_power c0 s0 18 [(0, .ref l0), (1, .int l1), (2, .int l2), (3, .int l3)] [] m o (k18 l0 l1 l2 l3 m o)) (l0 : Nat) (l1 : Int32) (l3 : Int32) (y1 : Int32) (y0 : Int32) (m : Mm) (o : Prop) : Mh wI l E mi_X12_power c0 s0 35 [(0, .ref l0), (1, .int l1), (3, .int l3)] [.int y1, .int y0] m o (f_X12_power_35 k18 l0 l1 l3 y1 y0 m o) := by
  refine Mh_if_eq (tgt := 42) dX12_power_35 (by decide) rfl (fun _ => ?_) (fun _ => ?_)
  · refine Mh_iconst (v := 0) dX12_power_42 (by decide) ?_
    exact t_X12_power_43 l E c0 s0 k18 hk18 _ _ _ _ _ _ _
  · refine Mh_iconst (v := 1) dX12_power_38 (by decide) ?_
    refine Mh_goto (tgt := 43) dX12_power_39 (by decide) ?_
    exact t_X12_power_43 l E c0 s0 k18 hk18 _ _ _ _ _ _ _
def f_X12_power_18b (k18 : Nat → Int32 → Int32 → Int32 → Mm → Prop → Int32 × Mm × Prop) (l0 : Nat) (l1 : Int32) (l2 : Int32) (l3 : Int32) (m : Mm) (o : Prop) : Int32 × Mm × Prop := if ((1 : Int32) <<< ((gI m l0 3) &&& 31)) ≤ l3 then (l2, m, (o ∧ gT m l0 = 12)) else (bnd (F_X12_isSwing l0 l3 l1 m (o ∧ gT m l0 = 12)) (fun v1 m1 o1 => f_X12_power_35 k18 l0 l1 l3 v1 l2 m1 o1))
set_option maxRecDepth 10000 in
theorem t_X12_power_18b (l : Launch) (E : En) (c0 s0 : Nat) (k18 : Nat → Int32 → Int32 → Int32 → Mm → Prop → Int32 × Mm × Prop) (hk18 : ∀ (l0 : Nat) (l1 : Int32) (l2 : Int32) (l3 : Int32) (m : Mm) (o : Prop), Mh wI l E mi_X12_power c0 s0 18 [(0, .ref l0), (1, .int l1), (2, .int l2), (3, .int l3)] [] m o (k18 l0 l1 l2 l3 m o)) (l0 : Nat) (l1 : Int32) (l2 : Int32) (l3 : Int32) (m : Mm) (o : Prop) : Mh wI l E mi_X12_power c0 s0 18 [(0, .ref l0), (1, .int l1), (2, .int l2), (3, .int l3)] [] m o (f_X12_power_18b k18 l0 l1 l2 l3 m o) := by
  refine Mh_iload_n 3 rfl dX12_power_18 ?_
  refine Mh_iconst (v := 1) dX12_power_19 (by decide) ?_
  refine Mh_aload_n 0 rfl dX12_power_20 ?_
  refine Mh_gI fd_11_3 fl_RX12_199 dX12_power_21 ?_
  refine Mh_ishl dX12_power_24 ?_
  refine Mh_icmp_ge (tgt := 51) dX12_power_25 (by decide) rfl (fun _ => ?_) (fun _ => ?_)
  · refine Mh_iload_n 2 rfl dX12_power_51 ?_
    exact Mh_ret dX12_power_52 rfl (fun _ => rfl) rfl
  · refine Mh_iload_n 2 rfl dX12_power_28 ?_
    refine Mh_aload_n 0 rfl dX12_power_29 ?_
    refine Mh_iload_n 3 rfl dX12_power_30 ?_
    refine Mh_iload_n 1 rfl dX12_power_31 ?_
    refine Mh_cvI (N := mi_X12_isSwing) (q := l0) (ci := 11) (as := [.int l3, .int l1]) (st := [.int l2]) (fun h => ⟨h, (fun h => h.2) h⟩) cg_yX12_isSwing (by decide) rfl rfl ml_RX12_448 iv_yX12_isSwing pd_yX12_isSwing rfl (by decide) (Nat.le_of_ble_eq_true rfl) rfl dX12_power_32 (T_X12_isSwing l E _ _ _ _ _) rfl ?_
    refine Mh_sub (lv' := [(0, .ref l0), (1, .int l1), (3, .int l3)]) [0, 1, 3] rfl ?_
    exact t_X12_power_35 l E c0 s0 k18 hk18 _ _ _ _ _ _ _
def f_X12_power_18 : Nat → Nat → Int32 → Int32 → Int32 → Mm → Prop → Int32 × Mm × Prop
  | 0, _, _, _, _, m, _ => (0, m, False)
  | n + 1, l0, l1, l2, l3, m, o => f_X12_power_18b (f_X12_power_18 n) l0 l1 l2 l3 m o
theorem t_X12_power_18 (l : Launch) (E : En) (c0 s0 : Nat) : ∀ (n : Nat) (l0 : Nat) (l1 : Int32) (l2 : Int32) (l3 : Int32) (m : Mm) (o : Prop), Mh wI l E mi_X12_power c0 s0 18 [(0, .ref l0), (1, .int l1), (2, .int l2), (3, .int l3)] [] m o (f_X12_power_18 n l0 l1 l2 l3 m o)
  | 0, _, _, _, _, _, _ => Mh_out rfl
  | n + 1, l0, l1, l2, l3, m, o => t_X12_power_18b l E c0 s0 (f_X12_power_18 n) (t_X12_power_18 l E c0 s0 n) l0 l1 l2 l3 m o
def f_X12_power_14 (l0 : Nat) (l1 : Int32) (m : Mm) (o : Prop) : Int32 × Mm × Prop := f_X12_power_18 70000 l0 l1 (0 : Int32) (0 : Int32) m o
set_option maxRecDepth 10000 in
theorem t_X12_power_14 (l : Launch) (E : En) (c0 s0 : Nat) (l0 : Nat) (l1 : Int32) (m : Mm) (o : Prop) : Mh wI l E mi_X12_power c0 s0 14 [(0, .ref l0), (1, .int l1)] [] m o (f_X12_power_14 l0 l1 m o) := by
  refine Mh_iconst (v := 0) dX12_power_14 (by decide) ?_
  refine Mh_istore_n (lv' := [(2, .int (0 : Int32)), (0, .ref l0), (1, .int l1)]) dX12_power_15 (Nat.le_of_ble_eq_true rfl) rfl ?_
  refine Mh_iconst (v := 0) dX12_power_16 (by decide) ?_
  refine Mh_istore_n (lv' := [(3, .int (0 : Int32)), (2, .int (0 : Int32)), (0, .ref l0), (1, .int l1)]) dX12_power_17 (Nat.le_of_ble_eq_true rfl) rfl ?_
  refine Mh_sub (lv' := [(0, .ref l0), (1, .int l1), (2, .int (0 : Int32)), (3, .int (0 : Int32))]) [2, 3, 1, 0] rfl ?_
  exact t_X12_power_18 l E c0 s0 _ _ _ _ _ _ _
def f_X12_power_5 (l0 : Nat) (l1 : Int32) (y0 : Int32) (m : Mm) (o : Prop) : Int32 × Mm × Prop := if y0 = 0 then ((-1 : Int32), m, o) else (bnd (F_X12_laysVotes l0 m (o ∧ gT m l0 = 12)) (fun _ m1 o1 => f_X12_power_14 l0 l1 m1 o1))
set_option maxRecDepth 10000 in
theorem t_X12_power_5 (l : Launch) (E : En) (c0 s0 : Nat) (l0 : Nat) (l1 : Int32) (y0 : Int32) (m : Mm) (o : Prop) : Mh wI l E mi_X12_power c0 s0 5 [(0, .ref l0), (1, .int l1)] [.int y0] m o (f_X12_power_5 l0 l1 y0 m o) := by
  refine Mh_if_ne (tgt := 10) dX12_power_5 (by decide) rfl (fun _ => ?_) (fun _ => ?_)
  · refine Mh_aload_n 0 rfl dX12_power_10 ?_
    refine Mh_cvU (N := mi_X12_laysVotes) (q := l0) (ci := 11) (as := []) (st := []) (id) cg_yX12_laysVotes (by decide) rfl rfl ml_RX12_445 iv_yX12_laysVotes pd_yX12_laysVotes rfl (by decide) (Nat.le_of_ble_eq_true rfl) rfl dX12_power_11 (T_X12_laysVotes l E _ _ _) rfl ?_
    exact t_X12_power_14 l E c0 s0 _ _ _ _
  · refine Mh_iconst (v := (-1)) dX12_power_8 (by decide) ?_
    exact Mh_ret dX12_power_9 rfl (fun _ => rfl) rfl
def f_X12_power_0 (l0 : Nat) (l1 : Int32) (m : Mm) (o : Prop) : Int32 × Mm × Prop := bnd (F_X12_isCow l0 l1 m (o ∧ gT m l0 = 12)) (fun v1 m1 o1 => f_X12_power_5 l0 l1 v1 m1 o1)
set_option maxRecDepth 10000 in
theorem t_X12_power_0 (l : Launch) (E : En) (c0 s0 : Nat) (l0 : Nat) (l1 : Int32) (m : Mm) (o : Prop) : Mh wI l E mi_X12_power c0 s0 0 [(0, .ref l0), (1, .int l1)] [] m o (f_X12_power_0 l0 l1 m o) := by
  refine Mh_aload_n 0 rfl dX12_power_0 ?_
  refine Mh_iload_n 1 rfl dX12_power_1 ?_
  refine Mh_cvI (N := mi_X12_isCow) (q := l0) (ci := 11) (as := [.int l1]) (st := []) (id) cg_yX12_isCow (by decide) rfl rfl ml_RX12_217 iv_yX12_isCow pd_yX12_isCow rfl (by decide) (Nat.le_of_ble_eq_true rfl) rfl dX12_power_2 (T_X12_isCow l E _ _ _ _) rfl ?_
  exact t_X12_power_5 l E c0 s0 _ _ _ _ _
def F_X12_power (a0 : Nat) (a1 : Int32) (m : Mm) (o : Prop) : Int32 × Mm × Prop := f_X12_power_0 a0 a1 m o
theorem T_X12_power (l : Launch) (E : En) (a0 : Nat) (a1 : Int32) (m : Mm) (o : Prop) : Mt wI l E yX12_power mi_X12_power [.ref a0, .int a1] m o (F_X12_power a0 a1 m o) :=
  Mt_I (by decide) rfl rfl rfl (Nat.le_of_ble_eq_true rfl) rfl (.inl rfl) (t_X12_power_0 l E _ _ _ _ _ _)
def f_X12_winner_12 (k2 : Nat → Int32 → Mm → Prop → Int32 × Mm × Prop) (l0 : Nat) (l1 : Int32) (y0 : Int32) (m : Mm) (o : Prop) : Int32 × Mm × Prop := if y0 = 0 then (k2 l0 (l1 + 1) m o) else (l1, m, o)
set_option maxRecDepth 10000 in
theorem t_X12_winner_12 (l : Launch) (E : En) (c0 s0 : Nat) (k2 : Nat → Int32 → Mm → Prop → Int32 × Mm × Prop) (hk2 : ∀ (l0 : Nat) (l1 : Int32) (m : Mm) (o : Prop), Mh wI l E mi_X12_winner c0 s0 2 [(0, .ref l0), (1, .int l1)] [] m o (k2 l0 l1 m o)) (l0 : Nat) (l1 : Int32) (y0 : Int32) (m : Mm) (o : Prop) : Mh wI l E mi_X12_winner c0 s0 12 [(0, .ref l0), (1, .int l1)] [.int y0] m o (f_X12_winner_12 k2 l0 l1 y0 m o) := by
  refine Mh_if_eq (tgt := 17) dX12_winner_12 (by decide) rfl (fun _ => ?_) (fun _ => ?_)
  · refine Mh_iinc (v := l1 + 1) (lv' := [(1, .int (l1 + 1)), (0, .ref l0)]) 1 dX12_winner_17 rfl rfl (Nat.le_of_ble_eq_true rfl) rfl ?_
    refine Mh_goto (tgt := 2) dX12_winner_20 (by decide) ?_
    refine Mh_sub (lv' := [(0, .ref l0), (1, .int (l1 + 1))]) [1, 0] rfl ?_
    exact hk2 _ _ _ _
  · refine Mh_iload_n 1 rfl dX12_winner_15 ?_
    exact Mh_ret dX12_winner_16 rfl (fun _ => rfl) rfl
def f_X12_winner_2b (k2 : Nat → Int32 → Mm → Prop → Int32 × Mm × Prop) (l0 : Nat) (l1 : Int32) (m : Mm) (o : Prop) : Int32 × Mm × Prop := if (5 : Int32) ≤ l1 then ((-2 : Int32), m, o) else (bnd (F_X12_wins l0 l1 m (o ∧ gT m l0 = 12)) (fun v1 m1 o1 => f_X12_winner_12 k2 l0 l1 v1 m1 o1))
set_option maxRecDepth 10000 in
theorem t_X12_winner_2b (l : Launch) (E : En) (c0 s0 : Nat) (k2 : Nat → Int32 → Mm → Prop → Int32 × Mm × Prop) (hk2 : ∀ (l0 : Nat) (l1 : Int32) (m : Mm) (o : Prop), Mh wI l E mi_X12_winner c0 s0 2 [(0, .ref l0), (1, .int l1)] [] m o (k2 l0 l1 m o)) (l0 : Nat) (l1 : Int32) (m : Mm) (o : Prop) : Mh wI l E mi_X12_winner c0 s0 2 [(0, .ref l0), (1, .int l1)] [] m o (f_X12_winner_2b k2 l0 l1 m o) := by
  refine Mh_iload_n 1 rfl dX12_winner_2 ?_
  refine Mh_iconst (v := 5) dX12_winner_3 (by decide) ?_
  refine Mh_icmp_ge (tgt := 23) dX12_winner_4 (by decide) rfl (fun _ => ?_) (fun _ => ?_)
  · refine Mh_bipush (v := (-2)) dX12_winner_23 (by decide) ?_
    exact Mh_ret dX12_winner_25 rfl (fun _ => rfl) rfl
  · refine Mh_aload_n 0 rfl dX12_winner_7 ?_
    refine Mh_iload_n 1 rfl dX12_winner_8 ?_
    refine Mh_cvI (N := mi_X12_wins) (q := l0) (ci := 11) (as := [.int l1]) (st := []) (id) cg_yX12_wins (by decide) rfl rfl ml_RX12_404 iv_yX12_wins pd_yX12_wins rfl (by decide) (Nat.le_of_ble_eq_true rfl) rfl dX12_winner_9 (T_X12_wins l E _ _ _ _) rfl ?_
    exact t_X12_winner_12 l E c0 s0 k2 hk2 _ _ _ _ _
def f_X12_winner_2 : Nat → Nat → Int32 → Mm → Prop → Int32 × Mm × Prop
  | 0, _, _, m, _ => (0, m, False)
  | n + 1, l0, l1, m, o => f_X12_winner_2b (f_X12_winner_2 n) l0 l1 m o
theorem t_X12_winner_2 (l : Launch) (E : En) (c0 s0 : Nat) : ∀ (n : Nat) (l0 : Nat) (l1 : Int32) (m : Mm) (o : Prop), Mh wI l E mi_X12_winner c0 s0 2 [(0, .ref l0), (1, .int l1)] [] m o (f_X12_winner_2 n l0 l1 m o)
  | 0, _, _, _, _ => Mh_out rfl
  | n + 1, l0, l1, m, o => t_X12_winner_2b l E c0 s0 (f_X12_winner_2 n) (t_X12_winner_2 l E c0 s0 n) l0 l1 m o
def f_X12_winner_0 (l0 : Nat) (m : Mm) (o : Prop) : Int32 × Mm × Prop := f_X12_winner_2 1000 l0 (0 : Int32) m o
set_option maxRecDepth 10000 in
theorem t_X12_winner_0 (l : Launch) (E : En) (c0 s0 : Nat) (l0 : Nat) (m : Mm) (o : Prop) : Mh wI l E mi_X12_winner c0 s0 0 [(0, .ref l0)] [] m o (f_X12_winner_0 l0 m o) := by
  refine Mh_iconst (v := 0) dX12_winner_0 (by decide) ?_
  refine Mh_istore_n (lv' := [(1, .int (0 : Int32)), (0, .ref l0)]) dX12_winner_1 (Nat.le_of_ble_eq_true rfl) rfl ?_
  refine Mh_sub (lv' := [(0, .ref l0), (1, .int (0 : Int32))]) [1, 0] rfl ?_
  exact t_X12_winner_2 l E c0 s0 _ _ _ _ _
def F_X12_winner (a0 : Nat) (m : Mm) (o : Prop) : Int32 × Mm × Prop := f_X12_winner_0 a0 m o
theorem T_X12_winner (l : Launch) (E : En) (a0 : Nat) (m : Mm) (o : Prop) : Mt wI l E yX12_winner mi_X12_winner [.ref a0] m o (F_X12_winner a0 m o) :=
  Mt_I (by decide) rfl rfl rfl (Nat.le_of_ble_eq_true rfl) rfl (.inl rfl) (t_X12_winner_0 l E _ _ _ _ _)
def f_X12_run_38 (m : Mm) (o : Prop) : Int32 × Mm × Prop := ((-1 : Int32), m, o)
set_option maxRecDepth 10000 in
theorem t_X12_run_38 (l : Launch) (E : En) (c0 s0 : Nat) (m : Mm) (o : Prop) : Mh wI l E mi_X12_run c0 s0 38 [] [] m o (f_X12_run_38  m o) := by
  refine Mh_iconst (v := (-1)) dX12_run_38 (by decide) ?_
  exact Mh_ret dX12_run_39 rfl (fun _ => rfl) rfl
def f_X12_run_104 (l3 : Int32) (m : Mm) (o : Prop) : Int32 × Mm × Prop := (l3, m, o)
set_option maxRecDepth 10000 in
theorem t_X12_run_104 (l : Launch) (E : En) (c0 s0 : Nat) (l3 : Int32) (m : Mm) (o : Prop) : Mh wI l E mi_X12_run c0 s0 104 [(3, .int l3)] [] m o (f_X12_run_104 l3 m o) := by
  refine Mh_iload_n 0 rfl dX12_run_104 ?_
  exact Mh_ret dX12_run_105 rfl (fun _ => rfl) rfl
def f_X12_run_98 (l0 : Nat) (y0 : Int32) (m : Mm) (o : Prop) : Int32 × Mm × Prop := bnd (F_X12_putsBack l0 (0 : Int32) m (o ∧ gT m l0 = 12)) (fun _ m1 o1 => f_X12_run_104 y0 m1 o1)
set_option maxRecDepth 10000 in
theorem t_X12_run_98 (l : Launch) (E : En) (c0 s0 : Nat) (l0 : Nat) (y0 : Int32) (m : Mm) (o : Prop) : Mh wI l E mi_X12_run c0 s0 98 [(0, .ref l0)] [.int y0] m o (f_X12_run_98 l0 y0 m o) := by
  refine Mh_istore_n (lv' := [(3, .int y0), (0, .ref l0)]) dX12_run_98 (Nat.le_of_ble_eq_true rfl) rfl ?_
  refine Mh_aload_n 1 rfl dX12_run_99 ?_
  refine Mh_iconst (v := 0) dX12_run_100 (by decide) ?_
  refine Mh_cvU (N := mi_X12_putsBack) (q := l0) (ci := 11) (as := [.int (0 : Int32)]) (st := []) (id) cg_yX12_putsBack (by decide) rfl rfl ml_RX12_420 iv_yX12_putsBack pd_yX12_putsBack rfl (by decide) (Nat.le_of_ble_eq_true rfl) rfl dX12_run_101 (T_X12_putsBack l E _ _ _ _) rfl ?_
  refine Mh_sub (lv' := [(3, .int y0)]) [0] rfl ?_
  exact t_X12_run_104 l E c0 s0 _ _ _
def f_X12_run_73 (l0 : Nat) (y0 : Int32) (m : Mm) (o : Prop) : Int32 × Mm × Prop := f_X12_run_98 l0 y0 m o
set_option maxRecDepth 10000 in
theorem t_X12_run_73 (l : Launch) (E : En) (c0 s0 : Nat) (l0 : Nat) (y0 : Int32) (m : Mm) (o : Prop) : Mh wI l E mi_X12_run c0 s0 73 [(0, .ref l0)] [.int y0] m o (f_X12_run_73 l0 y0 m o) := by
  refine Mh_goto (tgt := 98) dX12_run_73 (by decide) ?_
  exact t_X12_run_98 l E c0 s0 _ _ _ _
def f_X12_run_50 (l0 : Nat) (l2 : Int32) (m : Mm) (o : Prop) : Int32 × Mm × Prop := if (5 : Int32) ≤ l2 then (if l2 = (5 : Int32) then (bnd (F_X12_winner l0 m (o ∧ gT m l0 = 12)) (fun v1 m1 o1 => f_X12_run_73 l0 v1 m1 o1)) else (if l2 = (6 : Int32) then (f_X12_run_98 l0 (gI m l0 50) m (o ∧ gT m l0 = 12)) else (f_X12_run_98 l0 (gI m (gR m l0 10) (ix (l2 - (10 : Int32)))) m ((o ∧ (gT m l0 = 12 ∧ gR m l0 10 ≠ 0)) ∧ (gT m (gR m l0 10) = 20 ∧ vp_in (l2 - (10 : Int32)) (gN m (gR m l0 10))))))) else (f_X12_run_98 l0 (gI m (gR m l0 67) (ix l2)) m ((o ∧ (gT m l0 = 12 ∧ gR m l0 67 ≠ 0)) ∧ (gT m (gR m l0 67) = 20 ∧ vp_in l2 (gN m (gR m l0 67)))))
set_option maxRecDepth 10000 in
theorem t_X12_run_50 (l : Launch) (E : En) (c0 s0 : Nat) (l0 : Nat) (l2 : Int32) (m : Mm) (o : Prop) : Mh wI l E mi_X12_run c0 s0 50 [(0, .ref l0), (2, .int l2)] [] m o (f_X12_run_50 l0 l2 m o) := by
  refine Mh_iload_n 1 rfl dX12_run_50 ?_
  refine Mh_iconst (v := 5) dX12_run_51 (by decide) ?_
  refine Mh_icmp_ge (tgt := 64) dX12_run_52 (by decide) rfl (fun _ => ?_) (fun _ => ?_)
  · refine Mh_iload_n 1 rfl dX12_run_64 ?_
    refine Mh_iconst (v := 5) dX12_run_65 (by decide) ?_
    refine Mh_icmp_ne (tgt := 76) dX12_run_66 (by decide) rfl (fun _ => ?_) (fun _ => ?_)
    · refine Mh_iload_n 1 rfl dX12_run_76 ?_
      refine Mh_bipush (v := 6) dX12_run_77 (by decide) ?_
      refine Mh_icmp_ne (tgt := 89) dX12_run_79 (by decide) rfl (fun _ => ?_) (fun _ => ?_)
      · refine Mh_aload_n 0 rfl dX12_run_89 ?_
        refine Mh_gR fd_11_10 fl_RX12_27 dX12_run_90 ?_
        refine Mh_iload_n 1 rfl dX12_run_93 ?_
        refine Mh_bipush (v := 10) dX12_run_94 (by decide) ?_
        refine Mh_isub dX12_run_96 ?_
        refine Mh_ial dX12_run_97 ?_
        refine Mh_sub (lv' := [(0, .ref l0)]) [0] rfl ?_
        exact t_X12_run_98 l E c0 s0 _ _ _ _
      · refine Mh_aload_n 0 rfl dX12_run_82 ?_
        refine Mh_gI fd_11_50 fl_RX12_393 dX12_run_83 ?_
        refine Mh_goto (tgt := 98) dX12_run_86 (by decide) ?_
        refine Mh_sub (lv' := [(0, .ref l0)]) [0] rfl ?_
        exact t_X12_run_98 l E c0 s0 _ _ _ _
    · refine Mh_aload_n 0 rfl dX12_run_69 ?_
      refine Mh_cvI (N := mi_X12_winner) (q := l0) (ci := 11) (as := []) (st := []) (id) cg_yX12_winner (by decide) rfl rfl ml_RX12_417 iv_yX12_winner pd_yX12_winner rfl (by decide) (Nat.le_of_ble_eq_true rfl) rfl dX12_run_70 (T_X12_winner l E _ _ _) rfl ?_
      refine Mh_sub (lv' := [(0, .ref l0)]) [0] rfl ?_
      exact t_X12_run_73 l E c0 s0 _ _ _ _
  · refine Mh_aload_n 0 rfl dX12_run_55 ?_
    refine Mh_gR fd_11_67 fl_RX12_157 dX12_run_56 ?_
    refine Mh_iload_n 1 rfl dX12_run_59 ?_
    refine Mh_ial dX12_run_60 ?_
    refine Mh_goto (tgt := 98) dX12_run_61 (by decide) ?_
    refine Mh_sub (lv' := [(0, .ref l0)]) [0] rfl ?_
    exact t_X12_run_98 l E c0 s0 _ _ _ _
def f_X12_run_45 (l0 : Nat) (l1 : Int32) (l2 : Int32) (m : Mm) (o : Prop) : Int32 × Mm × Prop := bnd (F_X12_runs l0 l1 m (o ∧ gT m l0 = 12)) (fun _ m1 o1 => f_X12_run_50 l0 l2 m1 o1)
set_option maxRecDepth 10000 in
theorem t_X12_run_45 (l : Launch) (E : En) (c0 s0 : Nat) (l0 : Nat) (l1 : Int32) (l2 : Int32) (m : Mm) (o : Prop) : Mh wI l E mi_X12_run c0 s0 45 [(0, .ref l0), (1, .int l1), (2, .int l2)] [] m o (f_X12_run_45 l0 l1 l2 m o) := by
  refine Mh_aload_n 0 rfl dX12_run_45 ?_
  refine Mh_iload_n 1 rfl dX12_run_46 ?_
  refine Mh_cvU (N := mi_X12_runs) (q := l0) (ci := 11) (as := [.int l1]) (st := []) (id) cg_yX12_runs (by decide) rfl rfl ml_RX12_414 iv_yX12_runs pd_yX12_runs rfl (by decide) (Nat.le_of_ble_eq_true rfl) rfl dX12_run_47 (T_X12_runs l E _ _ _ _) rfl ?_
  refine Mh_sub (lv' := [(0, .ref l0), (2, .int l2)]) [0, 2] rfl ?_
  exact t_X12_run_50 l E c0 s0 _ _ _ _
def f_X12_run_40 (l0 : Nat) (l1 : Int32) (l2 : Int32) (m : Mm) (o : Prop) : Int32 × Mm × Prop := bnd (F_X12_setsAside l0 (0 : Int32) m (o ∧ gT m l0 = 12)) (fun _ m1 o1 => f_X12_run_45 l0 l1 l2 m1 o1)
set_option maxRecDepth 10000 in
theorem t_X12_run_40 (l : Launch) (E : En) (c0 s0 : Nat) (l0 : Nat) (l1 : Int32) (l2 : Int32) (m : Mm) (o : Prop) : Mh wI l E mi_X12_run c0 s0 40 [(0, .ref l0), (1, .int l1), (2, .int l2)] [] m o (f_X12_run_40 l0 l1 l2 m o) := by
  refine Mh_aload_n 0 rfl dX12_run_40 ?_
  refine Mh_iconst (v := 0) dX12_run_41 (by decide) ?_
  refine Mh_cvU (N := mi_X12_setsAside) (q := l0) (ci := 11) (as := [.int (0 : Int32)]) (st := []) (id) cg_yX12_setsAside (by decide) rfl rfl ml_RX12_411 iv_yX12_setsAside pd_yX12_setsAside rfl (by decide) (Nat.le_of_ble_eq_true rfl) rfl dX12_run_42 (T_X12_setsAside l E _ _ _ _) rfl ?_
  exact t_X12_run_45 l E c0 s0 _ _ _ _ _
def f_X12_run_35 (l0 : Nat) (l1 : Int32) (l2 : Int32) (y0 : Int32) (m : Mm) (o : Prop) : Int32 × Mm × Prop := if y0 = 0 then (f_X12_run_38  m o) else (f_X12_run_40 l0 l1 l2 m o)
set_option maxRecDepth 10000 in
theorem t_X12_run_35 (l : Launch) (E : En) (c0 s0 : Nat) (l0 : Nat) (l1 : Int32) (l2 : Int32) (y0 : Int32) (m : Mm) (o : Prop) : Mh wI l E mi_X12_run c0 s0 35 [(0, .ref l0), (1, .int l1), (2, .int l2)] [.int y0] m o (f_X12_run_35 l0 l1 l2 y0 m o) := by
  refine Mh_if_ne (tgt := 40) dX12_run_35 (by decide) rfl (fun _ => ?_) (fun _ => ?_)
  · exact t_X12_run_40 l E c0 s0 _ _ _ _ _
  · refine Mh_sub (lv' := []) [] rfl ?_
    exact t_X12_run_38 l E c0 s0  _ _
def f_X12_run_16 (l0 : Nat) (l1 : Int32) (l2 : Int32) (y0 : Int32) (m : Mm) (o : Prop) : Int32 × Mm × Prop := if y0 = 0 then (bnd (F_X12_lies (Int32.toInt64 l2) (10 : Int64) (Int32.toInt64 ((9 : Int32) + (gI m l0 2))) m (o ∧ gT m l0 = 12)) (fun v1 m1 o1 => f_X12_run_35 l0 l1 l2 v1 m1 o1)) else (f_X12_run_40 l0 l1 l2 m o)
set_option maxRecDepth 10000 in
theorem t_X12_run_16 (l : Launch) (E : En) (c0 s0 : Nat) (l0 : Nat) (l1 : Int32) (l2 : Int32) (y0 : Int32) (m : Mm) (o : Prop) : Mh wI l E mi_X12_run c0 s0 16 [(0, .ref l0), (1, .int l1), (2, .int l2)] [.int y0] m o (f_X12_run_16 l0 l1 l2 y0 m o) := by
  refine Mh_if_ne (tgt := 40) dX12_run_16 (by decide) rfl (fun _ => ?_) (fun _ => ?_)
  · exact t_X12_run_40 l E c0 s0 _ _ _ _ _
  · refine Mh_iload_n 2 rfl dX12_run_19 ?_
    refine Mh_i2l dX12_run_20 ?_
    refine Mh_ldc2 (v := 10) gl_RX12_409 dX12_run_21 ?_
    refine Mh_bipush (v := 9) dX12_run_24 (by decide) ?_
    refine Mh_aload_n 0 rfl dX12_run_26 ?_
    refine Mh_gI fd_11_2 fl_RX12_192 dX12_run_27 ?_
    refine Mh_iadd dX12_run_30 ?_
    refine Mh_i2l dX12_run_31 ?_
    refine Mh_csI (N := mi_X12_lies) (as := [.long (Int32.toInt64 l2), .long (10 : Int64), .long (Int32.toInt64 ((9 : Int32) + (gI m l0 2)))]) (st := []) cg_yX12_lies (.inl ml_RX12_188) sv_yX12_lies pd_yX12_lies rfl (by decide) (Nat.le_of_ble_eq_true rfl) rfl dX12_run_32 (T_X12_lies l E _ _ _ _ _) rfl ?_
    exact t_X12_run_35 l E c0 s0 _ _ _ _ _ _
def f_X12_run_4 (l0 : Nat) (l1 : Int32) (l2 : Int32) (y0 : Int32) (m : Mm) (o : Prop) : Int32 × Mm × Prop := if y0 = 0 then (f_X12_run_38  m o) else (bnd (F_X12_lies (Int32.toInt64 l2) (0 : Int64) (6 : Int64) m o) (fun v1 m1 o1 => f_X12_run_16 l0 l1 l2 v1 m1 o1))
set_option maxRecDepth 10000 in
theorem t_X12_run_4 (l : Launch) (E : En) (c0 s0 : Nat) (l0 : Nat) (l1 : Int32) (l2 : Int32) (y0 : Int32) (m : Mm) (o : Prop) : Mh wI l E mi_X12_run c0 s0 4 [(0, .ref l0), (1, .int l1), (2, .int l2)] [.int y0] m o (f_X12_run_4 l0 l1 l2 y0 m o) := by
  refine Mh_if_eq (tgt := 38) dX12_run_4 (by decide) rfl (fun _ => ?_) (fun _ => ?_)
  · refine Mh_sub (lv' := []) [] rfl ?_
    exact t_X12_run_38 l E c0 s0  _ _
  · refine Mh_iload_n 2 rfl dX12_run_7 ?_
    refine Mh_i2l dX12_run_8 ?_
    refine Mh_lconst (v := 0) dX12_run_9 (by decide) ?_
    refine Mh_ldc2 (v := 6) gl_RX12_407 dX12_run_10 ?_
    refine Mh_csI (N := mi_X12_lies) (as := [.long (Int32.toInt64 l2), .long (0 : Int64), .long (6 : Int64)]) (st := []) cg_yX12_lies (.inl ml_RX12_188) sv_yX12_lies pd_yX12_lies rfl (by decide) (Nat.le_of_ble_eq_true rfl) rfl dX12_run_13 (T_X12_lies l E _ _ _ _ _) rfl ?_
    exact t_X12_run_16 l E c0 s0 _ _ _ _ _ _
def f_X12_run_0 (l0 : Nat) (l1 : Int32) (l2 : Int32) (m : Mm) (o : Prop) : Int32 × Mm × Prop := bnd (F_X12_areDays l1 m o) (fun v1 m1 o1 => f_X12_run_4 l0 l1 l2 v1 m1 o1)
set_option maxRecDepth 10000 in
theorem t_X12_run_0 (l : Launch) (E : En) (c0 s0 : Nat) (l0 : Nat) (l1 : Int32) (l2 : Int32) (m : Mm) (o : Prop) : Mh wI l E mi_X12_run c0 s0 0 [(0, .ref l0), (1, .int l1), (2, .int l2)] [] m o (f_X12_run_0 l0 l1 l2 m o) := by
  refine Mh_iload_n 1 rfl dX12_run_0 ?_
  refine Mh_csI (N := mi_X12_areDays) (as := [.int l1]) (st := []) cg_yX12_areDays (.inl ml_RX12_398) sv_yX12_areDays pd_yX12_areDays rfl (by decide) (Nat.le_of_ble_eq_true rfl) rfl dX12_run_1 (T_X12_areDays l E _ _ _) rfl ?_
  exact t_X12_run_4 l E c0 s0 _ _ _ _ _ _
def F_X12_run (a0 : Nat) (a1 : Int32) (a2 : Int32) (m : Mm) (o : Prop) : Int32 × Mm × Prop := f_X12_run_0 a0 a1 a2 m o
theorem T_X12_run (l : Launch) (E : En) (a0 : Nat) (a1 : Int32) (a2 : Int32) (m : Mm) (o : Prop) : Mt wI l E yX12_run mi_X12_run [.ref a0, .int a1, .int a2] m o (F_X12_run a0 a1 a2 m o) :=
  Mt_I (by decide) rfl rfl rfl (Nat.le_of_ble_eq_true rfl) rfl (.inl rfl) (t_X12_run_0 l E _ _ _ _ _ _ _)
def f_X12_salt_10 (m : Mm) (o : Prop) : Int32 × Mm × Prop := ((1 : Int32), m, o)
set_option maxRecDepth 10000 in
theorem t_X12_salt_10 (l : Launch) (E : En) (c0 s0 : Nat) (m : Mm) (o : Prop) : Mh wI l E mi_X12_salt c0 s0 10 [] [] m o (f_X12_salt_10  m o) := by
  refine Mh_iconst (v := 1) dX12_salt_10 (by decide) ?_
  exact Mh_ret dX12_salt_11 rfl (fun _ => rk1Z) rfl
def f_X12_salt_32 (m : Mm) (o : Prop) : Int32 × Mm × Prop := ((0 : Int32), m, o)
set_option maxRecDepth 10000 in
theorem t_X12_salt_32 (l : Launch) (E : En) (c0 s0 : Nat) (m : Mm) (o : Prop) : Mh wI l E mi_X12_salt c0 s0 32 [] [] m o (f_X12_salt_32  m o) := by
  refine Mh_iconst (v := 0) dX12_salt_32 (by decide) ?_
  exact Mh_ret dX12_salt_33 rfl (fun _ => rk0Z) rfl
def f_X12_salt_44 (m : Mm) (o : Prop) : Int32 × Mm × Prop := ((1 : Int32), m, o)
set_option maxRecDepth 10000 in
theorem t_X12_salt_44 (l : Launch) (E : En) (c0 s0 : Nat) (m : Mm) (o : Prop) : Mh wI l E mi_X12_salt c0 s0 44 [] [] m o (f_X12_salt_44  m o) := by
  refine Mh_iconst (v := 1) dX12_salt_44 (by decide) ?_
  exact Mh_ret dX12_salt_45 rfl (fun _ => rk1Z) rfl
def f_X12_salt_39 (l0 : Nat) (l2 : Int32) (m : Mm) (o : Prop) : Int32 × Mm × Prop := f_X12_salt_44  (sI m l0 7 l2) (o ∧ gT m l0 = 12)
set_option maxRecDepth 10000 in
theorem t_X12_salt_39 (l : Launch) (E : En) (c0 s0 : Nat) (l0 : Nat) (l2 : Int32) (m : Mm) (o : Prop) : Mh wI l E mi_X12_salt c0 s0 39 [(0, .ref l0), (2, .int l2)] [] m o (f_X12_salt_39 l0 l2 m o) := by
  refine Mh_aload_n 0 rfl dX12_salt_39 ?_
  refine Mh_iload_n 1 rfl dX12_salt_40 ?_
  refine Mh_pI fd_11_7 ft_11 rfl fl_RX12_225 rfl dX12_salt_41 ?_
  refine Mh_sub (lv' := []) [] rfl ?_
  exact t_X12_salt_44 l E c0 s0  _ _
def f_X12_salt_29 (l0 : Nat) (l1 : Int32) (l2 : Int32) (y0 : Int32) (m : Mm) (o : Prop) : Int32 × Mm × Prop := if y0 = 0 then (f_X12_salt_32  m o) else (f_X12_salt_39 l0 l2 (sI m l0 6 l1) (o ∧ gT m l0 = 12))
set_option maxRecDepth 10000 in
theorem t_X12_salt_29 (l : Launch) (E : En) (c0 s0 : Nat) (l0 : Nat) (l1 : Int32) (l2 : Int32) (y0 : Int32) (m : Mm) (o : Prop) : Mh wI l E mi_X12_salt c0 s0 29 [(0, .ref l0), (1, .int l1), (2, .int l2)] [.int y0] m o (f_X12_salt_29 l0 l1 l2 y0 m o) := by
  refine Mh_if_ne (tgt := 34) dX12_salt_29 (by decide) rfl (fun _ => ?_) (fun _ => ?_)
  · refine Mh_aload_n 0 rfl dX12_salt_34 ?_
    refine Mh_iload_n 1 rfl dX12_salt_35 ?_
    refine Mh_pI fd_11_6 ft_11 rfl fl_RX12_17 rfl dX12_salt_36 ?_
    refine Mh_sub (lv' := [(0, .ref l0), (2, .int l2)]) [0, 2] rfl ?_
    exact t_X12_salt_39 l E c0 s0 _ _ _ _
  · refine Mh_sub (lv' := []) [] rfl ?_
    exact t_X12_salt_32 l E c0 s0  _ _
def f_X12_salt_17 (l0 : Nat) (l1 : Int32) (l2 : Int32) (y0 : Int32) (m : Mm) (o : Prop) : Int32 × Mm × Prop := if y0 = 0 then (f_X12_salt_32  m o) else (bnd (F_X12_lies (Int32.toInt64 l2) (0 : Int64) (999 : Int64) m o) (fun v1 m1 o1 => f_X12_salt_29 l0 l1 l2 v1 m1 o1))
set_option maxRecDepth 10000 in
theorem t_X12_salt_17 (l : Launch) (E : En) (c0 s0 : Nat) (l0 : Nat) (l1 : Int32) (l2 : Int32) (y0 : Int32) (m : Mm) (o : Prop) : Mh wI l E mi_X12_salt c0 s0 17 [(0, .ref l0), (1, .int l1), (2, .int l2)] [.int y0] m o (f_X12_salt_17 l0 l1 l2 y0 m o) := by
  refine Mh_if_eq (tgt := 32) dX12_salt_17 (by decide) rfl (fun _ => ?_) (fun _ => ?_)
  · refine Mh_sub (lv' := []) [] rfl ?_
    exact t_X12_salt_32 l E c0 s0  _ _
  · refine Mh_iload_n 2 rfl dX12_salt_20 ?_
    refine Mh_i2l dX12_salt_21 ?_
    refine Mh_lconst (v := 0) dX12_salt_22 (by decide) ?_
    refine Mh_ldc2 (v := 999) gl_RX12_212 dX12_salt_23 ?_
    refine Mh_csI (N := mi_X12_lies) (as := [.long (Int32.toInt64 l2), .long (0 : Int64), .long (999 : Int64)]) (st := []) cg_yX12_lies (.inl ml_RX12_188) sv_yX12_lies pd_yX12_lies rfl (by decide) (Nat.le_of_ble_eq_true rfl) rfl dX12_salt_26 (T_X12_lies l E _ _ _ _ _) rfl ?_
    exact t_X12_salt_29 l E c0 s0 _ _ _ _ _ _
def f_X12_salt_0 (l0 : Nat) (l1 : Int32) (l2 : Int32) (m : Mm) (o : Prop) : Int32 × Mm × Prop := if l1 = (-1 : Int32) then (f_X12_salt_10  (sI m l0 6 (-1 : Int32)) (o ∧ gT m l0 = 12)) else (bnd (F_X12_isThere l0 l1 m (o ∧ gT m l0 = 12)) (fun v1 m1 o1 => f_X12_salt_17 l0 l1 l2 v1 m1 o1))
set_option maxRecDepth 10000 in
theorem t_X12_salt_0 (l : Launch) (E : En) (c0 s0 : Nat) (l0 : Nat) (l1 : Int32) (l2 : Int32) (m : Mm) (o : Prop) : Mh wI l E mi_X12_salt c0 s0 0 [(0, .ref l0), (1, .int l1), (2, .int l2)] [] m o (f_X12_salt_0 l0 l1 l2 m o) := by
  refine Mh_iload_n 1 rfl dX12_salt_0 ?_
  refine Mh_iconst (v := (-1)) dX12_salt_1 (by decide) ?_
  refine Mh_icmp_ne (tgt := 12) dX12_salt_2 (by decide) rfl (fun _ => ?_) (fun _ => ?_)
  · refine Mh_aload_n 0 rfl dX12_salt_12 ?_
    refine Mh_iload_n 1 rfl dX12_salt_13 ?_
    refine Mh_cvI (N := mi_X12_isThere) (q := l0) (ci := 11) (as := [.int l1]) (st := []) (id) cg_yX12_isThere (by decide) rfl rfl ml_RX12_222 iv_yX12_isThere pd_yX12_isThere rfl (by decide) (Nat.le_of_ble_eq_true rfl) rfl dX12_salt_14 (T_X12_isThere l E _ _ _ _) rfl ?_
    exact t_X12_salt_17 l E c0 s0 _ _ _ _ _ _
  · refine Mh_aload_n 0 rfl dX12_salt_5 ?_
    refine Mh_iconst (v := (-1)) dX12_salt_6 (by decide) ?_
    refine Mh_pI fd_11_6 ft_11 rfl fl_RX12_17 rfl dX12_salt_7 ?_
    refine Mh_sub (lv' := []) [] rfl ?_
    exact t_X12_salt_10 l E c0 s0  _ _
def F_X12_salt (a0 : Nat) (a1 : Int32) (a2 : Int32) (m : Mm) (o : Prop) : Int32 × Mm × Prop := f_X12_salt_0 a0 a1 a2 m o
theorem T_X12_salt (l : Launch) (E : En) (a0 : Nat) (a1 : Int32) (a2 : Int32) (m : Mm) (o : Prop) : Mt wI l E yX12_salt mi_X12_salt [.ref a0, .int a1, .int a2] m o (F_X12_salt a0 a1 a2 m o) :=
  Mt_I (by decide) rfl rfl rfl (Nat.le_of_ble_eq_true rfl) rfl (.inr (.inl rfl)) (t_X12_salt_0 l E _ _ _ _ _ _ _)
def f_X12_fits_95 (k26 : Nat → Int32 → Int32 → Int32 → Mm → Prop → Int32 × Mm × Prop) (k45 : Nat → Int32 → Int32 → Int32 → Int32 → Mm → Prop → Int32 × Mm × Prop) (l0 : Nat) (l3 : Int32) (l5 : Int32) (l6 : Int32) (y0 : Int32) (m : Mm) (o : Prop) : Int32 × Mm × Prop := k45 l0 l3 y0 l5 (l6 + 1) m o
set_option maxRecDepth 10000 in
theorem t_X12_fits_95 (l : Launch) (E : En) (c0 s0 : Nat) (k26 : Nat → Int32 → Int32 → Int32 → Mm → Prop → Int32 × Mm × Prop) (hk26 : ∀ (l0 : Nat) (l3 : Int32) (l4 : Int32) (l5 : Int32) (m : Mm) (o : Prop), Mh wI l E mi_X12_fits c0 s0 26 [(0, .ref l0), (3, .int l3), (4, .int l4), (5, .int l5)] [] m o (k26 l0 l3 l4 l5 m o)) (k45 : Nat → Int32 → Int32 → Int32 → Int32 → Mm → Prop → Int32 × Mm × Prop) (hk45 : ∀ (l0 : Nat) (l3 : Int32) (l4 : Int32) (l5 : Int32) (l6 : Int32) (m : Mm) (o : Prop), Mh wI l E mi_X12_fits c0 s0 45 [(0, .ref l0), (3, .int l3), (4, .int l4), (5, .int l5), (6, .int l6)] [] m o (k45 l0 l3 l4 l5 l6 m o)) (l0 : Nat) (l3 : Int32) (l5 : Int32) (l6 : Int32) (y0 : Int32) (m : Mm) (o : Prop) : Mh wI l E mi_X12_fits c0 s0 95 [(0, .ref l0), (3, .int l3), (5, .int l5), (6, .int l6)] [.int y0] m o (f_X12_fits_95 k26 k45 l0 l3 l5 l6 y0 m o) := by
  refine Mh_istore (lv' := [(4, .int y0), (0, .ref l0), (3, .int l3), (5, .int l5), (6, .int l6)]) dX12_fits_95 (Nat.le_of_ble_eq_true rfl) rfl ?_
  refine Mh_iinc (v := l6 + 1) (lv' := [(6, .int (l6 + 1)), (4, .int y0), (0, .ref l0), (3, .int l3), (5, .int l5)]) 4 dX12_fits_97 rfl rfl (Nat.le_of_ble_eq_true rfl) rfl ?_
  refine Mh_goto (tgt := 45) dX12_fits_100 (by decide) ?_
  refine Mh_sub (lv' := [(0, .ref l0), (3, .int l3), (4, .int y0), (5, .int l5), (6, .int (l6 + 1))]) [2, 3, 1, 4, 0] rfl ?_
  exact hk45 _ _ _ _ _ _ _
def f_X12_fits_90 (k26 : Nat → Int32 → Int32 → Int32 → Mm → Prop → Int32 × Mm × Prop) (k45 : Nat → Int32 → Int32 → Int32 → Int32 → Mm → Prop → Int32 × Mm × Prop) (l0 : Nat) (l3 : Int32) (l5 : Int32) (l6 : Int32) (m : Mm) (o : Prop) : Int32 × Mm × Prop := f_X12_fits_95 k26 k45 l0 l3 l5 l6 (1 : Int32) m o
set_option maxRecDepth 10000 in
theorem t_X12_fits_90 (l : Launch) (E : En) (c0 s0 : Nat) (k26 : Nat → Int32 → Int32 → Int32 → Mm → Prop → Int32 × Mm × Prop) (hk26 : ∀ (l0 : Nat) (l3 : Int32) (l4 : Int32) (l5 : Int32) (m : Mm) (o : Prop), Mh wI l E mi_X12_fits c0 s0 26 [(0, .ref l0), (3, .int l3), (4, .int l4), (5, .int l5)] [] m o (k26 l0 l3 l4 l5 m o)) (k45 : Nat → Int32 → Int32 → Int32 → Int32 → Mm → Prop → Int32 × Mm × Prop) (hk45 : ∀ (l0 : Nat) (l3 : Int32) (l4 : Int32) (l5 : Int32) (l6 : Int32) (m : Mm) (o : Prop), Mh wI l E mi_X12_fits c0 s0 45 [(0, .ref l0), (3, .int l3), (4, .int l4), (5, .int l5), (6, .int l6)] [] m o (k45 l0 l3 l4 l5 l6 m o)) (l0 : Nat) (l3 : Int32) (l5 : Int32) (l6 : Int32) (m : Mm) (o : Prop) : Mh wI l E mi_X12_fits c0 s0 90 [(0, .ref l0), (3, .int l3), (5, .int l5), (6, .int l6)] [] m o (f_X12_fits_90 k26 k45 l0 l3 l5 l6 m o) := by
  refine Mh_iconst (v := 1) dX12_fits_90 (by decide) ?_
  refine Mh_goto (tgt := 95) dX12_fits_91 (by decide) ?_
  exact t_X12_fits_95 l E c0 s0 k26 hk26 k45 hk45 _ _ _ _ _ _ _
def f_X12_fits_103 (k26 : Nat → Int32 → Int32 → Int32 → Mm → Prop → Int32 × Mm × Prop) (l0 : Nat) (l3 : Int32) (l4 : Int32) (l5 : Int32) (m : Mm) (o : Prop) : Int32 × Mm × Prop := k26 l0 l3 l4 (l5 + 1) m o
set_option maxRecDepth 10000 in
theorem t_X12_fits_103 (l : Launch) (E : En) (c0 s0 : Nat) (k26 : Nat → Int32 → Int32 → Int32 → Mm → Prop → Int32 × Mm × Prop) (hk26 : ∀ (l0 : Nat) (l3 : Int32) (l4 : Int32) (l5 : Int32) (m : Mm) (o : Prop), Mh wI l E mi_X12_fits c0 s0 26 [(0, .ref l0), (3, .int l3), (4, .int l4), (5, .int l5)] [] m o (k26 l0 l3 l4 l5 m o)) (l0 : Nat) (l3 : Int32) (l4 : Int32) (l5 : Int32) (m : Mm) (o : Prop) : Mh wI l E mi_X12_fits c0 s0 103 [(0, .ref l0), (3, .int l3), (4, .int l4), (5, .int l5)] [] m o (f_X12_fits_103 k26 l0 l3 l4 l5 m o) := by
  refine Mh_iinc (v := l5 + 1) (lv' := [(5, .int (l5 + 1)), (0, .ref l0), (3, .int l3), (4, .int l4)]) 3 dX12_fits_103 rfl rfl (Nat.le_of_ble_eq_true rfl) rfl ?_
  refine Mh_goto (tgt := 26) dX12_fits_106 (by decide) ?_
  refine Mh_sub (lv' := [(0, .ref l0), (3, .int l3), (4, .int l4), (5, .int (l5 + 1))]) [1, 2, 3, 0] rfl ?_
  exact hk26 _ _ _ _ _ _
def f_X12_fits_45b (k26 : Nat → Int32 → Int32 → Int32 → Mm → Prop → Int32 × Mm × Prop) (k45 : Nat → Int32 → Int32 → Int32 → Int32 → Mm → Prop → Int32 × Mm × Prop) (l0 : Nat) (l3 : Int32) (l4 : Int32) (l5 : Int32) (l6 : Int32) (m : Mm) (o : Prop) : Int32 × Mm × Prop := if l3 ≤ l6 then (f_X12_fits_103 k26 l0 l3 l4 l5 m o) else (if l4 = 0 then (f_X12_fits_103 k26 l0 l3 l4 l5 m o) else (if (gI m (gR m l0 76) (ix l6)) = l5 then (if (gI m (gR m l0 49) (ix (gI m (gR m l0 74) (ix l6)))) = (gI m (gR m l0 75) (ix l6)) then (f_X12_fits_90 k26 k45 l0 l3 l5 l6 m ((((((((o ∧ (gT m l0 = 12 ∧ gR m l0 76 ≠ 0)) ∧ (gT m (gR m l0 76) = 20 ∧ vp_in l6 (gN m (gR m l0 76)))) ∧ (gT m l0 = 12 ∧ gR m l0 49 ≠ 0)) ∧ (gT m l0 = 12 ∧ gR m l0 74 ≠ 0)) ∧ (gT m (gR m l0 74) = 20 ∧ vp_in l6 (gN m (gR m l0 74)))) ∧ (gT m (gR m l0 49) = 20 ∧ vp_in (gI m (gR m l0 74) (ix l6)) (gN m (gR m l0 49)))) ∧ (gT m l0 = 12 ∧ gR m l0 75 ≠ 0)) ∧ (gT m (gR m l0 75) = 20 ∧ vp_in l6 (gN m (gR m l0 75))))) else (f_X12_fits_95 k26 k45 l0 l3 l5 l6 (0 : Int32) m ((((((((o ∧ (gT m l0 = 12 ∧ gR m l0 76 ≠ 0)) ∧ (gT m (gR m l0 76) = 20 ∧ vp_in l6 (gN m (gR m l0 76)))) ∧ (gT m l0 = 12 ∧ gR m l0 49 ≠ 0)) ∧ (gT m l0 = 12 ∧ gR m l0 74 ≠ 0)) ∧ (gT m (gR m l0 74) = 20 ∧ vp_in l6 (gN m (gR m l0 74)))) ∧ (gT m (gR m l0 49) = 20 ∧ vp_in (gI m (gR m l0 74) (ix l6)) (gN m (gR m l0 49)))) ∧ (gT m l0 = 12 ∧ gR m l0 75 ≠ 0)) ∧ (gT m (gR m l0 75) = 20 ∧ vp_in l6 (gN m (gR m l0 75)))))) else (f_X12_fits_90 k26 k45 l0 l3 l5 l6 m ((o ∧ (gT m l0 = 12 ∧ gR m l0 76 ≠ 0)) ∧ (gT m (gR m l0 76) = 20 ∧ vp_in l6 (gN m (gR m l0 76)))))))
set_option maxRecDepth 10000 in
theorem t_X12_fits_45b (l : Launch) (E : En) (c0 s0 : Nat) (k26 : Nat → Int32 → Int32 → Int32 → Mm → Prop → Int32 × Mm × Prop) (hk26 : ∀ (l0 : Nat) (l3 : Int32) (l4 : Int32) (l5 : Int32) (m : Mm) (o : Prop), Mh wI l E mi_X12_fits c0 s0 26 [(0, .ref l0), (3, .int l3), (4, .int l4), (5, .int l5)] [] m o (k26 l0 l3 l4 l5 m o)) (k45 : Nat → Int32 → Int32 → Int32 → Int32 → Mm → Prop → Int32 × Mm × Prop) (hk45 : ∀ (l0 : Nat) (l3 : Int32) (l4 : Int32) (l5 : Int32) (l6 : Int32) (m : Mm) (o : Prop), Mh wI l E mi_X12_fits c0 s0 45 [(0, .ref l0), (3, .int l3), (4, .int l4), (5, .int l5), (6, .int l6)] [] m o (k45 l0 l3 l4 l5 l6 m o)) (l0 : Nat) (l3 : Int32) (l4 : Int32) (l5 : Int32) (l6 : Int32) (m : Mm) (o : Prop) : Mh wI l E mi_X12_fits c0 s0 45 [(0, .ref l0), (3, .int l3), (4, .int l4), (5, .int l5), (6, .int l6)] [] m o (f_X12_fits_45b k26 k45 l0 l3 l4 l5 l6 m o) := by
  refine Mh_iload 4 rfl dX12_fits_45 ?_
  refine Mh_iload_n 1 rfl dX12_fits_47 ?_
  refine Mh_icmp_ge (tgt := 103) dX12_fits_48 (by decide) rfl (fun _ => ?_) (fun _ => ?_)
  · refine Mh_sub (lv' := [(0, .ref l0), (3, .int l3), (4, .int l4), (5, .int l5)]) [0, 1, 2, 3] rfl ?_
    exact t_X12_fits_103 l E c0 s0 k26 hk26 _ _ _ _ _ _
  · refine Mh_iload 2 rfl dX12_fits_51 ?_
    refine Mh_if_eq (tgt := 103) dX12_fits_53 (by decide) rfl (fun _ => ?_) (fun _ => ?_)
    · refine Mh_sub (lv' := [(0, .ref l0), (3, .int l3), (4, .int l4), (5, .int l5)]) [0, 1, 2, 3] rfl ?_
      exact t_X12_fits_103 l E c0 s0 k26 hk26 _ _ _ _ _ _
    · refine Mh_aload_n 0 rfl dX12_fits_56 ?_
      refine Mh_gR fd_11_76 fl_RX12_183 dX12_fits_57 ?_
      refine Mh_iload 4 rfl dX12_fits_60 ?_
      refine Mh_ial dX12_fits_62 ?_
      refine Mh_iload 3 rfl dX12_fits_63 ?_
      refine Mh_icmp_ne (tgt := 90) dX12_fits_65 (by decide) rfl (fun _ => ?_) (fun _ => ?_)
      · refine Mh_sub (lv' := [(0, .ref l0), (3, .int l3), (5, .int l5), (6, .int l6)]) [0, 1, 3, 4] rfl ?_
        exact t_X12_fits_90 l E c0 s0 k26 hk26 k45 hk45 _ _ _ _ _ _
      · refine Mh_aload_n 0 rfl dX12_fits_68 ?_
        refine Mh_gR fd_11_49 fl_RX12_109 dX12_fits_69 ?_
        refine Mh_aload_n 0 rfl dX12_fits_72 ?_
        refine Mh_gR fd_11_74 fl_RX12_177 dX12_fits_73 ?_
        refine Mh_iload 4 rfl dX12_fits_76 ?_
        refine Mh_ial dX12_fits_78 ?_
        refine Mh_ial dX12_fits_79 ?_
        refine Mh_aload_n 0 rfl dX12_fits_80 ?_
        refine Mh_gR fd_11_75 fl_RX12_180 dX12_fits_81 ?_
        refine Mh_iload 4 rfl dX12_fits_84 ?_
        refine Mh_ial dX12_fits_86 ?_
        refine Mh_icmp_ne (tgt := 94) dX12_fits_87 (by decide) rfl (fun _ => ?_) (fun _ => ?_)
        · refine Mh_iconst (v := 0) dX12_fits_94 (by decide) ?_
          refine Mh_sub (lv' := [(0, .ref l0), (3, .int l3), (5, .int l5), (6, .int l6)]) [0, 1, 3, 4] rfl ?_
          exact t_X12_fits_95 l E c0 s0 k26 hk26 k45 hk45 _ _ _ _ _ _ _
        · refine Mh_sub (lv' := [(0, .ref l0), (3, .int l3), (5, .int l5), (6, .int l6)]) [0, 1, 3, 4] rfl ?_
          exact t_X12_fits_90 l E c0 s0 k26 hk26 k45 hk45 _ _ _ _ _ _
def f_X12_fits_45 (k26 : Nat → Int32 → Int32 → Int32 → Mm → Prop → Int32 × Mm × Prop) : Nat → Nat → Int32 → Int32 → Int32 → Int32 → Mm → Prop → Int32 × Mm × Prop
  | 0, _, _, _, _, _, m, _ => (0, m, False)
  | n + 1, l0, l3, l4, l5, l6, m, o => f_X12_fits_45b k26 (f_X12_fits_45 k26 n) l0 l3 l4 l5 l6 m o
theorem t_X12_fits_45 (l : Launch) (E : En) (c0 s0 : Nat) (k26 : Nat → Int32 → Int32 → Int32 → Mm → Prop → Int32 × Mm × Prop) (hk26 : ∀ (l0 : Nat) (l3 : Int32) (l4 : Int32) (l5 : Int32) (m : Mm) (o : Prop), Mh wI l E mi_X12_fits c0 s0 26 [(0, .ref l0), (3, .int l3), (4, .int l4), (5, .int l5)] [] m o (k26 l0 l3 l4 l5 m o)) : ∀ (n : Nat) (l0 : Nat) (l3 : Int32) (l4 : Int32) (l5 : Int32) (l6 : Int32) (m : Mm) (o : Prop), Mh wI l E mi_X12_fits c0 s0 45 [(0, .ref l0), (3, .int l3), (4, .int l4), (5, .int l5), (6, .int l6)] [] m o (f_X12_fits_45 k26 n l0 l3 l4 l5 l6 m o)
  | 0, _, _, _, _, _, _, _ => Mh_out rfl
  | n + 1, l0, l3, l4, l5, l6, m, o => t_X12_fits_45b l E c0 s0 k26 hk26 (f_X12_fits_45 k26 n) (t_X12_fits_45 l E c0 s0 k26 hk26 n) l0 l3 l4 l5 l6 m o
def f_X12_fits_42 (k26 : Nat → Int32 → Int32 → Int32 → Mm → Prop → Int32 × Mm × Prop) (l0 : Nat) (l3 : Int32) (l4 : Int32) (l5 : Int32) (m : Mm) (o : Prop) : Int32 × Mm × Prop := f_X12_fits_45 k26 1000 l0 l3 l4 l5 (0 : Int32) m o
set_option maxRecDepth 10000 in
theorem t_X12_fits_42 (l : Launch) (E : En) (c0 s0 : Nat) (k26 : Nat → Int32 → Int32 → Int32 → Mm → Prop → Int32 × Mm × Prop) (hk26 : ∀ (l0 : Nat) (l3 : Int32) (l4 : Int32) (l5 : Int32) (m : Mm) (o : Prop), Mh wI l E mi_X12_fits c0 s0 26 [(0, .ref l0), (3, .int l3), (4, .int l4), (5, .int l5)] [] m o (k26 l0 l3 l4 l5 m o)) (l0 : Nat) (l3 : Int32) (l4 : Int32) (l5 : Int32) (m : Mm) (o : Prop) : Mh wI l E mi_X12_fits c0 s0 42 [(0, .ref l0), (3, .int l3), (4, .int l4), (5, .int l5)] [] m o (f_X12_fits_42 k26 l0 l3 l4 l5 m o) := by
  refine Mh_iconst (v := 0) dX12_fits_42 (by decide) ?_
  refine Mh_istore (lv' := [(6, .int (0 : Int32)), (0, .ref l0), (3, .int l3), (4, .int l4), (5, .int l5)]) dX12_fits_43 (Nat.le_of_ble_eq_true rfl) rfl ?_
  refine Mh_sub (lv' := [(0, .ref l0), (3, .int l3), (4, .int l4), (5, .int l5), (6, .int (0 : Int32))]) [1, 2, 3, 4, 0] rfl ?_
  exact t_X12_fits_45 l E c0 s0 k26 hk26 _ _ _ _ _ _ _ _
def f_X12_fits_114 (l4 : Int32) (m : Mm) (o : Prop) : Int32 × Mm × Prop := (l4, m, o ∧ (l4 = 0 ∨ l4 = 1))
set_option maxRecDepth 10000 in
theorem t_X12_fits_114 (l : Launch) (E : En) (c0 s0 : Nat) (l4 : Int32) (m : Mm) (o : Prop) : Mh wI l E mi_X12_fits c0 s0 114 [(4, .int l4)] [] m o (f_X12_fits_114 l4 m o) := by
  refine Mh_iload 0 rfl dX12_fits_114 ?_
  exact Mh_retZ dX12_fits_116 (.inl rfl) rfl
def f_X12_fits_109 (l0 : Nat) (l4 : Int32) (m : Mm) (o : Prop) : Int32 × Mm × Prop := bnd (F_X12_putsBack l0 (0 : Int32) m (o ∧ gT m l0 = 12)) (fun _ m1 o1 => f_X12_fits_114 l4 m1 o1)
set_option maxRecDepth 10000 in
theorem t_X12_fits_109 (l : Launch) (E : En) (c0 s0 : Nat) (l0 : Nat) (l4 : Int32) (m : Mm) (o : Prop) : Mh wI l E mi_X12_fits c0 s0 109 [(0, .ref l0), (4, .int l4)] [] m o (f_X12_fits_109 l0 l4 m o) := by
  refine Mh_aload_n 0 rfl dX12_fits_109 ?_
  refine Mh_iconst (v := 0) dX12_fits_110 (by decide) ?_
  refine Mh_cvU (N := mi_X12_putsBack) (q := l0) (ci := 11) (as := [.int (0 : Int32)]) (st := []) (id) cg_yX12_putsBack (by decide) rfl rfl ml_RX12_420 iv_yX12_putsBack pd_yX12_putsBack rfl (by decide) (Nat.le_of_ble_eq_true rfl) rfl dX12_fits_111 (T_X12_putsBack l E _ _ _ _) rfl ?_
  refine Mh_sub (lv' := [(4, .int l4)]) [1] rfl ?_
  exact t_X12_fits_114 l E c0 s0 _ _ _
def f_X12_fits_26b (k26 : Nat → Int32 → Int32 → Int32 → Mm → Prop → Int32 × Mm × Prop) (l0 : Nat) (l3 : Int32) (l4 : Int32) (l5 : Int32) (m : Mm) (o : Prop) : Int32 × Mm × Prop := if (10 : Int32) ≤ l5 then (f_X12_fits_109 l0 l4 m o) else (if l4 = 0 then (f_X12_fits_109 l0 l4 m o) else (bnd (F_X12_dayOne l0 m (o ∧ gT m l0 = 12)) (fun _ m1 o1 => f_X12_fits_42 k26 l0 l3 l4 l5 m1 o1)))
set_option maxRecDepth 10000 in
theorem t_X12_fits_26b (l : Launch) (E : En) (c0 s0 : Nat) (k26 : Nat → Int32 → Int32 → Int32 → Mm → Prop → Int32 × Mm × Prop) (hk26 : ∀ (l0 : Nat) (l3 : Int32) (l4 : Int32) (l5 : Int32) (m : Mm) (o : Prop), Mh wI l E mi_X12_fits c0 s0 26 [(0, .ref l0), (3, .int l3), (4, .int l4), (5, .int l5)] [] m o (k26 l0 l3 l4 l5 m o)) (l0 : Nat) (l3 : Int32) (l4 : Int32) (l5 : Int32) (m : Mm) (o : Prop) : Mh wI l E mi_X12_fits c0 s0 26 [(0, .ref l0), (3, .int l3), (4, .int l4), (5, .int l5)] [] m o (f_X12_fits_26b k26 l0 l3 l4 l5 m o) := by
  refine Mh_iload 3 rfl dX12_fits_26 ?_
  refine Mh_bipush (v := 10) dX12_fits_28 (by decide) ?_
  refine Mh_icmp_ge (tgt := 109) dX12_fits_30 (by decide) rfl (fun _ => ?_) (fun _ => ?_)
  · refine Mh_sub (lv' := [(0, .ref l0), (4, .int l4)]) [0, 2] rfl ?_
    exact t_X12_fits_109 l E c0 s0 _ _ _ _
  · refine Mh_iload 2 rfl dX12_fits_33 ?_
    refine Mh_if_eq (tgt := 109) dX12_fits_35 (by decide) rfl (fun _ => ?_) (fun _ => ?_)
    · refine Mh_sub (lv' := [(0, .ref l0), (4, .int l4)]) [0, 2] rfl ?_
      exact t_X12_fits_109 l E c0 s0 _ _ _ _
    · refine Mh_aload_n 0 rfl dX12_fits_38 ?_
      refine Mh_cvU (N := mi_X12_dayOne) (q := l0) (ci := 11) (as := []) (st := []) (id) cg_yX12_dayOne (by decide) rfl rfl ml_RX12_401 iv_yX12_dayOne pd_yX12_dayOne rfl (by decide) (Nat.le_of_ble_eq_true rfl) rfl dX12_fits_39 (T_X12_dayOne l E _ _ _) rfl ?_
      exact t_X12_fits_42 l E c0 s0 k26 hk26 _ _ _ _ _ _
def f_X12_fits_26 : Nat → Nat → Int32 → Int32 → Int32 → Mm → Prop → Int32 × Mm × Prop
  | 0, _, _, _, _, m, _ => (0, m, False)
  | n + 1, l0, l3, l4, l5, m, o => f_X12_fits_26b (f_X12_fits_26 n) l0 l3 l4 l5 m o
theorem t_X12_fits_26 (l : Launch) (E : En) (c0 s0 : Nat) : ∀ (n : Nat) (l0 : Nat) (l3 : Int32) (l4 : Int32) (l5 : Int32) (m : Mm) (o : Prop), Mh wI l E mi_X12_fits c0 s0 26 [(0, .ref l0), (3, .int l3), (4, .int l4), (5, .int l5)] [] m o (f_X12_fits_26 n l0 l3 l4 l5 m o)
  | 0, _, _, _, _, _, _ => Mh_out rfl
  | n + 1, l0, l3, l4, l5, m, o => t_X12_fits_26b l E c0 s0 (f_X12_fits_26 n) (t_X12_fits_26 l E c0 s0 n) l0 l3 l4 l5 m o
def f_X12_fits_20 (l0 : Nat) (l3 : Int32) (m : Mm) (o : Prop) : Int32 × Mm × Prop := f_X12_fits_26 1000 l0 l3 (1 : Int32) (0 : Int32) m o
set_option maxRecDepth 10000 in
theorem t_X12_fits_20 (l : Launch) (E : En) (c0 s0 : Nat) (l0 : Nat) (l3 : Int32) (m : Mm) (o : Prop) : Mh wI l E mi_X12_fits c0 s0 20 [(0, .ref l0), (3, .int l3)] [] m o (f_X12_fits_20 l0 l3 m o) := by
  refine Mh_iconst (v := 1) dX12_fits_20 (by decide) ?_
  refine Mh_istore (lv' := [(4, .int (1 : Int32)), (0, .ref l0), (3, .int l3)]) dX12_fits_21 (Nat.le_of_ble_eq_true rfl) rfl ?_
  refine Mh_iconst (v := 0) dX12_fits_23 (by decide) ?_
  refine Mh_istore (lv' := [(5, .int (0 : Int32)), (4, .int (1 : Int32)), (0, .ref l0), (3, .int l3)]) dX12_fits_24 (Nat.le_of_ble_eq_true rfl) rfl ?_
  refine Mh_sub (lv' := [(0, .ref l0), (3, .int l3), (4, .int (1 : Int32)), (5, .int (0 : Int32))]) [2, 3, 1, 0] rfl ?_
  exact t_X12_fits_26 l E c0 s0 _ _ _ _ _ _ _
def f_X12_fits_10 (l0 : Nat) (l2 : Int32) (l3 : Int32) (m : Mm) (o : Prop) : Int32 × Mm × Prop := f_X12_fits_20 l0 l3 (sI m l0 7 ((gI m l0 4) + l2)) (o ∧ gT m l0 = 12)
set_option maxRecDepth 10000 in
theorem t_X12_fits_10 (l : Launch) (E : En) (c0 s0 : Nat) (l0 : Nat) (l2 : Int32) (l3 : Int32) (m : Mm) (o : Prop) : Mh wI l E mi_X12_fits c0 s0 10 [(0, .ref l0), (2, .int l2), (3, .int l3)] [] m o (f_X12_fits_10 l0 l2 l3 m o) := by
  refine Mh_aload_n 0 rfl dX12_fits_10 ?_
  refine Mh_aload_n 0 rfl dX12_fits_11 ?_
  refine Mh_gI fd_11_4 fl_RX12_359 dX12_fits_12 ?_
  refine Mh_iload_n 1 rfl dX12_fits_15 ?_
  refine Mh_iadd dX12_fits_16 ?_
  refine Mh_pI fd_11_7 ft_11 rfl fl_RX12_225 rfl dX12_fits_17 ?_
  refine Mh_ok (fun h => h.2) ?_
  refine Mh_sub (lv' := [(0, .ref l0), (3, .int l3)]) [0, 2] rfl ?_
  exact t_X12_fits_20 l E c0 s0 _ _ _ _
def f_X12_fits_5 (l0 : Nat) (l1 : Int32) (l2 : Int32) (l3 : Int32) (m : Mm) (o : Prop) : Int32 × Mm × Prop := f_X12_fits_10 l0 l2 l3 (sI m l0 6 l1) (o ∧ gT m l0 = 12)
set_option maxRecDepth 10000 in
theorem t_X12_fits_5 (l : Launch) (E : En) (c0 s0 : Nat) (l0 : Nat) (l1 : Int32) (l2 : Int32) (l3 : Int32) (m : Mm) (o : Prop) : Mh wI l E mi_X12_fits c0 s0 5 [(0, .ref l0), (1, .int l1), (2, .int l2), (3, .int l3)] [] m o (f_X12_fits_5 l0 l1 l2 l3 m o) := by
  refine Mh_aload_n 0 rfl dX12_fits_5 ?_
  refine Mh_iload_n 1 rfl dX12_fits_6 ?_
  refine Mh_pI fd_11_6 ft_11 rfl fl_RX12_17 rfl dX12_fits_7 ?_
  refine Mh_sub (lv' := [(0, .ref l0), (2, .int l2), (3, .int l3)]) [0, 2, 3] rfl ?_
  exact t_X12_fits_10 l E c0 s0 _ _ _ _ _
def f_X12_fits_0 (l0 : Nat) (l1 : Int32) (l2 : Int32) (l3 : Int32) (m : Mm) (o : Prop) : Int32 × Mm × Prop := bnd (F_X12_setsAside l0 (0 : Int32) m (o ∧ gT m l0 = 12)) (fun _ m1 o1 => f_X12_fits_5 l0 l1 l2 l3 m1 o1)
set_option maxRecDepth 10000 in
theorem t_X12_fits_0 (l : Launch) (E : En) (c0 s0 : Nat) (l0 : Nat) (l1 : Int32) (l2 : Int32) (l3 : Int32) (m : Mm) (o : Prop) : Mh wI l E mi_X12_fits c0 s0 0 [(0, .ref l0), (1, .int l1), (2, .int l2), (3, .int l3)] [] m o (f_X12_fits_0 l0 l1 l2 l3 m o) := by
  refine Mh_aload_n 0 rfl dX12_fits_0 ?_
  refine Mh_iconst (v := 0) dX12_fits_1 (by decide) ?_
  refine Mh_cvU (N := mi_X12_setsAside) (q := l0) (ci := 11) (as := [.int (0 : Int32)]) (st := []) (id) cg_yX12_setsAside (by decide) rfl rfl ml_RX12_411 iv_yX12_setsAside pd_yX12_setsAside rfl (by decide) (Nat.le_of_ble_eq_true rfl) rfl dX12_fits_2 (T_X12_setsAside l E _ _ _ _) rfl ?_
  exact t_X12_fits_5 l E c0 s0 _ _ _ _ _ _
def F_X12_fits (a0 : Nat) (a1 : Int32) (a2 : Int32) (a3 : Int32) (m : Mm) (o : Prop) : Int32 × Mm × Prop := f_X12_fits_0 a0 a1 a2 a3 m o
theorem T_X12_fits (l : Launch) (E : En) (a0 : Nat) (a1 : Int32) (a2 : Int32) (a3 : Int32) (m : Mm) (o : Prop) : Mt wI l E yX12_fits mi_X12_fits [.ref a0, .int a1, .int a2, .int a3] m o (F_X12_fits a0 a1 a2 a3 m o) :=
  Mt_I (by decide) rfl rfl rfl (Nat.le_of_ble_eq_true rfl) rfl (.inr (.inl rfl)) (t_X12_fits_0 l E _ _ _ _ _ _ _ _)
def f_X12_byteAt_0 (l0 : Nat) (l1 : Int32) (m : Mm) (o : Prop) : Int32 × Mm × Prop := ((gI m (gR m l0 0) (ix l1)) &&& (255 : Int32), m, ((o ∧ (gT m l0 = 12 ∧ gR m l0 0 ≠ 0)) ∧ (gT m (gR m l0 0) = 23 ∧ vp_in l1 (gN m (gR m l0 0)))))
set_option maxRecDepth 10000 in
theorem t_X12_byteAt_0 (l : Launch) (E : En) (c0 s0 : Nat) (l0 : Nat) (l1 : Int32) (m : Mm) (o : Prop) : Mh wI l E mi_X12_byteAt c0 s0 0 [(0, .ref l0), (1, .int l1)] [] m o (f_X12_byteAt_0 l0 l1 m o) := by
  refine Mh_aload_n 0 rfl dX12_byteAt_0 ?_
  refine Mh_gR fd_11_0 fl_RX12_7 dX12_byteAt_1 ?_
  refine Mh_iload_n 1 rfl dX12_byteAt_4 ?_
  refine Mh_bal dX12_byteAt_5 ?_
  refine Mh_sipush (v := 255) dX12_byteAt_6 (by decide) ?_
  refine Mh_iand dX12_byteAt_9 ?_
  exact Mh_ret dX12_byteAt_10 rfl (fun _ => rfl) rfl
def F_X12_byteAt (a0 : Nat) (a1 : Int32) (m : Mm) (o : Prop) : Int32 × Mm × Prop := f_X12_byteAt_0 a0 a1 m o
theorem T_X12_byteAt (l : Launch) (E : En) (a0 : Nat) (a1 : Int32) (m : Mm) (o : Prop) : Mt wI l E yX12_byteAt mi_X12_byteAt [.ref a0, .int a1] m o (F_X12_byteAt a0 a1 m o) :=
  Mt_I (by decide) rfl rfl rfl (Nat.le_of_ble_eq_true rfl) rfl (.inl rfl) (t_X12_byteAt_0 l E _ _ _ _ _ _)
def f_X12_takesWords_127 (k4 : Nat → Int32 → Int32 → Int32 → Mm → Prop → Int32 × Mm × Prop) (l0 : Nat) (l1 : Int32) (l3 : Int32) (y0 : Int32) (m : Mm) (o : Prop) : Int32 × Mm × Prop := k4 l0 l1 y0 (l3 + 1) m o
set_option maxRecDepth 10000 in
theorem t_X12_takesWords_127 (l : Launch) (E : En) (c0 s0 : Nat) (k4 : Nat → Int32 → Int32 → Int32 → Mm → Prop → Int32 × Mm × Prop) (hk4 : ∀ (l0 : Nat) (l1 : Int32) (l2 : Int32) (l3 : Int32) (m : Mm) (o : Prop), Mh wI l E mi_X12_takesWords c0 s0 4 [(0, .ref l0), (1, .int l1), (2, .int l2), (3, .int l3)] [] m o (k4 l0 l1 l2 l3 m o)) (l0 : Nat) (l1 : Int32) (l3 : Int32) (y0 : Int32) (m : Mm) (o : Prop) : Mh wI l E mi_X12_takesWords c0 s0 127 [(0, .ref l0), (1, .int l1), (3, .int l3)] [.int y0] m o (f_X12_takesWords_127 k4 l0 l1 l3 y0 m o) := by
  refine Mh_istore_n (lv' := [(2, .int y0), (0, .ref l0), (1, .int l1), (3, .int l3)]) dX12_takesWords_127 (Nat.le_of_ble_eq_true rfl) rfl ?_
  refine Mh_iinc (v := l3 + 1) (lv' := [(3, .int (l3 + 1)), (2, .int y0), (0, .ref l0), (1, .int l1)]) 3 dX12_takesWords_128 rfl rfl (Nat.le_of_ble_eq_true rfl) rfl ?_
  refine Mh_goto (tgt := 4) dX12_takesWords_131 (by decide) ?_
  refine Mh_sub (lv' := [(0, .ref l0), (1, .int l1), (2, .int y0), (3, .int (l3 + 1))]) [2, 3, 1, 0] rfl ?_
  exact hk4 _ _ _ _ _ _
def f_X12_takesWords_126 (k4 : Nat → Int32 → Int32 → Int32 → Mm → Prop → Int32 × Mm × Prop) (l0 : Nat) (l1 : Int32) (l3 : Int32) (m : Mm) (o : Prop) : Int32 × Mm × Prop := f_X12_takesWords_127 k4 l0 l1 l3 (0 : Int32) m o
set_option maxRecDepth 10000 in
theorem t_X12_takesWords_126 (l : Launch) (E : En) (c0 s0 : Nat) (k4 : Nat → Int32 → Int32 → Int32 → Mm → Prop → Int32 × Mm × Prop) (hk4 : ∀ (l0 : Nat) (l1 : Int32) (l2 : Int32) (l3 : Int32) (m : Mm) (o : Prop), Mh wI l E mi_X12_takesWords c0 s0 4 [(0, .ref l0), (1, .int l1), (2, .int l2), (3, .int l3)] [] m o (k4 l0 l1 l2 l3 m o)) (l0 : Nat) (l1 : Int32) (l3 : Int32) (m : Mm) (o : Prop) : Mh wI l E mi_X12_takesWords c0 s0 126 [(0, .ref l0), (1, .int l1), (3, .int l3)] [] m o (f_X12_takesWords_126 k4 l0 l1 l3 m o) := by
  refine Mh_iconst (v := 0) dX12_takesWords_126 (by decide) ?_
  exact t_X12_takesWords_127 l E c0 s0 k4 hk4 _ _ _ _ _ _
def f_X12_takesWords_111 (k4 : Nat → Int32 → Int32 → Int32 → Mm → Prop → Int32 × Mm × Prop) (l0 : Nat) (l1 : Int32) (l3 : Int32) (m : Mm) (o : Prop) : Int32 × Mm × Prop := if (10 : Int32) ≤ (gI m (gR m l0 76) (ix l3)) then (f_X12_takesWords_126 k4 l0 l1 l3 m ((o ∧ (gT m l0 = 12 ∧ gR m l0 76 ≠ 0)) ∧ (gT m (gR m l0 76) = 20 ∧ vp_in l3 (gN m (gR m l0 76))))) else (f_X12_takesWords_127 k4 l0 l1 l3 (1 : Int32) m ((o ∧ (gT m l0 = 12 ∧ gR m l0 76 ≠ 0)) ∧ (gT m (gR m l0 76) = 20 ∧ vp_in l3 (gN m (gR m l0 76)))))
set_option maxRecDepth 10000 in
theorem t_X12_takesWords_111 (l : Launch) (E : En) (c0 s0 : Nat) (k4 : Nat → Int32 → Int32 → Int32 → Mm → Prop → Int32 × Mm × Prop) (hk4 : ∀ (l0 : Nat) (l1 : Int32) (l2 : Int32) (l3 : Int32) (m : Mm) (o : Prop), Mh wI l E mi_X12_takesWords c0 s0 4 [(0, .ref l0), (1, .int l1), (2, .int l2), (3, .int l3)] [] m o (k4 l0 l1 l2 l3 m o)) (l0 : Nat) (l1 : Int32) (l3 : Int32) (m : Mm) (o : Prop) : Mh wI l E mi_X12_takesWords c0 s0 111 [(0, .ref l0), (1, .int l1), (3, .int l3)] [] m o (f_X12_takesWords_111 k4 l0 l1 l3 m o) := by
  refine Mh_aload_n 0 rfl dX12_takesWords_111 ?_
  refine Mh_gR fd_11_76 fl_RX12_183 dX12_takesWords_112 ?_
  refine Mh_iload_n 2 rfl dX12_takesWords_115 ?_
  refine Mh_ial dX12_takesWords_116 ?_
  refine Mh_bipush (v := 10) dX12_takesWords_117 (by decide) ?_
  refine Mh_icmp_ge (tgt := 126) dX12_takesWords_119 (by decide) rfl (fun _ => ?_) (fun _ => ?_)
  · exact t_X12_takesWords_126 l E c0 s0 k4 hk4 _ _ _ _ _
  · refine Mh_iconst (v := 1) dX12_takesWords_122 (by decide) ?_
    refine Mh_goto (tgt := 127) dX12_takesWords_123 (by decide) ?_
    exact t_X12_takesWords_127 l E c0 s0 k4 hk4 _ _ _ _ _ _
def f_X12_takesWords_108 (k4 : Nat → Int32 → Int32 → Int32 → Mm → Prop → Int32 × Mm × Prop) (l0 : Nat) (l1 : Int32) (l3 : Int32) (y0 : Int32) (m : Mm) (o : Prop) : Int32 × Mm × Prop := if y0 = 0 then (f_X12_takesWords_126 k4 l0 l1 l3 m o) else (f_X12_takesWords_111 k4 l0 l1 l3 m o)
set_option maxRecDepth 10000 in
theorem t_X12_takesWords_108 (l : Launch) (E : En) (c0 s0 : Nat) (k4 : Nat → Int32 → Int32 → Int32 → Mm → Prop → Int32 × Mm × Prop) (hk4 : ∀ (l0 : Nat) (l1 : Int32) (l2 : Int32) (l3 : Int32) (m : Mm) (o : Prop), Mh wI l E mi_X12_takesWords c0 s0 4 [(0, .ref l0), (1, .int l1), (2, .int l2), (3, .int l3)] [] m o (k4 l0 l1 l2 l3 m o)) (l0 : Nat) (l1 : Int32) (l3 : Int32) (y0 : Int32) (m : Mm) (o : Prop) : Mh wI l E mi_X12_takesWords c0 s0 108 [(0, .ref l0), (1, .int l1), (3, .int l3)] [.int y0] m o (f_X12_takesWords_108 k4 l0 l1 l3 y0 m o) := by
  refine Mh_if_eq (tgt := 126) dX12_takesWords_108 (by decide) rfl (fun _ => ?_) (fun _ => ?_)
  · exact t_X12_takesWords_126 l E c0 s0 k4 hk4 _ _ _ _ _
  · exact t_X12_takesWords_111 l E c0 s0 k4 hk4 _ _ _ _ _
def f_X12_takesWords_85 (k4 : Nat → Int32 → Int32 → Int32 → Mm → Prop → Int32 × Mm × Prop) (l0 : Nat) (l1 : Int32) (l3 : Int32) (y0 : Int32) (m : Mm) (o : Prop) : Int32 × Mm × Prop := if y0 = 0 then (f_X12_takesWords_126 k4 l0 l1 l3 m o) else (if (gI m (gR m l0 75) (ix l3)) = (-1 : Int32) then (f_X12_takesWords_111 k4 l0 l1 l3 m ((o ∧ (gT m l0 = 12 ∧ gR m l0 75 ≠ 0)) ∧ (gT m (gR m l0 75) = 20 ∧ vp_in l3 (gN m (gR m l0 75))))) else (bnd (F_X12_isStack l0 (gI m (gR m l0 75) (ix l3)) m (((o ∧ (gT m l0 = 12 ∧ gR m l0 75 ≠ 0)) ∧ (gT m (gR m l0 75) = 20 ∧ vp_in l3 (gN m (gR m l0 75)))) ∧ gT m l0 = 12)) (fun v1 m1 o1 => f_X12_takesWords_108 k4 l0 l1 l3 v1 m1 o1)))
set_option maxRecDepth 10000 in
theorem t_X12_takesWords_85 (l : Launch) (E : En) (c0 s0 : Nat) (k4 : Nat → Int32 → Int32 → Int32 → Mm → Prop → Int32 × Mm × Prop) (hk4 : ∀ (l0 : Nat) (l1 : Int32) (l2 : Int32) (l3 : Int32) (m : Mm) (o : Prop), Mh wI l E mi_X12_takesWords c0 s0 4 [(0, .ref l0), (1, .int l1), (2, .int l2), (3, .int l3)] [] m o (k4 l0 l1 l2 l3 m o)) (l0 : Nat) (l1 : Int32) (l3 : Int32) (y0 : Int32) (m : Mm) (o : Prop) : Mh wI l E mi_X12_takesWords c0 s0 85 [(0, .ref l0), (1, .int l1), (3, .int l3)] [.int y0] m o (f_X12_takesWords_85 k4 l0 l1 l3 y0 m o) := by
  refine Mh_if_eq (tgt := 126) dX12_takesWords_85 (by decide) rfl (fun _ => ?_) (fun _ => ?_)
  · exact t_X12_takesWords_126 l E c0 s0 k4 hk4 _ _ _ _ _
  · refine Mh_aload_n 0 rfl dX12_takesWords_88 ?_
    refine Mh_gR fd_11_75 fl_RX12_180 dX12_takesWords_89 ?_
    refine Mh_iload_n 2 rfl dX12_takesWords_92 ?_
    refine Mh_ial dX12_takesWords_93 ?_
    refine Mh_iconst (v := (-1)) dX12_takesWords_94 (by decide) ?_
    refine Mh_icmp_eq (tgt := 111) dX12_takesWords_95 (by decide) rfl (fun _ => ?_) (fun _ => ?_)
    · exact t_X12_takesWords_111 l E c0 s0 k4 hk4 _ _ _ _ _
    · refine Mh_aload_n 0 rfl dX12_takesWords_98 ?_
      refine Mh_aload_n 0 rfl dX12_takesWords_99 ?_
      refine Mh_gR fd_11_75 fl_RX12_180 dX12_takesWords_100 ?_
      refine Mh_ok (fun h => h.1.2) ?_
      refine Mh_iload_n 2 rfl dX12_takesWords_103 ?_
      refine Mh_ial dX12_takesWords_104 ?_
      refine Mh_ok (fun h => h.2) ?_
      refine Mh_cvI (N := mi_X12_isStack) (q := l0) (ci := 11) (as := [.int (gI m (gR m l0 75) (ix l3))]) (st := []) (id) cg_yX12_isStack (by decide) rfl rfl ml_RX12_195 iv_yX12_isStack pd_yX12_isStack rfl (by decide) (Nat.le_of_ble_eq_true rfl) rfl dX12_takesWords_105 (T_X12_isStack l E _ _ _ _) rfl ?_
      exact t_X12_takesWords_108 l E c0 s0 k4 hk4 _ _ _ _ _ _
def f_X12_takesWords_71 (k4 : Nat → Int32 → Int32 → Int32 → Mm → Prop → Int32 × Mm × Prop) (l0 : Nat) (l1 : Int32) (l2 : Int32) (l3 : Int32) (m : Mm) (o : Prop) : Int32 × Mm × Prop := if l2 = 0 then (f_X12_takesWords_126 k4 l0 l1 l3 m o) else (bnd (F_X12_isCow l0 (gI m (gR m l0 74) (ix l3)) m (((o ∧ (gT m l0 = 12 ∧ gR m l0 74 ≠ 0)) ∧ (gT m (gR m l0 74) = 20 ∧ vp_in l3 (gN m (gR m l0 74)))) ∧ gT m l0 = 12)) (fun v1 m1 o1 => f_X12_takesWords_85 k4 l0 l1 l3 v1 m1 o1))
set_option maxRecDepth 10000 in
theorem t_X12_takesWords_71 (l : Launch) (E : En) (c0 s0 : Nat) (k4 : Nat → Int32 → Int32 → Int32 → Mm → Prop → Int32 × Mm × Prop) (hk4 : ∀ (l0 : Nat) (l1 : Int32) (l2 : Int32) (l3 : Int32) (m : Mm) (o : Prop), Mh wI l E mi_X12_takesWords c0 s0 4 [(0, .ref l0), (1, .int l1), (2, .int l2), (3, .int l3)] [] m o (k4 l0 l1 l2 l3 m o)) (l0 : Nat) (l1 : Int32) (l2 : Int32) (l3 : Int32) (m : Mm) (o : Prop) : Mh wI l E mi_X12_takesWords c0 s0 71 [(0, .ref l0), (1, .int l1), (2, .int l2), (3, .int l3)] [] m o (f_X12_takesWords_71 k4 l0 l1 l2 l3 m o) := by
  refine Mh_iload_n 2 rfl dX12_takesWords_71 ?_
  refine Mh_if_eq (tgt := 126) dX12_takesWords_72 (by decide) rfl (fun _ => ?_) (fun _ => ?_)
  · refine Mh_sub (lv' := [(0, .ref l0), (1, .int l1), (3, .int l3)]) [0, 1, 3] rfl ?_
    exact t_X12_takesWords_126 l E c0 s0 k4 hk4 _ _ _ _ _
  · refine Mh_aload_n 0 rfl dX12_takesWords_75 ?_
    refine Mh_aload_n 0 rfl dX12_takesWords_76 ?_
    refine Mh_gR fd_11_74 fl_RX12_177 dX12_takesWords_77 ?_
    refine Mh_iload_n 3 rfl dX12_takesWords_80 ?_
    refine Mh_ial dX12_takesWords_81 ?_
    refine Mh_cvI (N := mi_X12_isCow) (q := l0) (ci := 11) (as := [.int (gI m (gR m l0 74) (ix l3))]) (st := []) (id) cg_yX12_isCow (by decide) rfl rfl ml_RX12_217 iv_yX12_isCow pd_yX12_isCow rfl (by decide) (Nat.le_of_ble_eq_true rfl) rfl dX12_takesWords_82 (T_X12_isCow l E _ _ _ _) rfl ?_
    refine Mh_sub (lv' := [(0, .ref l0), (1, .int l1), (3, .int l3)]) [0, 1, 3] rfl ?_
    exact t_X12_takesWords_85 l E c0 s0 k4 hk4 _ _ _ _ _ _
def f_X12_takesWords_70 (k4 : Nat → Int32 → Int32 → Int32 → Mm → Prop → Int32 × Mm × Prop) (l0 : Nat) (l1 : Int32) (l2 : Int32) (l3 : Int32) (y2 : Int32) (y1 : Int32) (y0 : Nat) (m : Mm) (o : Prop) : Int32 × Mm × Prop := f_X12_takesWords_71 k4 l0 l1 l2 l3 (sI m y0 (ix y1) y2) (o ∧ (gT m y0 = 20 ∧ vp_in y1 (gN m y0)))
set_option maxRecDepth 10000 in
theorem t_X12_takesWords_70 (l : Launch) (E : En) (c0 s0 : Nat) (k4 : Nat → Int32 → Int32 → Int32 → Mm → Prop → Int32 × Mm × Prop) (hk4 : ∀ (l0 : Nat) (l1 : Int32) (l2 : Int32) (l3 : Int32) (m : Mm) (o : Prop), Mh wI l E mi_X12_takesWords c0 s0 4 [(0, .ref l0), (1, .int l1), (2, .int l2), (3, .int l3)] [] m o (k4 l0 l1 l2 l3 m o)) (l0 : Nat) (l1 : Int32) (l2 : Int32) (l3 : Int32) (y2 : Int32) (y1 : Int32) (y0 : Nat) (m : Mm) (o : Prop) : Mh wI l E mi_X12_takesWords c0 s0 70 [(0, .ref l0), (1, .int l1), (2, .int l2), (3, .int l3)] [.int y2, .int y1, .ref y0] m o (f_X12_takesWords_70 k4 l0 l1 l2 l3 y2 y1 y0 m o) := by
  refine Mh_ias dX12_takesWords_70 ?_
  exact t_X12_takesWords_71 l E c0 s0 k4 hk4 _ _ _ _ _ _
def f_X12_takesWords_56 (k4 : Nat → Int32 → Int32 → Int32 → Mm → Prop → Int32 × Mm × Prop) (l0 : Nat) (l1 : Int32) (l2 : Int32) (l3 : Int32) (m : Mm) (o : Prop) : Int32 × Mm × Prop := bnd (F_X12_byteAt l0 (((3 : Int32) * l3) + (2 : Int32)) m ((o ∧ (gT m l0 = 12 ∧ gR m l0 76 ≠ 0)) ∧ gT m l0 = 12)) (fun v1 m1 o1 => f_X12_takesWords_70 k4 l0 l1 l2 l3 v1 l3 (gR m l0 76) m1 o1)
set_option maxRecDepth 10000 in
theorem t_X12_takesWords_56 (l : Launch) (E : En) (c0 s0 : Nat) (k4 : Nat → Int32 → Int32 → Int32 → Mm → Prop → Int32 × Mm × Prop) (hk4 : ∀ (l0 : Nat) (l1 : Int32) (l2 : Int32) (l3 : Int32) (m : Mm) (o : Prop), Mh wI l E mi_X12_takesWords c0 s0 4 [(0, .ref l0), (1, .int l1), (2, .int l2), (3, .int l3)] [] m o (k4 l0 l1 l2 l3 m o)) (l0 : Nat) (l1 : Int32) (l2 : Int32) (l3 : Int32) (m : Mm) (o : Prop) : Mh wI l E mi_X12_takesWords c0 s0 56 [(0, .ref l0), (1, .int l1), (2, .int l2), (3, .int l3)] [] m o (f_X12_takesWords_56 k4 l0 l1 l2 l3 m o) := by
  refine Mh_aload_n 0 rfl dX12_takesWords_56 ?_
  refine Mh_gR fd_11_76 fl_RX12_183 dX12_takesWords_57 ?_
  refine Mh_iload_n 3 rfl dX12_takesWords_60 ?_
  refine Mh_aload_n 0 rfl dX12_takesWords_61 ?_
  refine Mh_iconst (v := 3) dX12_takesWords_62 (by decide) ?_
  refine Mh_iload_n 3 rfl dX12_takesWords_63 ?_
  refine Mh_imul dX12_takesWords_64 ?_
  refine Mh_iconst (v := 2) dX12_takesWords_65 (by decide) ?_
  refine Mh_iadd dX12_takesWords_66 ?_
  refine Mh_cvI (N := mi_X12_byteAt) (q := l0) (ci := 11) (as := [.int (((3 : Int32) * l3) + (2 : Int32))]) (st := [.int l3, .ref (gR m l0 76)]) (id) cg_yX12_byteAt (by decide) rfl rfl ml_RX12_472 iv_yX12_byteAt pd_yX12_byteAt rfl (by decide) (Nat.le_of_ble_eq_true rfl) rfl dX12_takesWords_67 (T_X12_byteAt l E _ _ _ _) rfl ?_
  exact t_X12_takesWords_70 l E c0 s0 k4 hk4 _ _ _ _ _ _ _ _ _
def f_X12_takesWords_55 (k4 : Nat → Int32 → Int32 → Int32 → Mm → Prop → Int32 × Mm × Prop) (l0 : Nat) (l1 : Int32) (l2 : Int32) (l3 : Int32) (y2 : Int32) (y1 : Int32) (y0 : Nat) (m : Mm) (o : Prop) : Int32 × Mm × Prop := f_X12_takesWords_56 k4 l0 l1 l2 l3 (sI m y0 (ix y1) y2) (o ∧ (gT m y0 = 20 ∧ vp_in y1 (gN m y0)))
set_option maxRecDepth 10000 in
theorem t_X12_takesWords_55 (l : Launch) (E : En) (c0 s0 : Nat) (k4 : Nat → Int32 → Int32 → Int32 → Mm → Prop → Int32 × Mm × Prop) (hk4 : ∀ (l0 : Nat) (l1 : Int32) (l2 : Int32) (l3 : Int32) (m : Mm) (o : Prop), Mh wI l E mi_X12_takesWords c0 s0 4 [(0, .ref l0), (1, .int l1), (2, .int l2), (3, .int l3)] [] m o (k4 l0 l1 l2 l3 m o)) (l0 : Nat) (l1 : Int32) (l2 : Int32) (l3 : Int32) (y2 : Int32) (y1 : Int32) (y0 : Nat) (m : Mm) (o : Prop) : Mh wI l E mi_X12_takesWords c0 s0 55 [(0, .ref l0), (1, .int l1), (2, .int l2), (3, .int l3)] [.int y2, .int y1, .ref y0] m o (f_X12_takesWords_55 k4 l0 l1 l2 l3 y2 y1 y0 m o) := by
  refine Mh_ias dX12_takesWords_55 ?_
  exact t_X12_takesWords_56 l E c0 s0 k4 hk4 _ _ _ _ _ _
def f_X12_takesWords_36 (k4 : Nat → Int32 → Int32 → Int32 → Mm → Prop → Int32 × Mm × Prop) (l0 : Nat) (l1 : Int32) (l2 : Int32) (l3 : Int32) (y2 : Int32) (y1 : Int32) (y0 : Nat) (m : Mm) (o : Prop) : Int32 × Mm × Prop := if y2 = (255 : Int32) then (f_X12_takesWords_55 k4 l0 l1 l2 l3 (-1 : Int32) y1 y0 m o) else (bnd (F_X12_byteAt l0 (((3 : Int32) * l3) + (1 : Int32)) m (o ∧ gT m l0 = 12)) (fun v1 m1 o1 => f_X12_takesWords_55 k4 l0 l1 l2 l3 v1 y1 y0 m1 o1))
set_option maxRecDepth 10000 in
theorem t_X12_takesWords_36 (l : Launch) (E : En) (c0 s0 : Nat) (k4 : Nat → Int32 → Int32 → Int32 → Mm → Prop → Int32 × Mm × Prop) (hk4 : ∀ (l0 : Nat) (l1 : Int32) (l2 : Int32) (l3 : Int32) (m : Mm) (o : Prop), Mh wI l E mi_X12_takesWords c0 s0 4 [(0, .ref l0), (1, .int l1), (2, .int l2), (3, .int l3)] [] m o (k4 l0 l1 l2 l3 m o)) (l0 : Nat) (l1 : Int32) (l2 : Int32) (l3 : Int32) (y2 : Int32) (y1 : Int32) (y0 : Nat) (m : Mm) (o : Prop) : Mh wI l E mi_X12_takesWords c0 s0 36 [(0, .ref l0), (1, .int l1), (2, .int l2), (3, .int l3)] [.int y2, .int y1, .ref y0] m o (f_X12_takesWords_36 k4 l0 l1 l2 l3 y2 y1 y0 m o) := by
  refine Mh_sipush (v := 255) dX12_takesWords_36 (by decide) ?_
  refine Mh_icmp_ne (tgt := 46) dX12_takesWords_39 (by decide) rfl (fun _ => ?_) (fun _ => ?_)
  · refine Mh_aload_n 0 rfl dX12_takesWords_46 ?_
    refine Mh_iconst (v := 3) dX12_takesWords_47 (by decide) ?_
    refine Mh_iload_n 3 rfl dX12_takesWords_48 ?_
    refine Mh_imul dX12_takesWords_49 ?_
    refine Mh_iconst (v := 1) dX12_takesWords_50 (by decide) ?_
    refine Mh_iadd dX12_takesWords_51 ?_
    refine Mh_cvI (N := mi_X12_byteAt) (q := l0) (ci := 11) (as := [.int (((3 : Int32) * l3) + (1 : Int32))]) (st := [.int y1, .ref y0]) (id) cg_yX12_byteAt (by decide) rfl rfl ml_RX12_472 iv_yX12_byteAt pd_yX12_byteAt rfl (by decide) (Nat.le_of_ble_eq_true rfl) rfl dX12_takesWords_52 (T_X12_byteAt l E _ _ _ _) rfl ?_
    exact t_X12_takesWords_55 l E c0 s0 k4 hk4 _ _ _ _ _ _ _ _ _
  · refine Mh_iconst (v := (-1)) dX12_takesWords_42 (by decide) ?_
    refine Mh_goto (tgt := 55) dX12_takesWords_43 (by decide) ?_
    exact t_X12_takesWords_55 l E c0 s0 k4 hk4 _ _ _ _ _ _ _ _ _
def f_X12_takesWords_22 (k4 : Nat → Int32 → Int32 → Int32 → Mm → Prop → Int32 × Mm × Prop) (l0 : Nat) (l1 : Int32) (l2 : Int32) (l3 : Int32) (m : Mm) (o : Prop) : Int32 × Mm × Prop := bnd (F_X12_byteAt l0 (((3 : Int32) * l3) + (1 : Int32)) m ((o ∧ (gT m l0 = 12 ∧ gR m l0 75 ≠ 0)) ∧ gT m l0 = 12)) (fun v1 m1 o1 => f_X12_takesWords_36 k4 l0 l1 l2 l3 v1 l3 (gR m l0 75) m1 o1)
set_option maxRecDepth 10000 in
theorem t_X12_takesWords_22 (l : Launch) (E : En) (c0 s0 : Nat) (k4 : Nat → Int32 → Int32 → Int32 → Mm → Prop → Int32 × Mm × Prop) (hk4 : ∀ (l0 : Nat) (l1 : Int32) (l2 : Int32) (l3 : Int32) (m : Mm) (o : Prop), Mh wI l E mi_X12_takesWords c0 s0 4 [(0, .ref l0), (1, .int l1), (2, .int l2), (3, .int l3)] [] m o (k4 l0 l1 l2 l3 m o)) (l0 : Nat) (l1 : Int32) (l2 : Int32) (l3 : Int32) (m : Mm) (o : Prop) : Mh wI l E mi_X12_takesWords c0 s0 22 [(0, .ref l0), (1, .int l1), (2, .int l2), (3, .int l3)] [] m o (f_X12_takesWords_22 k4 l0 l1 l2 l3 m o) := by
  refine Mh_aload_n 0 rfl dX12_takesWords_22 ?_
  refine Mh_gR fd_11_75 fl_RX12_180 dX12_takesWords_23 ?_
  refine Mh_iload_n 3 rfl dX12_takesWords_26 ?_
  refine Mh_aload_n 0 rfl dX12_takesWords_27 ?_
  refine Mh_iconst (v := 3) dX12_takesWords_28 (by decide) ?_
  refine Mh_iload_n 3 rfl dX12_takesWords_29 ?_
  refine Mh_imul dX12_takesWords_30 ?_
  refine Mh_iconst (v := 1) dX12_takesWords_31 (by decide) ?_
  refine Mh_iadd dX12_takesWords_32 ?_
  refine Mh_cvI (N := mi_X12_byteAt) (q := l0) (ci := 11) (as := [.int (((3 : Int32) * l3) + (1 : Int32))]) (st := [.int l3, .ref (gR m l0 75)]) (id) cg_yX12_byteAt (by decide) rfl rfl ml_RX12_472 iv_yX12_byteAt pd_yX12_byteAt rfl (by decide) (Nat.le_of_ble_eq_true rfl) rfl dX12_takesWords_33 (T_X12_byteAt l E _ _ _ _) rfl ?_
  exact t_X12_takesWords_36 l E c0 s0 k4 hk4 _ _ _ _ _ _ _ _ _
def f_X12_takesWords_21 (k4 : Nat → Int32 → Int32 → Int32 → Mm → Prop → Int32 × Mm × Prop) (l0 : Nat) (l1 : Int32) (l2 : Int32) (l3 : Int32) (y2 : Int32) (y1 : Int32) (y0 : Nat) (m : Mm) (o : Prop) : Int32 × Mm × Prop := f_X12_takesWords_22 k4 l0 l1 l2 l3 (sI m y0 (ix y1) y2) (o ∧ (gT m y0 = 20 ∧ vp_in y1 (gN m y0)))
set_option maxRecDepth 10000 in
theorem t_X12_takesWords_21 (l : Launch) (E : En) (c0 s0 : Nat) (k4 : Nat → Int32 → Int32 → Int32 → Mm → Prop → Int32 × Mm × Prop) (hk4 : ∀ (l0 : Nat) (l1 : Int32) (l2 : Int32) (l3 : Int32) (m : Mm) (o : Prop), Mh wI l E mi_X12_takesWords c0 s0 4 [(0, .ref l0), (1, .int l1), (2, .int l2), (3, .int l3)] [] m o (k4 l0 l1 l2 l3 m o)) (l0 : Nat) (l1 : Int32) (l2 : Int32) (l3 : Int32) (y2 : Int32) (y1 : Int32) (y0 : Nat) (m : Mm) (o : Prop) : Mh wI l E mi_X12_takesWords c0 s0 21 [(0, .ref l0), (1, .int l1), (2, .int l2), (3, .int l3)] [.int y2, .int y1, .ref y0] m o (f_X12_takesWords_21 k4 l0 l1 l2 l3 y2 y1 y0 m o) := by
  refine Mh_ias dX12_takesWords_21 ?_
  exact t_X12_takesWords_22 l E c0 s0 k4 hk4 _ _ _ _ _ _
def f_X12_takesWords_4b (k4 : Nat → Int32 → Int32 → Int32 → Mm → Prop → Int32 × Mm × Prop) (l0 : Nat) (l1 : Int32) (l2 : Int32) (l3 : Int32) (m : Mm) (o : Prop) : Int32 × Mm × Prop := if l1 ≤ l3 then (l2, m, o ∧ (l2 = 0 ∨ l2 = 1)) else (bnd (F_X12_byteAt l0 ((3 : Int32) * l3) m ((o ∧ (gT m l0 = 12 ∧ gR m l0 74 ≠ 0)) ∧ gT m l0 = 12)) (fun v1 m1 o1 => f_X12_takesWords_21 k4 l0 l1 l2 l3 v1 l3 (gR m l0 74) m1 o1))
set_option maxRecDepth 10000 in
theorem t_X12_takesWords_4b (l : Launch) (E : En) (c0 s0 : Nat) (k4 : Nat → Int32 → Int32 → Int32 → Mm → Prop → Int32 × Mm × Prop) (hk4 : ∀ (l0 : Nat) (l1 : Int32) (l2 : Int32) (l3 : Int32) (m : Mm) (o : Prop), Mh wI l E mi_X12_takesWords c0 s0 4 [(0, .ref l0), (1, .int l1), (2, .int l2), (3, .int l3)] [] m o (k4 l0 l1 l2 l3 m o)) (l0 : Nat) (l1 : Int32) (l2 : Int32) (l3 : Int32) (m : Mm) (o : Prop) : Mh wI l E mi_X12_takesWords c0 s0 4 [(0, .ref l0), (1, .int l1), (2, .int l2), (3, .int l3)] [] m o (f_X12_takesWords_4b k4 l0 l1 l2 l3 m o) := by
  refine Mh_iload_n 3 rfl dX12_takesWords_4 ?_
  refine Mh_iload_n 1 rfl dX12_takesWords_5 ?_
  refine Mh_icmp_ge (tgt := 134) dX12_takesWords_6 (by decide) rfl (fun _ => ?_) (fun _ => ?_)
  · refine Mh_iload_n 2 rfl dX12_takesWords_134 ?_
    exact Mh_retZ dX12_takesWords_135 (.inl rfl) rfl
  · refine Mh_aload_n 0 rfl dX12_takesWords_9 ?_
    refine Mh_gR fd_11_74 fl_RX12_177 dX12_takesWords_10 ?_
    refine Mh_iload_n 3 rfl dX12_takesWords_13 ?_
    refine Mh_aload_n 0 rfl dX12_takesWords_14 ?_
    refine Mh_iconst (v := 3) dX12_takesWords_15 (by decide) ?_
    refine Mh_iload_n 3 rfl dX12_takesWords_16 ?_
    refine Mh_imul dX12_takesWords_17 ?_
    refine Mh_cvI (N := mi_X12_byteAt) (q := l0) (ci := 11) (as := [.int ((3 : Int32) * l3)]) (st := [.int l3, .ref (gR m l0 74)]) (id) cg_yX12_byteAt (by decide) rfl rfl ml_RX12_472 iv_yX12_byteAt pd_yX12_byteAt rfl (by decide) (Nat.le_of_ble_eq_true rfl) rfl dX12_takesWords_18 (T_X12_byteAt l E _ _ _ _) rfl ?_
    exact t_X12_takesWords_21 l E c0 s0 k4 hk4 _ _ _ _ _ _ _ _ _
def f_X12_takesWords_4 : Nat → Nat → Int32 → Int32 → Int32 → Mm → Prop → Int32 × Mm × Prop
  | 0, _, _, _, _, m, _ => (0, m, False)
  | n + 1, l0, l1, l2, l3, m, o => f_X12_takesWords_4b (f_X12_takesWords_4 n) l0 l1 l2 l3 m o
theorem t_X12_takesWords_4 (l : Launch) (E : En) (c0 s0 : Nat) : ∀ (n : Nat) (l0 : Nat) (l1 : Int32) (l2 : Int32) (l3 : Int32) (m : Mm) (o : Prop), Mh wI l E mi_X12_takesWords c0 s0 4 [(0, .ref l0), (1, .int l1), (2, .int l2), (3, .int l3)] [] m o (f_X12_takesWords_4 n l0 l1 l2 l3 m o)
  | 0, _, _, _, _, _, _ => Mh_out rfl
  | n + 1, l0, l1, l2, l3, m, o => t_X12_takesWords_4b l E c0 s0 (f_X12_takesWords_4 n) (t_X12_takesWords_4 l E c0 s0 n) l0 l1 l2 l3 m o
def f_X12_takesWords_0 (l0 : Nat) (l1 : Int32) (m : Mm) (o : Prop) : Int32 × Mm × Prop := f_X12_takesWords_4 1000 l0 l1 (1 : Int32) (0 : Int32) m o
set_option maxRecDepth 10000 in
theorem t_X12_takesWords_0 (l : Launch) (E : En) (c0 s0 : Nat) (l0 : Nat) (l1 : Int32) (m : Mm) (o : Prop) : Mh wI l E mi_X12_takesWords c0 s0 0 [(0, .ref l0), (1, .int l1)] [] m o (f_X12_takesWords_0 l0 l1 m o) := by
  refine Mh_iconst (v := 1) dX12_takesWords_0 (by decide) ?_
  refine Mh_istore_n (lv' := [(2, .int (1 : Int32)), (0, .ref l0), (1, .int l1)]) dX12_takesWords_1 (Nat.le_of_ble_eq_true rfl) rfl ?_
  refine Mh_iconst (v := 0) dX12_takesWords_2 (by decide) ?_
  refine Mh_istore_n (lv' := [(3, .int (0 : Int32)), (2, .int (1 : Int32)), (0, .ref l0), (1, .int l1)]) dX12_takesWords_3 (Nat.le_of_ble_eq_true rfl) rfl ?_
  refine Mh_sub (lv' := [(0, .ref l0), (1, .int l1), (2, .int (1 : Int32)), (3, .int (0 : Int32))]) [2, 3, 1, 0] rfl ?_
  exact t_X12_takesWords_4 l E c0 s0 _ _ _ _ _ _ _
def F_X12_takesWords (a0 : Nat) (a1 : Int32) (m : Mm) (o : Prop) : Int32 × Mm × Prop := f_X12_takesWords_0 a0 a1 m o
theorem T_X12_takesWords (l : Launch) (E : En) (a0 : Nat) (a1 : Int32) (m : Mm) (o : Prop) : Mt wI l E yX12_takesWords mi_X12_takesWords [.ref a0, .int a1] m o (F_X12_takesWords a0 a1 m o) :=
  Mt_I (by decide) rfl rfl rfl (Nat.le_of_ble_eq_true rfl) rfl (.inr (.inl rfl)) (t_X12_takesWords_0 l E _ _ _ _ _ _)
