def f_X0_writeRow_32 (k4 : Nat → Int32 → Int32 → Int32 → Mm → Prop → Int32 × Mm × Prop) (l0 : Nat) (l1 : Int32) (l2 : Int32) (l3 : Int32) (m : Mm) (o : Prop) : Int32 × Mm × Prop := k4 l0 l1 (l2 + (gI m (gR m l0 1) (ix l3))) (l3 + 1) m ((o ∧ (gT m l0 = 1 ∧ gR m l0 1 ≠ 0)) ∧ (gT m (gR m l0 1) = 20 ∧ vp_in l3 (gN m (gR m l0 1))))
set_option maxRecDepth 10000 in
theorem t_X0_writeRow_32 (l : Launch) (E : En) (c0 s0 : Nat) (k4 : Nat → Int32 → Int32 → Int32 → Mm → Prop → Int32 × Mm × Prop) (hk4 : ∀ (l0 : Nat) (l1 : Int32) (l2 : Int32) (l3 : Int32) (m : Mm) (o : Prop), Mh wI l E mi_X0_writeRow c0 s0 4 [(0, .ref l0), (1, .int l1), (2, .int l2), (3, .int l3)] [] m o (k4 l0 l1 l2 l3 m o)) (l0 : Nat) (l1 : Int32) (l2 : Int32) (l3 : Int32) (m : Mm) (o : Prop) : Mh wI l E mi_X0_writeRow c0 s0 32 [(0, .ref l0), (1, .int l1), (2, .int l2), (3, .int l3)] [] m o (f_X0_writeRow_32 k4 l0 l1 l2 l3 m o) := by
  refine Mh_iload_n 2 rfl dX0_writeRow_32 ?_
  refine Mh_aload_n 0 rfl dX0_writeRow_33 ?_
  refine Mh_gR fd_0_1 fl_RX0_15 dX0_writeRow_34 ?_
  refine Mh_iload_n 3 rfl dX0_writeRow_37 ?_
  refine Mh_ial dX0_writeRow_38 ?_
  refine Mh_iadd dX0_writeRow_39 ?_
  refine Mh_istore_n (lv' := [(2, .int (l2 + (gI m (gR m l0 1) (ix l3)))), (0, .ref l0), (1, .int l1), (3, .int l3)]) dX0_writeRow_40 (Nat.le_of_ble_eq_true rfl) rfl ?_
  refine Mh_iinc (v := l3 + 1) (lv' := [(3, .int (l3 + 1)), (2, .int (l2 + (gI m (gR m l0 1) (ix l3)))), (0, .ref l0), (1, .int l1)]) 3 dX0_writeRow_41 rfl rfl (Nat.le_of_ble_eq_true rfl) rfl ?_
  refine Mh_goto (tgt := 4) dX0_writeRow_44 (by decide) ?_
  refine Mh_sub (lv' := [(0, .ref l0), (1, .int l1), (2, .int (l2 + (gI m (gR m l0 1) (ix l3)))), (3, .int (l3 + 1))]) [2, 3, 1, 0] rfl ?_
  exact hk4 _ _ _ _ _ _
def f_X0_writeRow_4b (k4 : Nat → Int32 → Int32 → Int32 → Mm → Prop → Int32 × Mm × Prop) (l0 : Nat) (l1 : Int32) (l2 : Int32) (l3 : Int32) (m : Mm) (o : Prop) : Int32 × Mm × Prop := if (gI m l0 3) ≤ l3 then (l2, m, (o ∧ gT m l0 = 1)) else (f_X0_writeRow_32 k4 l0 l1 l2 l3 (sI m (gR m l0 1) (ix l3) ((l1 >>> (((2 : Int32) * (((gI m l0 3) - (1 : Int32)) - l3)) &&& 31)) &&& (3 : Int32))) (((o ∧ gT m l0 = 1) ∧ (gT m l0 = 1 ∧ gR m l0 1 ≠ 0)) ∧ (gT m (gR m l0 1) = 20 ∧ vp_in l3 (gN m (gR m l0 1)))))
set_option maxRecDepth 10000 in
theorem t_X0_writeRow_4b (l : Launch) (E : En) (c0 s0 : Nat) (k4 : Nat → Int32 → Int32 → Int32 → Mm → Prop → Int32 × Mm × Prop) (hk4 : ∀ (l0 : Nat) (l1 : Int32) (l2 : Int32) (l3 : Int32) (m : Mm) (o : Prop), Mh wI l E mi_X0_writeRow c0 s0 4 [(0, .ref l0), (1, .int l1), (2, .int l2), (3, .int l3)] [] m o (k4 l0 l1 l2 l3 m o)) (l0 : Nat) (l1 : Int32) (l2 : Int32) (l3 : Int32) (m : Mm) (o : Prop) : Mh wI l E mi_X0_writeRow c0 s0 4 [(0, .ref l0), (1, .int l1), (2, .int l2), (3, .int l3)] [] m o (f_X0_writeRow_4b k4 l0 l1 l2 l3 m o) := by
  refine Mh_iload_n 3 rfl dX0_writeRow_4 ?_
  refine Mh_aload_n 0 rfl dX0_writeRow_5 ?_
  refine Mh_gI fd_0_3 fl_RX0_22 dX0_writeRow_6 ?_
  refine Mh_icmp_ge (tgt := 47) dX0_writeRow_9 (by decide) rfl (fun _ => ?_) (fun _ => ?_)
  · refine Mh_iload_n 2 rfl dX0_writeRow_47 ?_
    exact Mh_ret dX0_writeRow_48 rfl (fun _ => rfl) rfl
  · refine Mh_aload_n 0 rfl dX0_writeRow_12 ?_
    refine Mh_gR fd_0_1 fl_RX0_15 dX0_writeRow_13 ?_
    refine Mh_iload_n 3 rfl dX0_writeRow_16 ?_
    refine Mh_iload_n 1 rfl dX0_writeRow_17 ?_
    refine Mh_iconst (v := 2) dX0_writeRow_18 (by decide) ?_
    refine Mh_aload_n 0 rfl dX0_writeRow_19 ?_
    refine Mh_gI fd_0_3 fl_RX0_22 dX0_writeRow_20 ?_
    refine Mh_ok (fun h => h.1.2) ?_
    refine Mh_iconst (v := 1) dX0_writeRow_23 (by decide) ?_
    refine Mh_isub dX0_writeRow_24 ?_
    refine Mh_iload_n 3 rfl dX0_writeRow_25 ?_
    refine Mh_isub dX0_writeRow_26 ?_
    refine Mh_imul dX0_writeRow_27 ?_
    refine Mh_ishr dX0_writeRow_28 ?_
    refine Mh_iconst (v := 3) dX0_writeRow_29 (by decide) ?_
    refine Mh_iand dX0_writeRow_30 ?_
    refine Mh_ias dX0_writeRow_31 ?_
    exact t_X0_writeRow_32 l E c0 s0 k4 hk4 _ _ _ _ _ _
def f_X0_writeRow_4 : Nat → Nat → Int32 → Int32 → Int32 → Mm → Prop → Int32 × Mm × Prop
  | 0, _, _, _, _, m, _ => (0, m, False)
  | n + 1, l0, l1, l2, l3, m, o => f_X0_writeRow_4b (f_X0_writeRow_4 n) l0 l1 l2 l3 m o
theorem t_X0_writeRow_4 (l : Launch) (E : En) (c0 s0 : Nat) : ∀ (n : Nat) (l0 : Nat) (l1 : Int32) (l2 : Int32) (l3 : Int32) (m : Mm) (o : Prop), Mh wI l E mi_X0_writeRow c0 s0 4 [(0, .ref l0), (1, .int l1), (2, .int l2), (3, .int l3)] [] m o (f_X0_writeRow_4 n l0 l1 l2 l3 m o)
  | 0, _, _, _, _, _, _ => Mh_out rfl
  | n + 1, l0, l1, l2, l3, m, o => t_X0_writeRow_4b l E c0 s0 (f_X0_writeRow_4 n) (t_X0_writeRow_4 l E c0 s0 n) l0 l1 l2 l3 m o
def f_X0_writeRow_0 (l0 : Nat) (l1 : Int32) (m : Mm) (o : Prop) : Int32 × Mm × Prop := f_X0_writeRow_4 1000 l0 l1 (0 : Int32) (0 : Int32) m o
set_option maxRecDepth 10000 in
theorem t_X0_writeRow_0 (l : Launch) (E : En) (c0 s0 : Nat) (l0 : Nat) (l1 : Int32) (m : Mm) (o : Prop) : Mh wI l E mi_X0_writeRow c0 s0 0 [(0, .ref l0), (1, .int l1)] [] m o (f_X0_writeRow_0 l0 l1 m o) := by
  refine Mh_iconst (v := 0) dX0_writeRow_0 (by decide) ?_
  refine Mh_istore_n (lv' := [(2, .int (0 : Int32)), (0, .ref l0), (1, .int l1)]) dX0_writeRow_1 (Nat.le_of_ble_eq_true rfl) rfl ?_
  refine Mh_iconst (v := 0) dX0_writeRow_2 (by decide) ?_
  refine Mh_istore_n (lv' := [(3, .int (0 : Int32)), (2, .int (0 : Int32)), (0, .ref l0), (1, .int l1)]) dX0_writeRow_3 (Nat.le_of_ble_eq_true rfl) rfl ?_
  refine Mh_sub (lv' := [(0, .ref l0), (1, .int l1), (2, .int (0 : Int32)), (3, .int (0 : Int32))]) [2, 3, 1, 0] rfl ?_
  exact t_X0_writeRow_4 l E c0 s0 _ _ _ _ _ _ _
def F_X0_writeRow (a0 : Nat) (a1 : Int32) (m : Mm) (o : Prop) : Int32 × Mm × Prop := f_X0_writeRow_0 a0 a1 m o
theorem T_X0_writeRow (l : Launch) (E : En) (a0 : Nat) (a1 : Int32) (m : Mm) (o : Prop) : Mt wI l E yX0_writeRow mi_X0_writeRow [.ref a0, .int a1] m o (F_X0_writeRow a0 a1 m o) :=
  Mt_I (by decide) rfl rfl rfl (Nat.le_of_ble_eq_true rfl) rfl (.inl rfl) (t_X0_writeRow_0 l E _ _ _ _ _ _)
def f_X5_forgetAmounts_16 (k2 : Nat → Int32 → Mm → Prop → Unit × Mm × Prop) (l0 : Nat) (l1 : Int32) (m : Mm) (o : Prop) : Unit × Mm × Prop := k2 l0 (l1 + 1) m o
set_option maxRecDepth 10000 in
theorem t_X5_forgetAmounts_16 (l : Launch) (E : En) (c0 s0 : Nat) (k2 : Nat → Int32 → Mm → Prop → Unit × Mm × Prop) (hk2 : ∀ (l0 : Nat) (l1 : Int32) (m : Mm) (o : Prop), Mh wU l E mi_X5_forgetAmounts c0 s0 2 [(0, .ref l0), (1, .int l1)] [] m o (k2 l0 l1 m o)) (l0 : Nat) (l1 : Int32) (m : Mm) (o : Prop) : Mh wU l E mi_X5_forgetAmounts c0 s0 16 [(0, .ref l0), (1, .int l1)] [] m o (f_X5_forgetAmounts_16 k2 l0 l1 m o) := by
  refine Mh_iinc (v := l1 + 1) (lv' := [(1, .int (l1 + 1)), (0, .ref l0)]) 1 dX5_forgetAmounts_16 rfl rfl (Nat.le_of_ble_eq_true rfl) rfl ?_
  refine Mh_goto (tgt := 2) dX5_forgetAmounts_19 (by decide) ?_
  refine Mh_sub (lv' := [(0, .ref l0), (1, .int (l1 + 1))]) [1, 0] rfl ?_
  exact hk2 _ _ _ _
def f_X5_forgetAmounts_2b (k2 : Nat → Int32 → Mm → Prop → Unit × Mm × Prop) (l0 : Nat) (l1 : Int32) (m : Mm) (o : Prop) : Unit × Mm × Prop := if (192 : Int32) ≤ l1 then ((), m, o) else (f_X5_forgetAmounts_16 k2 l0 l1 (sI m (gR m l0 4) (ix l1) (-1 : Int32)) ((o ∧ (gT m l0 = 6 ∧ gR m l0 4 ≠ 0)) ∧ (gT m (gR m l0 4) = 20 ∧ vp_in l1 (gN m (gR m l0 4)))))
set_option maxRecDepth 10000 in
theorem t_X5_forgetAmounts_2b (l : Launch) (E : En) (c0 s0 : Nat) (k2 : Nat → Int32 → Mm → Prop → Unit × Mm × Prop) (hk2 : ∀ (l0 : Nat) (l1 : Int32) (m : Mm) (o : Prop), Mh wU l E mi_X5_forgetAmounts c0 s0 2 [(0, .ref l0), (1, .int l1)] [] m o (k2 l0 l1 m o)) (l0 : Nat) (l1 : Int32) (m : Mm) (o : Prop) : Mh wU l E mi_X5_forgetAmounts c0 s0 2 [(0, .ref l0), (1, .int l1)] [] m o (f_X5_forgetAmounts_2b k2 l0 l1 m o) := by
  refine Mh_iload_n 1 rfl dX5_forgetAmounts_2 ?_
  refine Mh_sipush (v := 192) dX5_forgetAmounts_3 (by decide) ?_
  refine Mh_icmp_ge (tgt := 22) dX5_forgetAmounts_6 (by decide) rfl (fun _ => ?_) (fun _ => ?_)
  · exact Mh_ret dX5_forgetAmounts_22 rfl (fun _ => trivial) rfl
  · refine Mh_aload_n 0 rfl dX5_forgetAmounts_9 ?_
    refine Mh_gR fd_5_4 fl_RX5_30 dX5_forgetAmounts_10 ?_
    refine Mh_iload_n 1 rfl dX5_forgetAmounts_13 ?_
    refine Mh_iconst (v := (-1)) dX5_forgetAmounts_14 (by decide) ?_
    refine Mh_ias dX5_forgetAmounts_15 ?_
    exact t_X5_forgetAmounts_16 l E c0 s0 k2 hk2 _ _ _ _
def f_X5_forgetAmounts_2 : Nat → Nat → Int32 → Mm → Prop → Unit × Mm × Prop
  | 0, _, _, m, _ => ((), m, False)
  | n + 1, l0, l1, m, o => f_X5_forgetAmounts_2b (f_X5_forgetAmounts_2 n) l0 l1 m o
theorem t_X5_forgetAmounts_2 (l : Launch) (E : En) (c0 s0 : Nat) : ∀ (n : Nat) (l0 : Nat) (l1 : Int32) (m : Mm) (o : Prop), Mh wU l E mi_X5_forgetAmounts c0 s0 2 [(0, .ref l0), (1, .int l1)] [] m o (f_X5_forgetAmounts_2 n l0 l1 m o)
  | 0, _, _, _, _ => Mh_out rfl
  | n + 1, l0, l1, m, o => t_X5_forgetAmounts_2b l E c0 s0 (f_X5_forgetAmounts_2 n) (t_X5_forgetAmounts_2 l E c0 s0 n) l0 l1 m o
def f_X5_forgetAmounts_0 (l0 : Nat) (m : Mm) (o : Prop) : Unit × Mm × Prop := f_X5_forgetAmounts_2 1000 l0 (0 : Int32) m o
set_option maxRecDepth 10000 in
theorem t_X5_forgetAmounts_0 (l : Launch) (E : En) (c0 s0 : Nat) (l0 : Nat) (m : Mm) (o : Prop) : Mh wU l E mi_X5_forgetAmounts c0 s0 0 [(0, .ref l0)] [] m o (f_X5_forgetAmounts_0 l0 m o) := by
  refine Mh_iconst (v := 0) dX5_forgetAmounts_0 (by decide) ?_
  refine Mh_istore_n (lv' := [(1, .int (0 : Int32)), (0, .ref l0)]) dX5_forgetAmounts_1 (Nat.le_of_ble_eq_true rfl) rfl ?_
  refine Mh_sub (lv' := [(0, .ref l0), (1, .int (0 : Int32))]) [1, 0] rfl ?_
  exact t_X5_forgetAmounts_2 l E c0 s0 _ _ _ _ _
def F_X5_forgetAmounts (a0 : Nat) (m : Mm) (o : Prop) : Unit × Mm × Prop := f_X5_forgetAmounts_0 a0 m o
theorem T_X5_forgetAmounts (l : Launch) (E : En) (a0 : Nat) (m : Mm) (o : Prop) : Mt wU l E yX5_forgetAmounts mi_X5_forgetAmounts [.ref a0] m o (F_X5_forgetAmounts a0 m o) :=
  Mt_U (by decide) rfl (fun h => by cases h) rfl (Nat.le_of_ble_eq_true rfl) rfl (t_X5_forgetAmounts_0 l E _ _ _ _ _)
def f_X0_cheapest_67 (k20 : Nat → Nat → Nat → Int32 → Int32 → Int32 → Int32 → Mm → Prop → Int32 × Mm × Prop) (k34 : Nat → Nat → Nat → Int32 → Int32 → Int32 → Int32 → Int32 → Mm → Prop → Int32 × Mm × Prop) (l0 : Nat) (l1 : Nat) (l2 : Nat) (l3 : Int32) (l4 : Int32) (l5 : Int32) (l6 : Int32) (l7 : Int32) (m : Mm) (o : Prop) : Int32 × Mm × Prop := k34 l0 l1 l2 l3 l4 l5 l6 (l7 + 1) m o
set_option maxRecDepth 10000 in
theorem t_X0_cheapest_67 (l : Launch) (E : En) (c0 s0 : Nat) (k20 : Nat → Nat → Nat → Int32 → Int32 → Int32 → Int32 → Mm → Prop → Int32 × Mm × Prop) (hk20 : ∀ (l0 : Nat) (l1 : Nat) (l2 : Nat) (l3 : Int32) (l4 : Int32) (l5 : Int32) (l6 : Int32) (m : Mm) (o : Prop), Mh wI l E mi_X0_cheapest c0 s0 20 [(0, .ref l0), (1, .ref l1), (2, .ref l2), (3, .int l3), (4, .int l4), (5, .int l5), (6, .int l6)] [] m o (k20 l0 l1 l2 l3 l4 l5 l6 m o)) (k34 : Nat → Nat → Nat → Int32 → Int32 → Int32 → Int32 → Int32 → Mm → Prop → Int32 × Mm × Prop) (hk34 : ∀ (l0 : Nat) (l1 : Nat) (l2 : Nat) (l3 : Int32) (l4 : Int32) (l5 : Int32) (l6 : Int32) (l7 : Int32) (m : Mm) (o : Prop), Mh wI l E mi_X0_cheapest c0 s0 34 [(0, .ref l0), (1, .ref l1), (2, .ref l2), (3, .int l3), (4, .int l4), (5, .int l5), (6, .int l6), (7, .int l7)] [] m o (k34 l0 l1 l2 l3 l4 l5 l6 l7 m o)) (l0 : Nat) (l1 : Nat) (l2 : Nat) (l3 : Int32) (l4 : Int32) (l5 : Int32) (l6 : Int32) (l7 : Int32) (m : Mm) (o : Prop) : Mh wI l E mi_X0_cheapest c0 s0 67 [(0, .ref l0), (1, .ref l1), (2, .ref l2), (3, .int l3), (4, .int l4), (5, .int l5), (6, .int l6), (7, .int l7)] [] m o (f_X0_cheapest_67 k20 k34 l0 l1 l2 l3 l4 l5 l6 l7 m o) := by
  refine Mh_iinc (v := l7 + 1) (lv' := [(7, .int (l7 + 1)), (0, .ref l0), (1, .ref l1), (2, .ref l2), (3, .int l3), (4, .int l4), (5, .int l5), (6, .int l6)]) 7 dX0_cheapest_67 rfl rfl (Nat.le_of_ble_eq_true rfl) rfl ?_
  refine Mh_goto (tgt := 34) dX0_cheapest_70 (by decide) ?_
  refine Mh_sub (lv' := [(0, .ref l0), (1, .ref l1), (2, .ref l2), (3, .int l3), (4, .int l4), (5, .int l5), (6, .int l6), (7, .int (l7 + 1))]) [1, 2, 3, 4, 5, 6, 7, 0] rfl ?_
  exact hk34 _ _ _ _ _ _ _ _ _ _
def f_X0_cheapest_61 (k20 : Nat → Nat → Nat → Int32 → Int32 → Int32 → Int32 → Mm → Prop → Int32 × Mm × Prop) (k34 : Nat → Nat → Nat → Int32 → Int32 → Int32 → Int32 → Int32 → Mm → Prop → Int32 × Mm × Prop) (l0 : Nat) (l1 : Nat) (l2 : Nat) (l3 : Int32) (l4 : Int32) (l5 : Int32) (l6 : Int32) (l7 : Int32) (y0 : Int32) (m : Mm) (o : Prop) : Int32 × Mm × Prop := if y0 = 0 then (f_X0_cheapest_67 k20 k34 l0 l1 l2 l3 l4 l5 l6 l7 m o) else (l6, m, o)
set_option maxRecDepth 10000 in
theorem t_X0_cheapest_61 (l : Launch) (E : En) (c0 s0 : Nat) (k20 : Nat → Nat → Nat → Int32 → Int32 → Int32 → Int32 → Mm → Prop → Int32 × Mm × Prop) (hk20 : ∀ (l0 : Nat) (l1 : Nat) (l2 : Nat) (l3 : Int32) (l4 : Int32) (l5 : Int32) (l6 : Int32) (m : Mm) (o : Prop), Mh wI l E mi_X0_cheapest c0 s0 20 [(0, .ref l0), (1, .ref l1), (2, .ref l2), (3, .int l3), (4, .int l4), (5, .int l5), (6, .int l6)] [] m o (k20 l0 l1 l2 l3 l4 l5 l6 m o)) (k34 : Nat → Nat → Nat → Int32 → Int32 → Int32 → Int32 → Int32 → Mm → Prop → Int32 × Mm × Prop) (hk34 : ∀ (l0 : Nat) (l1 : Nat) (l2 : Nat) (l3 : Int32) (l4 : Int32) (l5 : Int32) (l6 : Int32) (l7 : Int32) (m : Mm) (o : Prop), Mh wI l E mi_X0_cheapest c0 s0 34 [(0, .ref l0), (1, .ref l1), (2, .ref l2), (3, .int l3), (4, .int l4), (5, .int l5), (6, .int l6), (7, .int l7)] [] m o (k34 l0 l1 l2 l3 l4 l5 l6 l7 m o)) (l0 : Nat) (l1 : Nat) (l2 : Nat) (l3 : Int32) (l4 : Int32) (l5 : Int32) (l6 : Int32) (l7 : Int32) (y0 : Int32) (m : Mm) (o : Prop) : Mh wI l E mi_X0_cheapest c0 s0 61 [(0, .ref l0), (1, .ref l1), (2, .ref l2), (3, .int l3), (4, .int l4), (5, .int l5), (6, .int l6), (7, .int l7)] [.int y0] m o (f_X0_cheapest_61 k20 k34 l0 l1 l2 l3 l4 l5 l6 l7 y0 m o) := by
  refine Mh_if_eq (tgt := 67) dX0_cheapest_61 (by decide) rfl (fun _ => ?_) (fun _ => ?_)
  · exact t_X0_cheapest_67 l E c0 s0 k20 hk20 k34 hk34 _ _ _ _ _ _ _ _ _ _
  · refine Mh_iload 6 rfl dX0_cheapest_64 ?_
    exact Mh_ret dX0_cheapest_66 rfl (fun _ => rfl) rfl
def f_X0_cheapest_47 (k20 : Nat → Nat → Nat → Int32 → Int32 → Int32 → Int32 → Mm → Prop → Int32 × Mm × Prop) (k34 : Nat → Nat → Nat → Int32 → Int32 → Int32 → Int32 → Int32 → Mm → Prop → Int32 × Mm × Prop) (l0 : Nat) (l1 : Nat) (l2 : Nat) (l3 : Int32) (l4 : Int32) (l5 : Int32) (l6 : Int32) (l7 : Int32) (y0 : Int32) (m : Mm) (o : Prop) : Int32 × Mm × Prop := if y0 = l6 then (bnd (F_X0_wins l0 l1 l2 l3 l4 m (o ∧ gT m l0 = 1)) (fun v1 m1 o1 => f_X0_cheapest_61 k20 k34 l0 l1 l2 l3 l4 l5 l6 l7 v1 m1 o1)) else (f_X0_cheapest_67 k20 k34 l0 l1 l2 l3 l4 l5 l6 l7 m o)
set_option maxRecDepth 10000 in
theorem t_X0_cheapest_47 (l : Launch) (E : En) (c0 s0 : Nat) (k20 : Nat → Nat → Nat → Int32 → Int32 → Int32 → Int32 → Mm → Prop → Int32 × Mm × Prop) (hk20 : ∀ (l0 : Nat) (l1 : Nat) (l2 : Nat) (l3 : Int32) (l4 : Int32) (l5 : Int32) (l6 : Int32) (m : Mm) (o : Prop), Mh wI l E mi_X0_cheapest c0 s0 20 [(0, .ref l0), (1, .ref l1), (2, .ref l2), (3, .int l3), (4, .int l4), (5, .int l5), (6, .int l6)] [] m o (k20 l0 l1 l2 l3 l4 l5 l6 m o)) (k34 : Nat → Nat → Nat → Int32 → Int32 → Int32 → Int32 → Int32 → Mm → Prop → Int32 × Mm × Prop) (hk34 : ∀ (l0 : Nat) (l1 : Nat) (l2 : Nat) (l3 : Int32) (l4 : Int32) (l5 : Int32) (l6 : Int32) (l7 : Int32) (m : Mm) (o : Prop), Mh wI l E mi_X0_cheapest c0 s0 34 [(0, .ref l0), (1, .ref l1), (2, .ref l2), (3, .int l3), (4, .int l4), (5, .int l5), (6, .int l6), (7, .int l7)] [] m o (k34 l0 l1 l2 l3 l4 l5 l6 l7 m o)) (l0 : Nat) (l1 : Nat) (l2 : Nat) (l3 : Int32) (l4 : Int32) (l5 : Int32) (l6 : Int32) (l7 : Int32) (y0 : Int32) (m : Mm) (o : Prop) : Mh wI l E mi_X0_cheapest c0 s0 47 [(0, .ref l0), (1, .ref l1), (2, .ref l2), (3, .int l3), (4, .int l4), (5, .int l5), (6, .int l6), (7, .int l7)] [.int y0] m o (f_X0_cheapest_47 k20 k34 l0 l1 l2 l3 l4 l5 l6 l7 y0 m o) := by
  refine Mh_iload 6 rfl dX0_cheapest_47 ?_
  refine Mh_icmp_ne (tgt := 67) dX0_cheapest_49 (by decide) rfl (fun _ => ?_) (fun _ => ?_)
  · exact t_X0_cheapest_67 l E c0 s0 k20 hk20 k34 hk34 _ _ _ _ _ _ _ _ _ _
  · refine Mh_aload_n 0 rfl dX0_cheapest_52 ?_
    refine Mh_aload_n 1 rfl dX0_cheapest_53 ?_
    refine Mh_aload_n 2 rfl dX0_cheapest_54 ?_
    refine Mh_iload_n 3 rfl dX0_cheapest_55 ?_
    refine Mh_iload 4 rfl dX0_cheapest_56 ?_
    refine Mh_cvI (N := mi_X0_wins) (q := l0) (ci := 0) (as := [.ref l1, .ref l2, .int l3, .int l4]) (st := []) (id) cg_yX0_wins (by decide) rfl rfl ml_RX0_51 iv_yX0_wins pd_yX0_wins rfl (by decide) (Nat.le_of_ble_eq_true rfl) rfl dX0_cheapest_58 (T_X0_wins l E _ _ _ _ _ _ _) rfl ?_
    exact t_X0_cheapest_61 l E c0 s0 k20 hk20 k34 hk34 _ _ _ _ _ _ _ _ _ _ _
def f_X0_cheapest_34b (k20 : Nat → Nat → Nat → Int32 → Int32 → Int32 → Int32 → Mm → Prop → Int32 × Mm × Prop) (k34 : Nat → Nat → Nat → Int32 → Int32 → Int32 → Int32 → Int32 → Mm → Prop → Int32 × Mm × Prop) (l0 : Nat) (l1 : Nat) (l2 : Nat) (l3 : Int32) (l4 : Int32) (l5 : Int32) (l6 : Int32) (l7 : Int32) (m : Mm) (o : Prop) : Int32 × Mm × Prop := if l5 ≤ l7 then (k20 l0 l1 l2 l3 l4 l5 (l6 + 1) m o) else (bnd (F_X0_writeRow l0 l7 m (o ∧ gT m l0 = 1)) (fun v1 m1 o1 => f_X0_cheapest_47 k20 k34 l0 l1 l2 l3 l4 l5 l6 l7 v1 m1 o1))
set_option maxRecDepth 10000 in
theorem t_X0_cheapest_34b (l : Launch) (E : En) (c0 s0 : Nat) (k20 : Nat → Nat → Nat → Int32 → Int32 → Int32 → Int32 → Mm → Prop → Int32 × Mm × Prop) (hk20 : ∀ (l0 : Nat) (l1 : Nat) (l2 : Nat) (l3 : Int32) (l4 : Int32) (l5 : Int32) (l6 : Int32) (m : Mm) (o : Prop), Mh wI l E mi_X0_cheapest c0 s0 20 [(0, .ref l0), (1, .ref l1), (2, .ref l2), (3, .int l3), (4, .int l4), (5, .int l5), (6, .int l6)] [] m o (k20 l0 l1 l2 l3 l4 l5 l6 m o)) (k34 : Nat → Nat → Nat → Int32 → Int32 → Int32 → Int32 → Int32 → Mm → Prop → Int32 × Mm × Prop) (hk34 : ∀ (l0 : Nat) (l1 : Nat) (l2 : Nat) (l3 : Int32) (l4 : Int32) (l5 : Int32) (l6 : Int32) (l7 : Int32) (m : Mm) (o : Prop), Mh wI l E mi_X0_cheapest c0 s0 34 [(0, .ref l0), (1, .ref l1), (2, .ref l2), (3, .int l3), (4, .int l4), (5, .int l5), (6, .int l6), (7, .int l7)] [] m o (k34 l0 l1 l2 l3 l4 l5 l6 l7 m o)) (l0 : Nat) (l1 : Nat) (l2 : Nat) (l3 : Int32) (l4 : Int32) (l5 : Int32) (l6 : Int32) (l7 : Int32) (m : Mm) (o : Prop) : Mh wI l E mi_X0_cheapest c0 s0 34 [(0, .ref l0), (1, .ref l1), (2, .ref l2), (3, .int l3), (4, .int l4), (5, .int l5), (6, .int l6), (7, .int l7)] [] m o (f_X0_cheapest_34b k20 k34 l0 l1 l2 l3 l4 l5 l6 l7 m o) := by
  refine Mh_iload 7 rfl dX0_cheapest_34 ?_
  refine Mh_iload 5 rfl dX0_cheapest_36 ?_
  refine Mh_icmp_ge (tgt := 73) dX0_cheapest_38 (by decide) rfl (fun _ => ?_) (fun _ => ?_)
  · refine Mh_iinc (v := l6 + 1) (lv' := [(6, .int (l6 + 1)), (0, .ref l0), (1, .ref l1), (2, .ref l2), (3, .int l3), (4, .int l4), (5, .int l5), (7, .int l7)]) 6 dX0_cheapest_73 rfl rfl (Nat.le_of_ble_eq_true rfl) rfl ?_
    refine Mh_goto (tgt := 20) dX0_cheapest_76 (by decide) ?_
    refine Mh_sub (lv' := [(0, .ref l0), (1, .ref l1), (2, .ref l2), (3, .int l3), (4, .int l4), (5, .int l5), (6, .int (l6 + 1))]) [1, 2, 3, 4, 5, 6, 0] rfl ?_
    exact hk20 _ _ _ _ _ _ _ _ _
  · refine Mh_aload_n 0 rfl dX0_cheapest_41 ?_
    refine Mh_iload 7 rfl dX0_cheapest_42 ?_
    refine Mh_cvI (N := mi_X0_writeRow) (q := l0) (ci := 0) (as := [.int l7]) (st := []) (id) cg_yX0_writeRow (by decide) rfl rfl ml_RX0_47 iv_yX0_writeRow pd_yX0_writeRow rfl (by decide) (Nat.le_of_ble_eq_true rfl) rfl dX0_cheapest_44 (T_X0_writeRow l E _ _ _ _) rfl ?_
    exact t_X0_cheapest_47 l E c0 s0 k20 hk20 k34 hk34 _ _ _ _ _ _ _ _ _ _ _
def f_X0_cheapest_34 (k20 : Nat → Nat → Nat → Int32 → Int32 → Int32 → Int32 → Mm → Prop → Int32 × Mm × Prop) : Nat → Nat → Nat → Nat → Int32 → Int32 → Int32 → Int32 → Int32 → Mm → Prop → Int32 × Mm × Prop
  | 0, _, _, _, _, _, _, _, _, m, _ => (0, m, False)
  | n + 1, l0, l1, l2, l3, l4, l5, l6, l7, m, o => f_X0_cheapest_34b k20 (f_X0_cheapest_34 k20 n) l0 l1 l2 l3 l4 l5 l6 l7 m o
theorem t_X0_cheapest_34 (l : Launch) (E : En) (c0 s0 : Nat) (k20 : Nat → Nat → Nat → Int32 → Int32 → Int32 → Int32 → Mm → Prop → Int32 × Mm × Prop) (hk20 : ∀ (l0 : Nat) (l1 : Nat) (l2 : Nat) (l3 : Int32) (l4 : Int32) (l5 : Int32) (l6 : Int32) (m : Mm) (o : Prop), Mh wI l E mi_X0_cheapest c0 s0 20 [(0, .ref l0), (1, .ref l1), (2, .ref l2), (3, .int l3), (4, .int l4), (5, .int l5), (6, .int l6)] [] m o (k20 l0 l1 l2 l3 l4 l5 l6 m o)) : ∀ (n : Nat) (l0 : Nat) (l1 : Nat) (l2 : Nat) (l3 : Int32) (l4 : Int32) (l5 : Int32) (l6 : Int32) (l7 : Int32) (m : Mm) (o : Prop), Mh wI l E mi_X0_cheapest c0 s0 34 [(0, .ref l0), (1, .ref l1), (2, .ref l2), (3, .int l3), (4, .int l4), (5, .int l5), (6, .int l6), (7, .int l7)] [] m o (f_X0_cheapest_34 k20 n l0 l1 l2 l3 l4 l5 l6 l7 m o)
  | 0, _, _, _, _, _, _, _, _, _, _ => Mh_out rfl
  | n + 1, l0, l1, l2, l3, l4, l5, l6, l7, m, o => t_X0_cheapest_34b l E c0 s0 k20 hk20 (f_X0_cheapest_34 k20 n) (t_X0_cheapest_34 l E c0 s0 k20 hk20 n) l0 l1 l2 l3 l4 l5 l6 l7 m o
def f_X0_cheapest_20b (k20 : Nat → Nat → Nat → Int32 → Int32 → Int32 → Int32 → Mm → Prop → Int32 × Mm × Prop) (l0 : Nat) (l1 : Nat) (l2 : Nat) (l3 : Int32) (l4 : Int32) (l5 : Int32) (l6 : Int32) (m : Mm) (o : Prop) : Int32 × Mm × Prop := if ((3 : Int32) * (gI m l0 3)) < l6 then ((-1 : Int32), m, (o ∧ gT m l0 = 1)) else (f_X0_cheapest_34 k20 1000 l0 l1 l2 l3 l4 l5 l6 (0 : Int32) m (o ∧ gT m l0 = 1))
set_option maxRecDepth 10000 in
theorem t_X0_cheapest_20b (l : Launch) (E : En) (c0 s0 : Nat) (k20 : Nat → Nat → Nat → Int32 → Int32 → Int32 → Int32 → Mm → Prop → Int32 × Mm × Prop) (hk20 : ∀ (l0 : Nat) (l1 : Nat) (l2 : Nat) (l3 : Int32) (l4 : Int32) (l5 : Int32) (l6 : Int32) (m : Mm) (o : Prop), Mh wI l E mi_X0_cheapest c0 s0 20 [(0, .ref l0), (1, .ref l1), (2, .ref l2), (3, .int l3), (4, .int l4), (5, .int l5), (6, .int l6)] [] m o (k20 l0 l1 l2 l3 l4 l5 l6 m o)) (l0 : Nat) (l1 : Nat) (l2 : Nat) (l3 : Int32) (l4 : Int32) (l5 : Int32) (l6 : Int32) (m : Mm) (o : Prop) : Mh wI l E mi_X0_cheapest c0 s0 20 [(0, .ref l0), (1, .ref l1), (2, .ref l2), (3, .int l3), (4, .int l4), (5, .int l5), (6, .int l6)] [] m o (f_X0_cheapest_20b k20 l0 l1 l2 l3 l4 l5 l6 m o) := by
  refine Mh_iload 6 rfl dX0_cheapest_20 ?_
  refine Mh_iconst (v := 3) dX0_cheapest_22 (by decide) ?_
  refine Mh_aload_n 0 rfl dX0_cheapest_23 ?_
  refine Mh_gI fd_0_3 fl_RX0_22 dX0_cheapest_24 ?_
  refine Mh_imul dX0_cheapest_27 ?_
  refine Mh_icmp_gt (tgt := 79) dX0_cheapest_28 (by decide) rfl (fun _ => ?_) (fun _ => ?_)
  · refine Mh_iconst (v := (-1)) dX0_cheapest_79 (by decide) ?_
    exact Mh_ret dX0_cheapest_80 rfl (fun _ => rfl) rfl
  · refine Mh_iconst (v := 0) dX0_cheapest_31 (by decide) ?_
    refine Mh_istore (lv' := [(7, .int (0 : Int32)), (0, .ref l0), (1, .ref l1), (2, .ref l2), (3, .int l3), (4, .int l4), (5, .int l5), (6, .int l6)]) dX0_cheapest_32 (Nat.le_of_ble_eq_true rfl) rfl ?_
    refine Mh_sub (lv' := [(0, .ref l0), (1, .ref l1), (2, .ref l2), (3, .int l3), (4, .int l4), (5, .int l5), (6, .int l6), (7, .int (0 : Int32))]) [1, 2, 3, 4, 5, 6, 7, 0] rfl ?_
    exact t_X0_cheapest_34 l E c0 s0 k20 hk20 _ _ _ _ _ _ _ _ _ _ _
def f_X0_cheapest_20 : Nat → Nat → Nat → Nat → Int32 → Int32 → Int32 → Int32 → Mm → Prop → Int32 × Mm × Prop
  | 0, _, _, _, _, _, _, _, m, _ => (0, m, False)
  | n + 1, l0, l1, l2, l3, l4, l5, l6, m, o => f_X0_cheapest_20b (f_X0_cheapest_20 n) l0 l1 l2 l3 l4 l5 l6 m o
theorem t_X0_cheapest_20 (l : Launch) (E : En) (c0 s0 : Nat) : ∀ (n : Nat) (l0 : Nat) (l1 : Nat) (l2 : Nat) (l3 : Int32) (l4 : Int32) (l5 : Int32) (l6 : Int32) (m : Mm) (o : Prop), Mh wI l E mi_X0_cheapest c0 s0 20 [(0, .ref l0), (1, .ref l1), (2, .ref l2), (3, .int l3), (4, .int l4), (5, .int l5), (6, .int l6)] [] m o (f_X0_cheapest_20 n l0 l1 l2 l3 l4 l5 l6 m o)
  | 0, _, _, _, _, _, _, _, _, _ => Mh_out rfl
  | n + 1, l0, l1, l2, l3, l4, l5, l6, m, o => t_X0_cheapest_20b l E c0 s0 (f_X0_cheapest_20 n) (t_X0_cheapest_20 l E c0 s0 n) l0 l1 l2 l3 l4 l5 l6 m o
def f_X0_cheapest_17 (l0 : Nat) (l1 : Nat) (l2 : Nat) (l3 : Int32) (l4 : Int32) (l5 : Int32) (m : Mm) (o : Prop) : Int32 × Mm × Prop := f_X0_cheapest_20 1000 l0 l1 l2 l3 l4 l5 (0 : Int32) m o
set_option maxRecDepth 10000 in
theorem t_X0_cheapest_17 (l : Launch) (E : En) (c0 s0 : Nat) (l0 : Nat) (l1 : Nat) (l2 : Nat) (l3 : Int32) (l4 : Int32) (l5 : Int32) (m : Mm) (o : Prop) : Mh wI l E mi_X0_cheapest c0 s0 17 [(0, .ref l0), (1, .ref l1), (2, .ref l2), (3, .int l3), (4, .int l4), (5, .int l5)] [] m o (f_X0_cheapest_17 l0 l1 l2 l3 l4 l5 m o) := by
  refine Mh_iconst (v := 0) dX0_cheapest_17 (by decide) ?_
  refine Mh_istore (lv' := [(6, .int (0 : Int32)), (0, .ref l0), (1, .ref l1), (2, .ref l2), (3, .int l3), (4, .int l4), (5, .int l5)]) dX0_cheapest_18 (Nat.le_of_ble_eq_true rfl) rfl ?_
  refine Mh_sub (lv' := [(0, .ref l0), (1, .ref l1), (2, .ref l2), (3, .int l3), (4, .int l4), (5, .int l5), (6, .int (0 : Int32))]) [1, 2, 3, 4, 5, 6, 0] rfl ?_
  exact t_X0_cheapest_20 l E c0 s0 _ _ _ _ _ _ _ _ _ _
def f_X0_cheapest_0 (l0 : Nat) (l1 : Nat) (l2 : Nat) (l3 : Int32) (l4 : Int32) (m : Mm) (o : Prop) : Int32 × Mm × Prop := bnd (F_X5_forgetAmounts (gR m l0 2) m (((o ∧ gT m l0 = 1) ∧ (gT m l0 = 1 ∧ gR m l0 2 ≠ 0)) ∧ gT m (gR m l0 2) = 6)) (fun _ m1 o1 => f_X0_cheapest_17 l0 l1 l2 l3 l4 ((1 : Int32) <<< (((2 : Int32) * (gI m l0 3)) &&& 31)) m1 o1)
set_option maxRecDepth 10000 in
theorem t_X0_cheapest_0 (l : Launch) (E : En) (c0 s0 : Nat) (l0 : Nat) (l1 : Nat) (l2 : Nat) (l3 : Int32) (l4 : Int32) (m : Mm) (o : Prop) : Mh wI l E mi_X0_cheapest c0 s0 0 [(0, .ref l0), (1, .ref l1), (2, .ref l2), (3, .int l3), (4, .int l4)] [] m o (f_X0_cheapest_0 l0 l1 l2 l3 l4 m o) := by
  refine Mh_iconst (v := 1) dX0_cheapest_0 (by decide) ?_
  refine Mh_iconst (v := 2) dX0_cheapest_1 (by decide) ?_
  refine Mh_aload_n 0 rfl dX0_cheapest_2 ?_
  refine Mh_gI fd_0_3 fl_RX0_22 dX0_cheapest_3 ?_
  refine Mh_imul dX0_cheapest_6 ?_
  refine Mh_ishl dX0_cheapest_7 ?_
  refine Mh_istore (lv' := [(5, .int ((1 : Int32) <<< (((2 : Int32) * (gI m l0 3)) &&& 31))), (0, .ref l0), (1, .ref l1), (2, .ref l2), (3, .int l3), (4, .int l4)]) dX0_cheapest_8 (Nat.le_of_ble_eq_true rfl) rfl ?_
  refine Mh_aload_n 1 rfl dX0_cheapest_10 ?_
  refine Mh_gR fd_0_2 fl_RX0_18 dX0_cheapest_11 ?_
  refine Mh_cvU (N := mi_X5_forgetAmounts) (q := gR m l0 2) (ci := 5) (as := []) (st := []) (id) cg_yX5_forgetAmounts (by decide) rfl rfl ml_RX0_44 iv_yX5_forgetAmounts pd_yX5_forgetAmounts rfl (by decide) (Nat.le_of_ble_eq_true rfl) rfl dX0_cheapest_14 (T_X5_forgetAmounts l E _ _ _) rfl ?_
  refine Mh_sub (lv' := [(0, .ref l0), (1, .ref l1), (2, .ref l2), (3, .int l3), (4, .int l4), (5, .int ((1 : Int32) <<< (((2 : Int32) * (gI m l0 3)) &&& 31)))]) [1, 2, 3, 4, 5, 0] rfl ?_
  exact t_X0_cheapest_17 l E c0 s0 _ _ _ _ _ _ _ _
def F_X0_cheapest (a0 : Nat) (a1 : Nat) (a2 : Nat) (a3 : Int32) (a4 : Int32) (m : Mm) (o : Prop) : Int32 × Mm × Prop := f_X0_cheapest_0 a0 a1 a2 a3 a4 m o
theorem T_X0_cheapest (l : Launch) (E : En) (a0 : Nat) (a1 : Nat) (a2 : Nat) (a3 : Int32) (a4 : Int32) (m : Mm) (o : Prop) : Mt wI l E yX0_cheapest mi_X0_cheapest [.ref a0, .ref a1, .ref a2, .int a3, .int a4] m o (F_X0_cheapest a0 a1 a2 a3 a4 m o) :=
  Mt_I (by decide) rfl rfl rfl (Nat.le_of_ble_eq_true rfl) rfl (.inl rfl) (t_X0_cheapest_0 l E _ _ _ _ _ _ _ _ _)
def f_X0_choosePlaces_68 (k7 : Nat → Nat → Int32 → Int32 → Mm → Prop → Unit × Mm × Prop) (l0 : Nat) (l1 : Nat) (l2 : Int32) (l3 : Int32) (m : Mm) (o : Prop) : Unit × Mm × Prop := k7 l0 l1 l2 (l3 + 1) m o
set_option maxRecDepth 10000 in
theorem t_X0_choosePlaces_68 (l : Launch) (E : En) (c0 s0 : Nat) (k7 : Nat → Nat → Int32 → Int32 → Mm → Prop → Unit × Mm × Prop) (hk7 : ∀ (l0 : Nat) (l1 : Nat) (l2 : Int32) (l3 : Int32) (m : Mm) (o : Prop), Mh wU l E mi_X0_choosePlaces c0 s0 7 [(0, .ref l0), (1, .ref l1), (2, .int l2), (3, .int l3)] [] m o (k7 l0 l1 l2 l3 m o)) (l0 : Nat) (l1 : Nat) (l2 : Int32) (l3 : Int32) (m : Mm) (o : Prop) : Mh wU l E mi_X0_choosePlaces c0 s0 68 [(0, .ref l0), (1, .ref l1), (2, .int l2), (3, .int l3)] [] m o (f_X0_choosePlaces_68 k7 l0 l1 l2 l3 m o) := by
  refine Mh_iinc (v := l3 + 1) (lv' := [(3, .int (l3 + 1)), (0, .ref l0), (1, .ref l1), (2, .int l2)]) 3 dX0_choosePlaces_68 rfl rfl (Nat.le_of_ble_eq_true rfl) rfl ?_
  refine Mh_goto (tgt := 7) dX0_choosePlaces_71 (by decide) ?_
  refine Mh_sub (lv' := [(0, .ref l0), (1, .ref l1), (2, .int l2), (3, .int (l3 + 1))]) [1, 2, 3, 0] rfl ?_
  exact hk7 _ _ _ _ _ _
def f_X0_choosePlaces_58 (k7 : Nat → Nat → Int32 → Int32 → Mm → Prop → Unit × Mm × Prop) (l0 : Nat) (l1 : Nat) (l2 : Int32) (l3 : Int32) (m : Mm) (o : Prop) : Unit × Mm × Prop := f_X0_choosePlaces_68 k7 l0 l1 l2 l3 (sI m l0 3 ((gI m l0 3) + (1 : Int32))) (o ∧ gT m l0 = 1)
set_option maxRecDepth 10000 in
theorem t_X0_choosePlaces_58 (l : Launch) (E : En) (c0 s0 : Nat) (k7 : Nat → Nat → Int32 → Int32 → Mm → Prop → Unit × Mm × Prop) (hk7 : ∀ (l0 : Nat) (l1 : Nat) (l2 : Int32) (l3 : Int32) (m : Mm) (o : Prop), Mh wU l E mi_X0_choosePlaces c0 s0 7 [(0, .ref l0), (1, .ref l1), (2, .int l2), (3, .int l3)] [] m o (k7 l0 l1 l2 l3 m o)) (l0 : Nat) (l1 : Nat) (l2 : Int32) (l3 : Int32) (m : Mm) (o : Prop) : Mh wU l E mi_X0_choosePlaces c0 s0 58 [(0, .ref l0), (1, .ref l1), (2, .int l2), (3, .int l3)] [] m o (f_X0_choosePlaces_58 k7 l0 l1 l2 l3 m o) := by
  refine Mh_aload_n 0 rfl dX0_choosePlaces_58 ?_
  refine Mh_dup dX0_choosePlaces_59 rfl ?_
  refine Mh_gI fd_0_3 fl_RX0_22 dX0_choosePlaces_60 ?_
  refine Mh_iconst (v := 1) dX0_choosePlaces_63 (by decide) ?_
  refine Mh_iadd dX0_choosePlaces_64 ?_
  refine Mh_pI fd_0_3 ft_0 rfl fl_RX0_22 rfl dX0_choosePlaces_65 ?_
  refine Mh_ok (fun h => h.2) ?_
  exact t_X0_choosePlaces_68 l E c0 s0 k7 hk7 _ _ _ _ _ _
def f_X0_choosePlaces_74 (m : Mm) (o : Prop) : Unit × Mm × Prop := ((), m, o)
set_option maxRecDepth 10000 in
theorem t_X0_choosePlaces_74 (l : Launch) (E : En) (c0 s0 : Nat) (m : Mm) (o : Prop) : Mh wU l E mi_X0_choosePlaces c0 s0 74 [] [] m o (f_X0_choosePlaces_74  m o) := by
  exact Mh_ret dX0_choosePlaces_74 rfl (fun _ => trivial) rfl
def f_X0_choosePlaces_7b (k7 : Nat → Nat → Int32 → Int32 → Mm → Prop → Unit × Mm × Prop) (l0 : Nat) (l1 : Nat) (l2 : Int32) (l3 : Int32) (m : Mm) (o : Prop) : Unit × Mm × Prop := if (gI m l1 6) ≤ l3 then (f_X0_choosePlaces_74  m (o ∧ gT m l1 = 6)) else (if (4 : Int32) ≤ (gI m l0 3) then (f_X0_choosePlaces_74  m ((o ∧ gT m l1 = 6) ∧ gT m l0 = 1)) else (if (gI m (gR m (gR m l1 0) (ix l3)) 7) = 0 then (f_X0_choosePlaces_68 k7 l0 l1 l2 l3 m (((((o ∧ gT m l1 = 6) ∧ gT m l0 = 1) ∧ (gT m l1 = 6 ∧ gR m l1 0 ≠ 0)) ∧ (gT m (gR m l1 0) = 24 ∧ vp_in l3 (gN m (gR m l1 0)) ∧ gR m (gR m l1 0) (ix l3) ≠ 0)) ∧ gT m (gR m (gR m l1 0) (ix l3)) = 8)) else (if (gI m (gR m (gR m l1 0) (ix l3)) 2) = l2 then (f_X0_choosePlaces_58 k7 l0 l1 l2 l3 (sI m (gR m l0 0) (ix (gI m l0 3)) l3) (((((((o ∧ gT m l1 = 6) ∧ gT m l0 = 1) ∧ (gT m l1 = 6 ∧ gR m l1 0 ≠ 0)) ∧ (gT m (gR m l1 0) = 24 ∧ vp_in l3 (gN m (gR m l1 0)) ∧ gR m (gR m l1 0) (ix l3) ≠ 0)) ∧ gT m (gR m (gR m l1 0) (ix l3)) = 8) ∧ (gT m l0 = 1 ∧ gR m l0 0 ≠ 0)) ∧ (gT m (gR m l0 0) = 20 ∧ vp_in (gI m l0 3) (gN m (gR m l0 0))))) else (f_X0_choosePlaces_68 k7 l0 l1 l2 l3 m (((((o ∧ gT m l1 = 6) ∧ gT m l0 = 1) ∧ (gT m l1 = 6 ∧ gR m l1 0 ≠ 0)) ∧ (gT m (gR m l1 0) = 24 ∧ vp_in l3 (gN m (gR m l1 0)) ∧ gR m (gR m l1 0) (ix l3) ≠ 0)) ∧ gT m (gR m (gR m l1 0) (ix l3)) = 8)))))
set_option maxRecDepth 10000 in
theorem t_X0_choosePlaces_7b (l : Launch) (E : En) (c0 s0 : Nat) (k7 : Nat → Nat → Int32 → Int32 → Mm → Prop → Unit × Mm × Prop) (hk7 : ∀ (l0 : Nat) (l1 : Nat) (l2 : Int32) (l3 : Int32) (m : Mm) (o : Prop), Mh wU l E mi_X0_choosePlaces c0 s0 7 [(0, .ref l0), (1, .ref l1), (2, .int l2), (3, .int l3)] [] m o (k7 l0 l1 l2 l3 m o)) (l0 : Nat) (l1 : Nat) (l2 : Int32) (l3 : Int32) (m : Mm) (o : Prop) : Mh wU l E mi_X0_choosePlaces c0 s0 7 [(0, .ref l0), (1, .ref l1), (2, .int l2), (3, .int l3)] [] m o (f_X0_choosePlaces_7b k7 l0 l1 l2 l3 m o) := by
  refine Mh_iload_n 3 rfl dX0_choosePlaces_7 ?_
  refine Mh_aload_n 1 rfl dX0_choosePlaces_8 ?_
  refine Mh_gI fd_5_6 fl_RX0_26 dX0_choosePlaces_9 ?_
  refine Mh_icmp_ge (tgt := 74) dX0_choosePlaces_12 (by decide) rfl (fun _ => ?_) (fun _ => ?_)
  · refine Mh_sub (lv' := []) [] rfl ?_
    exact t_X0_choosePlaces_74 l E c0 s0  _ _
  · refine Mh_aload_n 0 rfl dX0_choosePlaces_15 ?_
    refine Mh_gI fd_0_3 fl_RX0_22 dX0_choosePlaces_16 ?_
    refine Mh_iconst (v := 4) dX0_choosePlaces_19 (by decide) ?_
    refine Mh_icmp_ge (tgt := 74) dX0_choosePlaces_20 (by decide) rfl (fun _ => ?_) (fun _ => ?_)
    · refine Mh_sub (lv' := []) [] rfl ?_
      exact t_X0_choosePlaces_74 l E c0 s0  _ _
    · refine Mh_aload_n 1 rfl dX0_choosePlaces_23 ?_
      refine Mh_gR fd_5_0 fl_RX0_31 dX0_choosePlaces_24 ?_
      refine Mh_iload_n 3 rfl dX0_choosePlaces_27 ?_
      refine Mh_aal 24 (.inl rfl) dX0_choosePlaces_28 ?_
      refine Mh_gI fd_7_7 fl_RX0_35 dX0_choosePlaces_29 ?_
      refine Mh_if_eq (tgt := 68) dX0_choosePlaces_32 (by decide) rfl (fun _ => ?_) (fun _ => ?_)
      · exact t_X0_choosePlaces_68 l E c0 s0 k7 hk7 _ _ _ _ _ _
      · refine Mh_aload_n 1 rfl dX0_choosePlaces_35 ?_
        refine Mh_gR fd_5_0 fl_RX0_31 dX0_choosePlaces_36 ?_
        refine Mh_ok (fun h => h.1.1.2) ?_
        refine Mh_iload_n 3 rfl dX0_choosePlaces_39 ?_
        refine Mh_aal 24 (.inl rfl) dX0_choosePlaces_40 ?_
        refine Mh_ok (fun h => h.1.2) ?_
        refine Mh_gI fd_7_2 fl_RX0_41 dX0_choosePlaces_41 ?_
        refine Mh_ok (fun h => h.2) ?_
        refine Mh_iload_n 2 rfl dX0_choosePlaces_44 ?_
        refine Mh_icmp_ne (tgt := 68) dX0_choosePlaces_45 (by decide) rfl (fun _ => ?_) (fun _ => ?_)
        · exact t_X0_choosePlaces_68 l E c0 s0 k7 hk7 _ _ _ _ _ _
        · refine Mh_aload_n 0 rfl dX0_choosePlaces_48 ?_
          refine Mh_gR fd_0_0 fl_RX0_11 dX0_choosePlaces_49 ?_
          refine Mh_aload_n 0 rfl dX0_choosePlaces_52 ?_
          refine Mh_gI fd_0_3 fl_RX0_22 dX0_choosePlaces_53 ?_
          refine Mh_ok (fun h => h.1.1.1.1.2) ?_
          refine Mh_iload_n 3 rfl dX0_choosePlaces_56 ?_
          refine Mh_ias dX0_choosePlaces_57 ?_
          exact t_X0_choosePlaces_58 l E c0 s0 k7 hk7 _ _ _ _ _ _
def f_X0_choosePlaces_7 : Nat → Nat → Nat → Int32 → Int32 → Mm → Prop → Unit × Mm × Prop
  | 0, _, _, _, _, m, _ => ((), m, False)
  | n + 1, l0, l1, l2, l3, m, o => f_X0_choosePlaces_7b (f_X0_choosePlaces_7 n) l0 l1 l2 l3 m o
theorem t_X0_choosePlaces_7 (l : Launch) (E : En) (c0 s0 : Nat) : ∀ (n : Nat) (l0 : Nat) (l1 : Nat) (l2 : Int32) (l3 : Int32) (m : Mm) (o : Prop), Mh wU l E mi_X0_choosePlaces c0 s0 7 [(0, .ref l0), (1, .ref l1), (2, .int l2), (3, .int l3)] [] m o (f_X0_choosePlaces_7 n l0 l1 l2 l3 m o)
  | 0, _, _, _, _, _, _ => Mh_out rfl
  | n + 1, l0, l1, l2, l3, m, o => t_X0_choosePlaces_7b l E c0 s0 (f_X0_choosePlaces_7 n) (t_X0_choosePlaces_7 l E c0 s0 n) l0 l1 l2 l3 m o
def f_X0_choosePlaces_5 (l0 : Nat) (l1 : Nat) (l2 : Int32) (m : Mm) (o : Prop) : Unit × Mm × Prop := f_X0_choosePlaces_7 1000 l0 l1 l2 (0 : Int32) m o
set_option maxRecDepth 10000 in
theorem t_X0_choosePlaces_5 (l : Launch) (E : En) (c0 s0 : Nat) (l0 : Nat) (l1 : Nat) (l2 : Int32) (m : Mm) (o : Prop) : Mh wU l E mi_X0_choosePlaces c0 s0 5 [(0, .ref l0), (1, .ref l1), (2, .int l2)] [] m o (f_X0_choosePlaces_5 l0 l1 l2 m o) := by
  refine Mh_iconst (v := 0) dX0_choosePlaces_5 (by decide) ?_
  refine Mh_istore_n (lv' := [(3, .int (0 : Int32)), (0, .ref l0), (1, .ref l1), (2, .int l2)]) dX0_choosePlaces_6 (Nat.le_of_ble_eq_true rfl) rfl ?_
  refine Mh_sub (lv' := [(0, .ref l0), (1, .ref l1), (2, .int l2), (3, .int (0 : Int32))]) [1, 2, 3, 0] rfl ?_
  exact t_X0_choosePlaces_7 l E c0 s0 _ _ _ _ _ _ _
def f_X0_choosePlaces_0 (l0 : Nat) (l1 : Nat) (l2 : Int32) (m : Mm) (o : Prop) : Unit × Mm × Prop := f_X0_choosePlaces_5 l0 l1 l2 (sI m l0 3 (0 : Int32)) (o ∧ gT m l0 = 1)
set_option maxRecDepth 10000 in
theorem t_X0_choosePlaces_0 (l : Launch) (E : En) (c0 s0 : Nat) (l0 : Nat) (l1 : Nat) (l2 : Int32) (m : Mm) (o : Prop) : Mh wU l E mi_X0_choosePlaces c0 s0 0 [(0, .ref l0), (1, .ref l1), (2, .int l2)] [] m o (f_X0_choosePlaces_0 l0 l1 l2 m o) := by
  refine Mh_aload_n 0 rfl dX0_choosePlaces_0 ?_
  refine Mh_iconst (v := 0) dX0_choosePlaces_1 (by decide) ?_
  refine Mh_pI fd_0_3 ft_0 rfl fl_RX0_22 rfl dX0_choosePlaces_2 ?_
  exact t_X0_choosePlaces_5 l E c0 s0 _ _ _ _ _
def F_X0_choosePlaces (a0 : Nat) (a1 : Nat) (a2 : Int32) (m : Mm) (o : Prop) : Unit × Mm × Prop := f_X0_choosePlaces_0 a0 a1 a2 m o
theorem T_X0_choosePlaces (l : Launch) (E : En) (a0 : Nat) (a1 : Nat) (a2 : Int32) (m : Mm) (o : Prop) : Mt wU l E yX0_choosePlaces mi_X0_choosePlaces [.ref a0, .ref a1, .int a2] m o (F_X0_choosePlaces a0 a1 a2 m o) :=
  Mt_U (by decide) rfl (fun h => by cases h) rfl (Nat.le_of_ble_eq_true rfl) rfl (t_X0_choosePlaces_0 l E _ _ _ _ _ _ _)
def f_X11_campaign_26 (m : Mm) (o : Prop) : Int32 × Mm × Prop := ((-3 : Int32), m, o)
set_option maxRecDepth 10000 in
theorem t_X11_campaign_26 (l : Launch) (E : En) (c0 s0 : Nat) (m : Mm) (o : Prop) : Mh wI l E mi_X11_campaign c0 s0 26 [] [] m o (f_X11_campaign_26  m o) := by
  refine Mh_bipush (v := (-3)) dX11_campaign_26 (by decide) ?_
  exact Mh_ret dX11_campaign_28 rfl (fun _ => rfl) rfl
def f_X11_campaign_136 (l5 : Int32) (m : Mm) (o : Prop) : Int32 × Mm × Prop := (l5, m, o)
set_option maxRecDepth 10000 in
theorem t_X11_campaign_136 (l : Launch) (E : En) (c0 s0 : Nat) (l5 : Int32) (m : Mm) (o : Prop) : Mh wI l E mi_X11_campaign c0 s0 136 [(5, .int l5)] [] m o (f_X11_campaign_136 l5 m o) := by
  refine Mh_iload 0 rfl dX11_campaign_136 ?_
  exact Mh_ret dX11_campaign_138 rfl (fun _ => rfl) rfl
def f_X11_campaign_94 (l0 : Nat) (l3 : Int32) (l4 : Int32) (y0 : Int32) (m : Mm) (o : Prop) : Int32 × Mm × Prop := if y0 = (-1 : Int32) then ((-2 : Int32), m, o) else (if l4 = 0 then (if l3 = (4 : Int32) then (bnd (F_X0_spreadOn (gR m l0 5) (gR m l0 0) m (((o ∧ (gT m l0 = 11 ∧ gR m l0 5 ≠ 0)) ∧ (gT m l0 = 11 ∧ gR m l0 0 ≠ 0)) ∧ gT m (gR m l0 5) = 1)) (fun _ m1 o1 => f_X11_campaign_136 y0 m1 o1)) else (f_X11_campaign_136 y0 m o)) else (gI m (gR m (gR m l0 5) 1) (ix l3), m, (((o ∧ (gT m l0 = 11 ∧ gR m l0 5 ≠ 0)) ∧ (gT m (gR m l0 5) = 1 ∧ gR m (gR m l0 5) 1 ≠ 0)) ∧ (gT m (gR m (gR m l0 5) 1) = 20 ∧ vp_in l3 (gN m (gR m (gR m l0 5) 1))))))
set_option maxRecDepth 10000 in
theorem t_X11_campaign_94 (l : Launch) (E : En) (c0 s0 : Nat) (l0 : Nat) (l3 : Int32) (l4 : Int32) (y0 : Int32) (m : Mm) (o : Prop) : Mh wI l E mi_X11_campaign c0 s0 94 [(0, .ref l0), (3, .int l3), (4, .int l4)] [.int y0] m o (f_X11_campaign_94 l0 l3 l4 y0 m o) := by
  refine Mh_istore (lv' := [(5, .int y0), (0, .ref l0), (3, .int l3), (4, .int l4)]) dX11_campaign_94 (Nat.le_of_ble_eq_true rfl) rfl ?_
  refine Mh_iload 0 rfl dX11_campaign_96 ?_
  refine Mh_iconst (v := (-1)) dX11_campaign_98 (by decide) ?_
  refine Mh_icmp_ne (tgt := 105) dX11_campaign_99 (by decide) rfl (fun _ => ?_) (fun _ => ?_)
  · refine Mh_iload 3 rfl dX11_campaign_105 ?_
    refine Mh_if_eq (tgt := 120) dX11_campaign_107 (by decide) rfl (fun _ => ?_) (fun _ => ?_)
    · refine Mh_iload_n 2 rfl dX11_campaign_120 ?_
      refine Mh_iconst (v := 4) dX11_campaign_121 (by decide) ?_
      refine Mh_icmp_ne (tgt := 136) dX11_campaign_122 (by decide) rfl (fun _ => ?_) (fun _ => ?_)
      · refine Mh_sub (lv' := [(5, .int y0)]) [0] rfl ?_
        exact t_X11_campaign_136 l E c0 s0 _ _ _
      · refine Mh_aload_n 1 rfl dX11_campaign_125 ?_
        refine Mh_gR fd_10_5 fl_RX11_43 dX11_campaign_126 ?_
        refine Mh_aload_n 1 rfl dX11_campaign_129 ?_
        refine Mh_gR fd_10_0 fl_RX11_10 dX11_campaign_130 ?_
        refine Mh_cvU (N := mi_X0_spreadOn) (q := gR m l0 5) (ci := 0) (as := [.ref (gR m l0 0)]) (st := []) (id) cg_yX0_spreadOn (by decide) rfl rfl ml_RX11_234 iv_yX0_spreadOn pd_yX0_spreadOn rfl (by decide) (Nat.le_of_ble_eq_true rfl) rfl dX11_campaign_133 (T_X0_spreadOn l E _ _ _ _) rfl ?_
        refine Mh_sub (lv' := [(5, .int y0)]) [0] rfl ?_
        exact t_X11_campaign_136 l E c0 s0 _ _ _
    · refine Mh_aload_n 1 rfl dX11_campaign_110 ?_
      refine Mh_gR fd_10_5 fl_RX11_43 dX11_campaign_111 ?_
      refine Mh_gR fd_0_1 fl_RX11_231 dX11_campaign_114 ?_
      refine Mh_iload_n 2 rfl dX11_campaign_117 ?_
      refine Mh_ial dX11_campaign_118 ?_
      exact Mh_ret dX11_campaign_119 rfl (fun _ => rfl) rfl
  · refine Mh_bipush (v := (-2)) dX11_campaign_102 (by decide) ?_
    exact Mh_ret dX11_campaign_104 rfl (fun _ => rfl) rfl
def f_X11_campaign_77 (l0 : Nat) (l1 : Int32) (l2 : Int32) (l3 : Int32) (l4 : Int32) (m : Mm) (o : Prop) : Int32 × Mm × Prop := bnd (F_X0_cheapest (gR m l0 5) (gR m l0 0) (gR m l0 9) l1 l2 m ((((o ∧ (gT m l0 = 11 ∧ gR m l0 5 ≠ 0)) ∧ (gT m l0 = 11 ∧ gR m l0 0 ≠ 0)) ∧ (gT m l0 = 11 ∧ gR m l0 9 ≠ 0)) ∧ gT m (gR m l0 5) = 1)) (fun v1 m1 o1 => f_X11_campaign_94 l0 l3 l4 v1 m1 o1)
set_option maxRecDepth 10000 in
theorem t_X11_campaign_77 (l : Launch) (E : En) (c0 s0 : Nat) (l0 : Nat) (l1 : Int32) (l2 : Int32) (l3 : Int32) (l4 : Int32) (m : Mm) (o : Prop) : Mh wI l E mi_X11_campaign c0 s0 77 [(0, .ref l0), (1, .int l1), (2, .int l2), (3, .int l3), (4, .int l4)] [] m o (f_X11_campaign_77 l0 l1 l2 l3 l4 m o) := by
  refine Mh_aload_n 0 rfl dX11_campaign_77 ?_
  refine Mh_gR fd_10_5 fl_RX11_43 dX11_campaign_78 ?_
  refine Mh_aload_n 0 rfl dX11_campaign_81 ?_
  refine Mh_gR fd_10_0 fl_RX11_10 dX11_campaign_82 ?_
  refine Mh_aload_n 0 rfl dX11_campaign_85 ?_
  refine Mh_gR fd_10_9 fl_RX11_71 dX11_campaign_86 ?_
  refine Mh_iload_n 1 rfl dX11_campaign_89 ?_
  refine Mh_iload_n 2 rfl dX11_campaign_90 ?_
  refine Mh_cvI (N := mi_X0_cheapest) (q := gR m l0 5) (ci := 0) (as := [.ref (gR m l0 0), .ref (gR m l0 9), .int l1, .int l2]) (st := []) (id) cg_yX0_cheapest (by decide) rfl rfl ml_RX11_227 iv_yX0_cheapest pd_yX0_cheapest rfl (by decide) (Nat.le_of_ble_eq_true rfl) rfl dX11_campaign_91 (T_X0_cheapest l E _ _ _ _ _ _ _) rfl ?_
  refine Mh_sub (lv' := [(0, .ref l0), (3, .int l3), (4, .int l4)]) [0, 3, 4] rfl ?_
  exact t_X11_campaign_94 l E c0 s0 _ _ _ _ _ _
def f_X11_campaign_56 (l0 : Nat) (l1 : Int32) (l2 : Int32) (l3 : Int32) (y0 : Int32) (m : Mm) (o : Prop) : Int32 × Mm × Prop := if y0 = 0 then (f_X11_campaign_77 l0 l1 l2 l3 y0 m o) else (if l3 < (gI m (gR m l0 5) 3) then (f_X11_campaign_77 l0 l1 l2 l3 y0 m ((o ∧ (gT m l0 = 11 ∧ gR m l0 5 ≠ 0)) ∧ gT m (gR m l0 5) = 1)) else ((-3 : Int32), m, ((o ∧ (gT m l0 = 11 ∧ gR m l0 5 ≠ 0)) ∧ gT m (gR m l0 5) = 1)))
set_option maxRecDepth 10000 in
theorem t_X11_campaign_56 (l : Launch) (E : En) (c0 s0 : Nat) (l0 : Nat) (l1 : Int32) (l2 : Int32) (l3 : Int32) (y0 : Int32) (m : Mm) (o : Prop) : Mh wI l E mi_X11_campaign c0 s0 56 [(0, .ref l0), (1, .int l1), (2, .int l2), (3, .int l3)] [.int y0] m o (f_X11_campaign_56 l0 l1 l2 l3 y0 m o) := by
  refine Mh_istore (lv' := [(4, .int y0), (0, .ref l0), (1, .int l1), (2, .int l2), (3, .int l3)]) dX11_campaign_56 (Nat.le_of_ble_eq_true rfl) rfl ?_
  refine Mh_iload 0 rfl dX11_campaign_58 ?_
  refine Mh_if_eq (tgt := 77) dX11_campaign_60 (by decide) rfl (fun _ => ?_) (fun _ => ?_)
  · refine Mh_sub (lv' := [(0, .ref l0), (1, .int l1), (2, .int l2), (3, .int l3), (4, .int y0)]) [1, 2, 3, 4, 0] rfl ?_
    exact t_X11_campaign_77 l E c0 s0 _ _ _ _ _ _ _
  · refine Mh_iload_n 4 rfl dX11_campaign_63 ?_
    refine Mh_aload_n 1 rfl dX11_campaign_64 ?_
    refine Mh_gR fd_10_5 fl_RX11_43 dX11_campaign_65 ?_
    refine Mh_gI fd_0_3 fl_RX11_224 dX11_campaign_68 ?_
    refine Mh_icmp_lt (tgt := 77) dX11_campaign_71 (by decide) rfl (fun _ => ?_) (fun _ => ?_)
    · refine Mh_sub (lv' := [(0, .ref l0), (1, .int l1), (2, .int l2), (3, .int l3), (4, .int y0)]) [1, 2, 3, 4, 0] rfl ?_
      exact t_X11_campaign_77 l E c0 s0 _ _ _ _ _ _ _
    · refine Mh_bipush (v := (-3)) dX11_campaign_74 (by decide) ?_
      exact Mh_ret dX11_campaign_76 rfl (fun _ => rfl) rfl
def f_X11_campaign_55 (l0 : Nat) (l1 : Int32) (l2 : Int32) (l3 : Int32) (m : Mm) (o : Prop) : Int32 × Mm × Prop := f_X11_campaign_56 l0 l1 l2 l3 (0 : Int32) m o
set_option maxRecDepth 10000 in
theorem t_X11_campaign_55 (l : Launch) (E : En) (c0 s0 : Nat) (l0 : Nat) (l1 : Int32) (l2 : Int32) (l3 : Int32) (m : Mm) (o : Prop) : Mh wI l E mi_X11_campaign c0 s0 55 [(0, .ref l0), (1, .int l1), (2, .int l2), (3, .int l3)] [] m o (f_X11_campaign_55 l0 l1 l2 l3 m o) := by
  refine Mh_iconst (v := 0) dX11_campaign_55 (by decide) ?_
  exact t_X11_campaign_56 l E c0 s0 _ _ _ _ _ _ _
def f_X11_campaign_41 (l0 : Nat) (l1 : Int32) (l2 : Int32) (l3 : Int32) (m : Mm) (o : Prop) : Int32 × Mm × Prop := if l3 = (-1 : Int32) then (f_X11_campaign_55 l0 l1 l2 l3 m o) else (if l3 = (4 : Int32) then (f_X11_campaign_55 l0 l1 l2 l3 m o) else (f_X11_campaign_56 l0 l1 l2 l3 (1 : Int32) m o))
set_option maxRecDepth 10000 in
theorem t_X11_campaign_41 (l : Launch) (E : En) (c0 s0 : Nat) (l0 : Nat) (l1 : Int32) (l2 : Int32) (l3 : Int32) (m : Mm) (o : Prop) : Mh wI l E mi_X11_campaign c0 s0 41 [(0, .ref l0), (1, .int l1), (2, .int l2), (3, .int l3)] [] m o (f_X11_campaign_41 l0 l1 l2 l3 m o) := by
  refine Mh_iload_n 3 rfl dX11_campaign_41 ?_
  refine Mh_iconst (v := (-1)) dX11_campaign_42 (by decide) ?_
  refine Mh_icmp_eq (tgt := 55) dX11_campaign_43 (by decide) rfl (fun _ => ?_) (fun _ => ?_)
  · exact t_X11_campaign_55 l E c0 s0 _ _ _ _ _ _
  · refine Mh_iload_n 3 rfl dX11_campaign_46 ?_
    refine Mh_iconst (v := 4) dX11_campaign_47 (by decide) ?_
    refine Mh_icmp_eq (tgt := 55) dX11_campaign_48 (by decide) rfl (fun _ => ?_) (fun _ => ?_)
    · exact t_X11_campaign_55 l E c0 s0 _ _ _ _ _ _
    · refine Mh_iconst (v := 1) dX11_campaign_51 (by decide) ?_
      refine Mh_goto (tgt := 56) dX11_campaign_52 (by decide) ?_
      exact t_X11_campaign_56 l E c0 s0 _ _ _ _ _ _ _
def f_X11_campaign_23 (l0 : Nat) (l1 : Int32) (l2 : Int32) (l3 : Int32) (y0 : Int32) (m : Mm) (o : Prop) : Int32 × Mm × Prop := if y0 = 0 then (f_X11_campaign_26  m o) else (bnd (F_X0_choosePlaces (gR m l0 5) (gR m l0 0) l1 m (((o ∧ (gT m l0 = 11 ∧ gR m l0 5 ≠ 0)) ∧ (gT m l0 = 11 ∧ gR m l0 0 ≠ 0)) ∧ gT m (gR m l0 5) = 1)) (fun _ m1 o1 => f_X11_campaign_41 l0 l1 l2 l3 m1 o1))
set_option maxRecDepth 10000 in
theorem t_X11_campaign_23 (l : Launch) (E : En) (c0 s0 : Nat) (l0 : Nat) (l1 : Int32) (l2 : Int32) (l3 : Int32) (y0 : Int32) (m : Mm) (o : Prop) : Mh wI l E mi_X11_campaign c0 s0 23 [(0, .ref l0), (1, .int l1), (2, .int l2), (3, .int l3)] [.int y0] m o (f_X11_campaign_23 l0 l1 l2 l3 y0 m o) := by
  refine Mh_if_ne (tgt := 29) dX11_campaign_23 (by decide) rfl (fun _ => ?_) (fun _ => ?_)
  · refine Mh_aload_n 0 rfl dX11_campaign_29 ?_
    refine Mh_gR fd_10_5 fl_RX11_43 dX11_campaign_30 ?_
    refine Mh_aload_n 0 rfl dX11_campaign_33 ?_
    refine Mh_gR fd_10_0 fl_RX11_10 dX11_campaign_34 ?_
    refine Mh_iload_n 1 rfl dX11_campaign_37 ?_
    refine Mh_cvU (N := mi_X0_choosePlaces) (q := gR m l0 5) (ci := 0) (as := [.ref (gR m l0 0), .int l1]) (st := []) (id) cg_yX0_choosePlaces (by decide) rfl rfl ml_RX11_220 iv_yX0_choosePlaces pd_yX0_choosePlaces rfl (by decide) (Nat.le_of_ble_eq_true rfl) rfl dX11_campaign_38 (T_X0_choosePlaces l E _ _ _ _ _) rfl ?_
    exact t_X11_campaign_41 l E c0 s0 _ _ _ _ _ _
  · refine Mh_sub (lv' := []) [] rfl ?_
    exact t_X11_campaign_26 l E c0 s0  _ _
def f_X11_campaign_14 (l0 : Nat) (l1 : Int32) (l2 : Int32) (l3 : Int32) (y0 : Int32) (m : Mm) (o : Prop) : Int32 × Mm × Prop := if y0 = 0 then (f_X11_campaign_26  m o) else (bnd (F_X11_isWithin l3 (-1 : Int32) (4 : Int32) m o) (fun v1 m1 o1 => f_X11_campaign_23 l0 l1 l2 l3 v1 m1 o1))
set_option maxRecDepth 10000 in
theorem t_X11_campaign_14 (l : Launch) (E : En) (c0 s0 : Nat) (l0 : Nat) (l1 : Int32) (l2 : Int32) (l3 : Int32) (y0 : Int32) (m : Mm) (o : Prop) : Mh wI l E mi_X11_campaign c0 s0 14 [(0, .ref l0), (1, .int l1), (2, .int l2), (3, .int l3)] [.int y0] m o (f_X11_campaign_14 l0 l1 l2 l3 y0 m o) := by
  refine Mh_if_eq (tgt := 26) dX11_campaign_14 (by decide) rfl (fun _ => ?_) (fun _ => ?_)
  · refine Mh_sub (lv' := []) [] rfl ?_
    exact t_X11_campaign_26 l E c0 s0  _ _
  · refine Mh_iload_n 3 rfl dX11_campaign_17 ?_
    refine Mh_iconst (v := (-1)) dX11_campaign_18 (by decide) ?_
    refine Mh_iconst (v := 4) dX11_campaign_19 (by decide) ?_
    refine Mh_csI (N := mi_X11_isWithin) (as := [.int l3, .int (-1 : Int32), .int (4 : Int32)]) (st := []) cg_yX11_isWithin (.inl ml_RX11_90) sv_yX11_isWithin pd_yX11_isWithin rfl (by decide) (Nat.le_of_ble_eq_true rfl) rfl dX11_campaign_20 (T_X11_isWithin l E _ _ _ _ _) rfl ?_
    exact t_X11_campaign_23 l E c0 s0 _ _ _ _ _ _ _
def f_X11_campaign_4 (l0 : Nat) (l1 : Int32) (l2 : Int32) (l3 : Int32) (y0 : Int32) (m : Mm) (o : Prop) : Int32 × Mm × Prop := if y0 = 0 then (f_X11_campaign_26  m o) else (bnd (F_X11_isWithin l2 (1 : Int32) (6 : Int32) m o) (fun v1 m1 o1 => f_X11_campaign_14 l0 l1 l2 l3 v1 m1 o1))
set_option maxRecDepth 10000 in
theorem t_X11_campaign_4 (l : Launch) (E : En) (c0 s0 : Nat) (l0 : Nat) (l1 : Int32) (l2 : Int32) (l3 : Int32) (y0 : Int32) (m : Mm) (o : Prop) : Mh wI l E mi_X11_campaign c0 s0 4 [(0, .ref l0), (1, .int l1), (2, .int l2), (3, .int l3)] [.int y0] m o (f_X11_campaign_4 l0 l1 l2 l3 y0 m o) := by
  refine Mh_if_eq (tgt := 26) dX11_campaign_4 (by decide) rfl (fun _ => ?_) (fun _ => ?_)
  · refine Mh_sub (lv' := []) [] rfl ?_
    exact t_X11_campaign_26 l E c0 s0  _ _
  · refine Mh_iload_n 2 rfl dX11_campaign_7 ?_
    refine Mh_iconst (v := 1) dX11_campaign_8 (by decide) ?_
    refine Mh_bipush (v := 6) dX11_campaign_9 (by decide) ?_
    refine Mh_csI (N := mi_X11_isWithin) (as := [.int l2, .int (1 : Int32), .int (6 : Int32)]) (st := []) cg_yX11_isWithin (.inl ml_RX11_90) sv_yX11_isWithin pd_yX11_isWithin rfl (by decide) (Nat.le_of_ble_eq_true rfl) rfl dX11_campaign_11 (T_X11_isWithin l E _ _ _ _ _) rfl ?_
    exact t_X11_campaign_14 l E c0 s0 _ _ _ _ _ _ _
def f_X11_campaign_0 (l0 : Nat) (l1 : Int32) (l2 : Int32) (l3 : Int32) (m : Mm) (o : Prop) : Int32 × Mm × Prop := bnd (F_X11_isColour l1 m o) (fun v1 m1 o1 => f_X11_campaign_4 l0 l1 l2 l3 v1 m1 o1)
set_option maxRecDepth 10000 in
theorem t_X11_campaign_0 (l : Launch) (E : En) (c0 s0 : Nat) (l0 : Nat) (l1 : Int32) (l2 : Int32) (l3 : Int32) (m : Mm) (o : Prop) : Mh wI l E mi_X11_campaign c0 s0 0 [(0, .ref l0), (1, .int l1), (2, .int l2), (3, .int l3)] [] m o (f_X11_campaign_0 l0 l1 l2 l3 m o) := by
  refine Mh_iload_n 1 rfl dX11_campaign_0 ?_
  refine Mh_csI (N := mi_X11_isColour) (as := [.int l1]) (st := []) cg_yX11_isColour (.inl ml_RX11_86) sv_yX11_isColour pd_yX11_isColour rfl (by decide) (Nat.le_of_ble_eq_true rfl) rfl dX11_campaign_1 (T_X11_isColour l E _ _ _) rfl ?_
  exact t_X11_campaign_4 l E c0 s0 _ _ _ _ _ _ _
def F_X11_campaign (a0 : Nat) (a1 : Int32) (a2 : Int32) (a3 : Int32) (m : Mm) (o : Prop) : Int32 × Mm × Prop := f_X11_campaign_0 a0 a1 a2 a3 m o
theorem T_X11_campaign (l : Launch) (E : En) (a0 : Nat) (a1 : Int32) (a2 : Int32) (a3 : Int32) (m : Mm) (o : Prop) : Mt wI l E yX11_campaign mi_X11_campaign [.ref a0, .int a1, .int a2, .int a3] m o (F_X11_campaign a0 a1 a2 a3 m o) :=
  Mt_I (by decide) rfl rfl rfl (Nat.le_of_ble_eq_true rfl) rfl (.inl rfl) (t_X11_campaign_0 l E _ _ _ _ _ _ _ _)
def f_X9_empty_5 (m : Mm) (o : Prop) : Unit × Mm × Prop := ((), m, o)
set_option maxRecDepth 10000 in
theorem t_X9_empty_5 (l : Launch) (E : En) (c0 s0 : Nat) (m : Mm) (o : Prop) : Mh wU l E mi_X9_empty c0 s0 5 [] [] m o (f_X9_empty_5  m o) := by
  exact Mh_ret dX9_empty_5 rfl (fun _ => trivial) rfl
def f_X9_empty_0 (l0 : Nat) (m : Mm) (o : Prop) : Unit × Mm × Prop := f_X9_empty_5  (sI m l0 1 (0 : Int32)) (o ∧ gT m l0 = 9)
set_option maxRecDepth 10000 in
theorem t_X9_empty_0 (l : Launch) (E : En) (c0 s0 : Nat) (l0 : Nat) (m : Mm) (o : Prop) : Mh wU l E mi_X9_empty c0 s0 0 [(0, .ref l0)] [] m o (f_X9_empty_0 l0 m o) := by
  refine Mh_aload_n 0 rfl dX9_empty_0 ?_
  refine Mh_iconst (v := 0) dX9_empty_1 (by decide) ?_
  refine Mh_pI fd_8_1 ft_8 rfl fl_RX9_15 rfl dX9_empty_2 ?_
  refine Mh_sub (lv' := []) [] rfl ?_
  exact t_X9_empty_5 l E c0 s0  _ _
def F_X9_empty (a0 : Nat) (m : Mm) (o : Prop) : Unit × Mm × Prop := f_X9_empty_0 a0 m o
theorem T_X9_empty (l : Launch) (E : En) (a0 : Nat) (m : Mm) (o : Prop) : Mt wU l E yX9_empty mi_X9_empty [.ref a0] m o (F_X9_empty a0 m o) :=
  Mt_U (by decide) rfl (fun h => by cases h) rfl (Nat.le_of_ble_eq_true rfl) rfl (t_X9_empty_0 l E _ _ _ _ _)
def f_X9_byteAt_24 (y0 : Int32) (m : Mm) (o : Prop) : Int32 × Mm × Prop := (y0, m, o)
set_option maxRecDepth 10000 in
theorem t_X9_byteAt_24 (l : Launch) (E : En) (c0 s0 : Nat) (y0 : Int32) (m : Mm) (o : Prop) : Mh wI l E mi_X9_byteAt c0 s0 24 [] [.int y0] m o (f_X9_byteAt_24 y0 m o) := by
  exact Mh_ret dX9_byteAt_24 rfl (fun _ => rfl) rfl
def f_X9_byteAt_11 (l0 : Nat) (l1 : Int32) (y0 : Int32) (m : Mm) (o : Prop) : Int32 × Mm × Prop := if y0 = 0 then (f_X9_byteAt_24 (-1 : Int32) m o) else (f_X9_byteAt_24 (gI m (gR m l0 0) (ix l1)) m ((o ∧ (gT m l0 = 9 ∧ gR m l0 0 ≠ 0)) ∧ (gT m (gR m l0 0) = 20 ∧ vp_in l1 (gN m (gR m l0 0)))))
set_option maxRecDepth 10000 in
theorem t_X9_byteAt_11 (l : Launch) (E : En) (c0 s0 : Nat) (l0 : Nat) (l1 : Int32) (y0 : Int32) (m : Mm) (o : Prop) : Mh wI l E mi_X9_byteAt c0 s0 11 [(0, .ref l0), (1, .int l1)] [.int y0] m o (f_X9_byteAt_11 l0 l1 y0 m o) := by
  refine Mh_if_eq (tgt := 23) dX9_byteAt_11 (by decide) rfl (fun _ => ?_) (fun _ => ?_)
  · refine Mh_iconst (v := (-1)) dX9_byteAt_23 (by decide) ?_
    refine Mh_sub (lv' := []) [] rfl ?_
    exact t_X9_byteAt_24 l E c0 s0 _ _ _
  · refine Mh_aload_n 0 rfl dX9_byteAt_14 ?_
    refine Mh_gR fd_8_0 fl_RX9_11 dX9_byteAt_15 ?_
    refine Mh_iload_n 1 rfl dX9_byteAt_18 ?_
    refine Mh_ial dX9_byteAt_19 ?_
    refine Mh_goto (tgt := 24) dX9_byteAt_20 (by decide) ?_
    refine Mh_sub (lv' := []) [] rfl ?_
    exact t_X9_byteAt_24 l E c0 s0 _ _ _
def f_X9_byteAt_0 (l0 : Nat) (l1 : Int32) (m : Mm) (o : Prop) : Int32 × Mm × Prop := bnd (F_X11_isWithin l1 (0 : Int32) ((gI m l0 1) - (1 : Int32)) m (o ∧ gT m l0 = 9)) (fun v1 m1 o1 => f_X9_byteAt_11 l0 l1 v1 m1 o1)
set_option maxRecDepth 10000 in
theorem t_X9_byteAt_0 (l : Launch) (E : En) (c0 s0 : Nat) (l0 : Nat) (l1 : Int32) (m : Mm) (o : Prop) : Mh wI l E mi_X9_byteAt c0 s0 0 [(0, .ref l0), (1, .int l1)] [] m o (f_X9_byteAt_0 l0 l1 m o) := by
  refine Mh_iload_n 1 rfl dX9_byteAt_0 ?_
  refine Mh_iconst (v := 0) dX9_byteAt_1 (by decide) ?_
  refine Mh_aload_n 0 rfl dX9_byteAt_2 ?_
  refine Mh_gI fd_8_1 fl_RX9_15 dX9_byteAt_3 ?_
  refine Mh_iconst (v := 1) dX9_byteAt_6 (by decide) ?_
  refine Mh_isub dX9_byteAt_7 ?_
  refine Mh_csI (N := mi_X11_isWithin) (as := [.int l1, .int (0 : Int32), .int ((gI m l0 1) - (1 : Int32))]) (st := []) cg_yX11_isWithin (.inr ⟨_, ml_RX9_19⟩) sv_yX11_isWithin pd_yX11_isWithin rfl (by decide) (Nat.le_of_ble_eq_true rfl) rfl dX9_byteAt_8 (T_X11_isWithin l E _ _ _ _ _) rfl ?_
  exact t_X9_byteAt_11 l E c0 s0 _ _ _ _ _
def F_X9_byteAt (a0 : Nat) (a1 : Int32) (m : Mm) (o : Prop) : Int32 × Mm × Prop := f_X9_byteAt_0 a0 a1 m o
theorem T_X9_byteAt (l : Launch) (E : En) (a0 : Nat) (a1 : Int32) (m : Mm) (o : Prop) : Mt wI l E yX9_byteAt mi_X9_byteAt [.ref a0, .int a1] m o (F_X9_byteAt a0 a1 m o) :=
  Mt_I (by decide) rfl rfl rfl (Nat.le_of_ble_eq_true rfl) rfl (.inl rfl) (t_X9_byteAt_0 l E _ _ _ _ _ _)
def f_X9_intAt_20 (k4 : Nat → Int32 → Int32 → Int32 → Mm → Prop → Int32 × Mm × Prop) (l0 : Nat) (l1 : Int32) (l3 : Int32) (y1 : Int32) (y0 : Int32) (m : Mm) (o : Prop) : Int32 × Mm × Prop := k4 l0 l1 (y0 ||| y1) (l3 + 1) m o
set_option maxRecDepth 10000 in
theorem t_X9_intAt_20 (l : Launch) (E : En) (c0 s0 : Nat) (k4 : Nat → Int32 → Int32 → Int32 → Mm → Prop → Int32 × Mm × Prop) (hk4 : ∀ (l0 : Nat) (l1 : Int32) (l2 : Int32) (l3 : Int32) (m : Mm) (o : Prop), Mh wI l E mi_X9_intAt c0 s0 4 [(0, .ref l0), (1, .int l1), (2, .int l2), (3, .int l3)] [] m o (k4 l0 l1 l2 l3 m o)) (l0 : Nat) (l1 : Int32) (l3 : Int32) (y1 : Int32) (y0 : Int32) (m : Mm) (o : Prop) : Mh wI l E mi_X9_intAt c0 s0 20 [(0, .ref l0), (1, .int l1), (3, .int l3)] [.int y1, .int y0] m o (f_X9_intAt_20 k4 l0 l1 l3 y1 y0 m o) := by
  refine Mh_ior dX9_intAt_20 ?_
  refine Mh_istore_n (lv' := [(2, .int (y0 ||| y1)), (0, .ref l0), (1, .int l1), (3, .int l3)]) dX9_intAt_21 (Nat.le_of_ble_eq_true rfl) rfl ?_
  refine Mh_iinc (v := l3 + 1) (lv' := [(3, .int (l3 + 1)), (2, .int (y0 ||| y1)), (0, .ref l0), (1, .int l1)]) 3 dX9_intAt_22 rfl rfl (Nat.le_of_ble_eq_true rfl) rfl ?_
  refine Mh_goto (tgt := 4) dX9_intAt_25 (by decide) ?_
  refine Mh_sub (lv' := [(0, .ref l0), (1, .int l1), (2, .int (y0 ||| y1)), (3, .int (l3 + 1))]) [2, 3, 1, 0] rfl ?_
  exact hk4 _ _ _ _ _ _
def f_X9_intAt_4b (k4 : Nat → Int32 → Int32 → Int32 → Mm → Prop → Int32 × Mm × Prop) (l0 : Nat) (l1 : Int32) (l2 : Int32) (l3 : Int32) (m : Mm) (o : Prop) : Int32 × Mm × Prop := if (4 : Int32) ≤ l3 then (l2, m, o) else (bnd (F_X9_byteAt l0 (l1 + l3) m (o ∧ gT m l0 = 9)) (fun v1 m1 o1 => f_X9_intAt_20 k4 l0 l1 l3 v1 (l2 <<< ((8 : Int32) &&& 31)) m1 o1))
set_option maxRecDepth 10000 in
theorem t_X9_intAt_4b (l : Launch) (E : En) (c0 s0 : Nat) (k4 : Nat → Int32 → Int32 → Int32 → Mm → Prop → Int32 × Mm × Prop) (hk4 : ∀ (l0 : Nat) (l1 : Int32) (l2 : Int32) (l3 : Int32) (m : Mm) (o : Prop), Mh wI l E mi_X9_intAt c0 s0 4 [(0, .ref l0), (1, .int l1), (2, .int l2), (3, .int l3)] [] m o (k4 l0 l1 l2 l3 m o)) (l0 : Nat) (l1 : Int32) (l2 : Int32) (l3 : Int32) (m : Mm) (o : Prop) : Mh wI l E mi_X9_intAt c0 s0 4 [(0, .ref l0), (1, .int l1), (2, .int l2), (3, .int l3)] [] m o (f_X9_intAt_4b k4 l0 l1 l2 l3 m o) := by
  refine Mh_iload_n 3 rfl dX9_intAt_4 ?_
  refine Mh_iconst (v := 4) dX9_intAt_5 (by decide) ?_
  refine Mh_icmp_ge (tgt := 28) dX9_intAt_6 (by decide) rfl (fun _ => ?_) (fun _ => ?_)
  · refine Mh_iload_n 2 rfl dX9_intAt_28 ?_
    exact Mh_ret dX9_intAt_29 rfl (fun _ => rfl) rfl
  · refine Mh_iload_n 2 rfl dX9_intAt_9 ?_
    refine Mh_bipush (v := 8) dX9_intAt_10 (by decide) ?_
    refine Mh_ishl dX9_intAt_12 ?_
    refine Mh_aload_n 0 rfl dX9_intAt_13 ?_
    refine Mh_iload_n 1 rfl dX9_intAt_14 ?_
    refine Mh_iload_n 3 rfl dX9_intAt_15 ?_
    refine Mh_iadd dX9_intAt_16 ?_
    refine Mh_cvI (N := mi_X9_byteAt) (q := l0) (ci := 8) (as := [.int (l1 + l3)]) (st := [.int (l2 <<< ((8 : Int32) &&& 31))]) (id) cg_yX9_byteAt (by decide) rfl rfl ml_RX9_23 iv_yX9_byteAt pd_yX9_byteAt rfl (by decide) (Nat.le_of_ble_eq_true rfl) rfl dX9_intAt_17 (T_X9_byteAt l E _ _ _ _) rfl ?_
    refine Mh_sub (lv' := [(0, .ref l0), (1, .int l1), (3, .int l3)]) [0, 1, 3] rfl ?_
    exact t_X9_intAt_20 l E c0 s0 k4 hk4 _ _ _ _ _ _ _
def f_X9_intAt_4 : Nat → Nat → Int32 → Int32 → Int32 → Mm → Prop → Int32 × Mm × Prop
  | 0, _, _, _, _, m, _ => (0, m, False)
  | n + 1, l0, l1, l2, l3, m, o => f_X9_intAt_4b (f_X9_intAt_4 n) l0 l1 l2 l3 m o
theorem t_X9_intAt_4 (l : Launch) (E : En) (c0 s0 : Nat) : ∀ (n : Nat) (l0 : Nat) (l1 : Int32) (l2 : Int32) (l3 : Int32) (m : Mm) (o : Prop), Mh wI l E mi_X9_intAt c0 s0 4 [(0, .ref l0), (1, .int l1), (2, .int l2), (3, .int l3)] [] m o (f_X9_intAt_4 n l0 l1 l2 l3 m o)
  | 0, _, _, _, _, _, _ => Mh_out rfl
  | n + 1, l0, l1, l2, l3, m, o => t_X9_intAt_4b l E c0 s0 (f_X9_intAt_4 n) (t_X9_intAt_4 l E c0 s0 n) l0 l1 l2 l3 m o
def f_X9_intAt_0 (l0 : Nat) (l1 : Int32) (m : Mm) (o : Prop) : Int32 × Mm × Prop := f_X9_intAt_4 1000 l0 l1 (0 : Int32) (0 : Int32) m o
set_option maxRecDepth 10000 in
theorem t_X9_intAt_0 (l : Launch) (E : En) (c0 s0 : Nat) (l0 : Nat) (l1 : Int32) (m : Mm) (o : Prop) : Mh wI l E mi_X9_intAt c0 s0 0 [(0, .ref l0), (1, .int l1)] [] m o (f_X9_intAt_0 l0 l1 m o) := by
  refine Mh_iconst (v := 0) dX9_intAt_0 (by decide) ?_
  refine Mh_istore_n (lv' := [(2, .int (0 : Int32)), (0, .ref l0), (1, .int l1)]) dX9_intAt_1 (Nat.le_of_ble_eq_true rfl) rfl ?_
  refine Mh_iconst (v := 0) dX9_intAt_2 (by decide) ?_
  refine Mh_istore_n (lv' := [(3, .int (0 : Int32)), (2, .int (0 : Int32)), (0, .ref l0), (1, .int l1)]) dX9_intAt_3 (Nat.le_of_ble_eq_true rfl) rfl ?_
  refine Mh_sub (lv' := [(0, .ref l0), (1, .int l1), (2, .int (0 : Int32)), (3, .int (0 : Int32))]) [2, 3, 1, 0] rfl ?_
  exact t_X9_intAt_4 l E c0 s0 _ _ _ _ _ _ _
def F_X9_intAt (a0 : Nat) (a1 : Int32) (m : Mm) (o : Prop) : Int32 × Mm × Prop := f_X9_intAt_0 a0 a1 m o
theorem T_X9_intAt (l : Launch) (E : En) (a0 : Nat) (a1 : Int32) (m : Mm) (o : Prop) : Mt wI l E yX9_intAt mi_X9_intAt [.ref a0, .int a1] m o (F_X9_intAt a0 a1 m o) :=
  Mt_I (by decide) rfl rfl rfl (Nat.le_of_ble_eq_true rfl) rfl (.inl rfl) (t_X9_intAt_0 l E _ _ _ _ _ _)
def f_X11_check_31 (m : Mm) (o : Prop) : Int32 × Mm × Prop := ((-2 : Int32), m, o)
set_option maxRecDepth 10000 in
theorem t_X11_check_31 (l : Launch) (E : En) (c0 s0 : Nat) (m : Mm) (o : Prop) : Mh wI l E mi_X11_check c0 s0 31 [] [] m o (f_X11_check_31  m o) := by
  refine Mh_bipush (v := (-2)) dX11_check_31 (by decide) ?_
  exact Mh_ret dX11_check_33 rfl (fun _ => rfl) rfl
def f_X11_check_109 (k39 : Nat → Int32 → Int32 → Int32 → Int32 → Mm → Prop → Int32 × Mm × Prop) (l0 : Nat) (l1 : Int32) (l2 : Int32) (l4 : Int32) (y0 : Int32) (m : Mm) (o : Prop) : Int32 × Mm × Prop := k39 l0 l1 l2 y0 (l4 + 1) m o
set_option maxRecDepth 10000 in
theorem t_X11_check_109 (l : Launch) (E : En) (c0 s0 : Nat) (k39 : Nat → Int32 → Int32 → Int32 → Int32 → Mm → Prop → Int32 × Mm × Prop) (hk39 : ∀ (l0 : Nat) (l1 : Int32) (l2 : Int32) (l3 : Int32) (l4 : Int32) (m : Mm) (o : Prop), Mh wI l E mi_X11_check c0 s0 39 [(0, .ref l0), (1, .int l1), (2, .int l2), (3, .int l3), (4, .int l4)] [] m o (k39 l0 l1 l2 l3 l4 m o)) (l0 : Nat) (l1 : Int32) (l2 : Int32) (l4 : Int32) (y0 : Int32) (m : Mm) (o : Prop) : Mh wI l E mi_X11_check c0 s0 109 [(0, .ref l0), (1, .int l1), (2, .int l2), (4, .int l4)] [.int y0] m o (f_X11_check_109 k39 l0 l1 l2 l4 y0 m o) := by
  refine Mh_istore_n (lv' := [(3, .int y0), (0, .ref l0), (1, .int l1), (2, .int l2), (4, .int l4)]) dX11_check_109 (Nat.le_of_ble_eq_true rfl) rfl ?_
  refine Mh_iinc (v := l4 + 1) (lv' := [(4, .int (l4 + 1)), (3, .int y0), (0, .ref l0), (1, .int l1), (2, .int l2)]) 4 dX11_check_110 rfl rfl (Nat.le_of_ble_eq_true rfl) rfl ?_
  refine Mh_goto (tgt := 39) dX11_check_113 (by decide) ?_
  refine Mh_sub (lv' := [(0, .ref l0), (1, .int l1), (2, .int l2), (3, .int y0), (4, .int (l4 + 1))]) [2, 3, 4, 1, 0] rfl ?_
  exact hk39 _ _ _ _ _ _ _
def f_X11_check_96 (k39 : Nat → Int32 → Int32 → Int32 → Int32 → Mm → Prop → Int32 × Mm × Prop) (l0 : Nat) (l1 : Int32) (l2 : Int32) (l4 : Int32) (y0 : Int32) (m : Mm) (o : Prop) : Int32 × Mm × Prop := if y0 = 0 then (f_X11_check_109 k39 l0 l1 l2 l4 l4 m o) else (f_X11_check_109 k39 l0 l1 l2 l4 (-1 : Int32) m o)
set_option maxRecDepth 10000 in
theorem t_X11_check_96 (l : Launch) (E : En) (c0 s0 : Nat) (k39 : Nat → Int32 → Int32 → Int32 → Int32 → Mm → Prop → Int32 × Mm × Prop) (hk39 : ∀ (l0 : Nat) (l1 : Int32) (l2 : Int32) (l3 : Int32) (l4 : Int32) (m : Mm) (o : Prop), Mh wI l E mi_X11_check c0 s0 39 [(0, .ref l0), (1, .int l1), (2, .int l2), (3, .int l3), (4, .int l4)] [] m o (k39 l0 l1 l2 l3 l4 m o)) (l0 : Nat) (l1 : Int32) (l2 : Int32) (l4 : Int32) (y0 : Int32) (m : Mm) (o : Prop) : Mh wI l E mi_X11_check c0 s0 96 [(0, .ref l0), (1, .int l1), (2, .int l2), (4, .int l4)] [.int y0] m o (f_X11_check_96 k39 l0 l1 l2 l4 y0 m o) := by
  refine Mh_istore (lv' := [(5, .int y0), (0, .ref l0), (1, .int l1), (2, .int l2), (4, .int l4)]) dX11_check_96 (Nat.le_of_ble_eq_true rfl) rfl ?_
  refine Mh_iload 0 rfl dX11_check_98 ?_
  refine Mh_if_eq (tgt := 107) dX11_check_100 (by decide) rfl (fun _ => ?_) (fun _ => ?_)
  · refine Mh_iload 4 rfl dX11_check_107 ?_
    refine Mh_sub (lv' := [(0, .ref l0), (1, .int l1), (2, .int l2), (4, .int l4)]) [1, 2, 3, 4] rfl ?_
    exact t_X11_check_109 l E c0 s0 k39 hk39 _ _ _ _ _ _ _
  · refine Mh_iconst (v := (-1)) dX11_check_103 (by decide) ?_
    refine Mh_goto (tgt := 109) dX11_check_104 (by decide) ?_
    refine Mh_sub (lv' := [(0, .ref l0), (1, .int l1), (2, .int l2), (4, .int l4)]) [1, 2, 3, 4] rfl ?_
    exact t_X11_check_109 l E c0 s0 k39 hk39 _ _ _ _ _ _ _
def f_X11_check_95 (k39 : Nat → Int32 → Int32 → Int32 → Int32 → Mm → Prop → Int32 × Mm × Prop) (l0 : Nat) (l1 : Int32) (l2 : Int32) (l4 : Int32) (m : Mm) (o : Prop) : Int32 × Mm × Prop := f_X11_check_96 k39 l0 l1 l2 l4 (0 : Int32) m o
set_option maxRecDepth 10000 in
theorem t_X11_check_95 (l : Launch) (E : En) (c0 s0 : Nat) (k39 : Nat → Int32 → Int32 → Int32 → Int32 → Mm → Prop → Int32 × Mm × Prop) (hk39 : ∀ (l0 : Nat) (l1 : Int32) (l2 : Int32) (l3 : Int32) (l4 : Int32) (m : Mm) (o : Prop), Mh wI l E mi_X11_check c0 s0 39 [(0, .ref l0), (1, .int l1), (2, .int l2), (3, .int l3), (4, .int l4)] [] m o (k39 l0 l1 l2 l3 l4 m o)) (l0 : Nat) (l1 : Int32) (l2 : Int32) (l4 : Int32) (m : Mm) (o : Prop) : Mh wI l E mi_X11_check c0 s0 95 [(0, .ref l0), (1, .int l1), (2, .int l2), (4, .int l4)] [] m o (f_X11_check_95 k39 l0 l1 l2 l4 m o) := by
  refine Mh_iconst (v := 0) dX11_check_95 (by decide) ?_
  exact t_X11_check_96 l E c0 s0 k39 hk39 _ _ _ _ _ _ _
def f_X11_check_73 (k39 : Nat → Int32 → Int32 → Int32 → Int32 → Mm → Prop → Int32 × Mm × Prop) (l0 : Nat) (l1 : Int32) (l2 : Int32) (l4 : Int32) (y0 : Int32) (m : Mm) (o : Prop) : Int32 × Mm × Prop := if y0 = (gI m (gR m (gR m (gR m (gR m l0 0) 0) (ix l1)) 8) (ix l4)) then (f_X11_check_96 k39 l0 l1 l2 l4 (1 : Int32) m (((((o ∧ (gT m l0 = 11 ∧ gR m l0 0 ≠ 0)) ∧ (gT m (gR m l0 0) = 6 ∧ gR m (gR m l0 0) 0 ≠ 0)) ∧ (gT m (gR m (gR m l0 0) 0) = 24 ∧ vp_in l1 (gN m (gR m (gR m l0 0) 0)) ∧ gR m (gR m (gR m l0 0) 0) (ix l1) ≠ 0)) ∧ (gT m (gR m (gR m (gR m l0 0) 0) (ix l1)) = 8 ∧ gR m (gR m (gR m (gR m l0 0) 0) (ix l1)) 8 ≠ 0)) ∧ (gT m (gR m (gR m (gR m (gR m l0 0) 0) (ix l1)) 8) = 20 ∧ vp_in l4 (gN m (gR m (gR m (gR m (gR m l0 0) 0) (ix l1)) 8))))) else (f_X11_check_95 k39 l0 l1 l2 l4 m (((((o ∧ (gT m l0 = 11 ∧ gR m l0 0 ≠ 0)) ∧ (gT m (gR m l0 0) = 6 ∧ gR m (gR m l0 0) 0 ≠ 0)) ∧ (gT m (gR m (gR m l0 0) 0) = 24 ∧ vp_in l1 (gN m (gR m (gR m l0 0) 0)) ∧ gR m (gR m (gR m l0 0) 0) (ix l1) ≠ 0)) ∧ (gT m (gR m (gR m (gR m l0 0) 0) (ix l1)) = 8 ∧ gR m (gR m (gR m (gR m l0 0) 0) (ix l1)) 8 ≠ 0)) ∧ (gT m (gR m (gR m (gR m (gR m l0 0) 0) (ix l1)) 8) = 20 ∧ vp_in l4 (gN m (gR m (gR m (gR m (gR m l0 0) 0) (ix l1)) 8)))))
set_option maxRecDepth 10000 in
theorem t_X11_check_73 (l : Launch) (E : En) (c0 s0 : Nat) (k39 : Nat → Int32 → Int32 → Int32 → Int32 → Mm → Prop → Int32 × Mm × Prop) (hk39 : ∀ (l0 : Nat) (l1 : Int32) (l2 : Int32) (l3 : Int32) (l4 : Int32) (m : Mm) (o : Prop), Mh wI l E mi_X11_check c0 s0 39 [(0, .ref l0), (1, .int l1), (2, .int l2), (3, .int l3), (4, .int l4)] [] m o (k39 l0 l1 l2 l3 l4 m o)) (l0 : Nat) (l1 : Int32) (l2 : Int32) (l4 : Int32) (y0 : Int32) (m : Mm) (o : Prop) : Mh wI l E mi_X11_check c0 s0 73 [(0, .ref l0), (1, .int l1), (2, .int l2), (4, .int l4)] [.int y0] m o (f_X11_check_73 k39 l0 l1 l2 l4 y0 m o) := by
  refine Mh_aload_n 0 rfl dX11_check_73 ?_
  refine Mh_gR fd_10_0 fl_RX11_10 dX11_check_74 ?_
  refine Mh_gR fd_5_0 fl_RX11_101 dX11_check_77 ?_
  refine Mh_iload_n 1 rfl dX11_check_80 ?_
  refine Mh_aal 24 (.inl rfl) dX11_check_81 ?_
  refine Mh_gR fd_7_8 fl_RX11_217 dX11_check_82 ?_
  refine Mh_iload 3 rfl dX11_check_85 ?_
  refine Mh_ial dX11_check_87 ?_
  refine Mh_icmp_ne (tgt := 95) dX11_check_88 (by decide) rfl (fun _ => ?_) (fun _ => ?_)
  · exact t_X11_check_95 l E c0 s0 k39 hk39 _ _ _ _ _ _
  · refine Mh_iconst (v := 1) dX11_check_91 (by decide) ?_
    refine Mh_goto (tgt := 96) dX11_check_92 (by decide) ?_
    exact t_X11_check_96 l E c0 s0 k39 hk39 _ _ _ _ _ _ _
def f_X11_check_123 (l3 : Int32) (m : Mm) (o : Prop) : Int32 × Mm × Prop := (l3, m, o)
set_option maxRecDepth 10000 in
theorem t_X11_check_123 (l : Launch) (E : En) (c0 s0 : Nat) (l3 : Int32) (m : Mm) (o : Prop) : Mh wI l E mi_X11_check c0 s0 123 [(3, .int l3)] [] m o (f_X11_check_123 l3 m o) := by
  refine Mh_iload_n 0 rfl dX11_check_123 ?_
  exact Mh_ret dX11_check_124 rfl (fun _ => rfl) rfl
def f_X11_check_116 (l0 : Nat) (l3 : Int32) (m : Mm) (o : Prop) : Int32 × Mm × Prop := bnd (F_X9_empty (gR m l0 3) m ((o ∧ (gT m l0 = 11 ∧ gR m l0 3 ≠ 0)) ∧ gT m (gR m l0 3) = 9)) (fun _ m1 o1 => f_X11_check_123 l3 m1 o1)
set_option maxRecDepth 10000 in
theorem t_X11_check_116 (l : Launch) (E : En) (c0 s0 : Nat) (l0 : Nat) (l3 : Int32) (m : Mm) (o : Prop) : Mh wI l E mi_X11_check c0 s0 116 [(0, .ref l0), (3, .int l3)] [] m o (f_X11_check_116 l0 l3 m o) := by
  refine Mh_aload_n 0 rfl dX11_check_116 ?_
  refine Mh_gR fd_10_3 fl_RX11_25 dX11_check_117 ?_
  refine Mh_cvU (N := mi_X9_empty) (q := gR m l0 3) (ci := 8) (as := []) (st := []) (id) cg_yX9_empty (by decide) rfl rfl ml_RX11_149 iv_yX9_empty pd_yX9_empty rfl (by decide) (Nat.le_of_ble_eq_true rfl) rfl dX11_check_120 (T_X9_empty l E _ _ _) rfl ?_
  refine Mh_sub (lv' := [(3, .int l3)]) [1] rfl ?_
  exact t_X11_check_123 l E c0 s0 _ _ _
def f_X11_check_39b (k39 : Nat → Int32 → Int32 → Int32 → Int32 → Mm → Prop → Int32 × Mm × Prop) (l0 : Nat) (l1 : Int32) (l2 : Int32) (l3 : Int32) (l4 : Int32) (m : Mm) (o : Prop) : Int32 × Mm × Prop := if l2 ≤ l4 then (f_X11_check_116 l0 l3 m o) else (if l3 = (-1 : Int32) then (if (gI m (gR m l0 0) 7) ≤ l4 then (f_X11_check_95 k39 l0 l1 l2 l4 m ((o ∧ (gT m l0 = 11 ∧ gR m l0 0 ≠ 0)) ∧ gT m (gR m l0 0) = 6)) else (bnd (F_X9_intAt (gR m l0 3) ((4 : Int32) * l4) m ((((o ∧ (gT m l0 = 11 ∧ gR m l0 0 ≠ 0)) ∧ gT m (gR m l0 0) = 6) ∧ (gT m l0 = 11 ∧ gR m l0 3 ≠ 0)) ∧ gT m (gR m l0 3) = 9)) (fun v1 m1 o1 => f_X11_check_73 k39 l0 l1 l2 l4 v1 m1 o1))) else (f_X11_check_116 l0 l3 m o))
set_option maxRecDepth 10000 in
theorem t_X11_check_39b (l : Launch) (E : En) (c0 s0 : Nat) (k39 : Nat → Int32 → Int32 → Int32 → Int32 → Mm → Prop → Int32 × Mm × Prop) (hk39 : ∀ (l0 : Nat) (l1 : Int32) (l2 : Int32) (l3 : Int32) (l4 : Int32) (m : Mm) (o : Prop), Mh wI l E mi_X11_check c0 s0 39 [(0, .ref l0), (1, .int l1), (2, .int l2), (3, .int l3), (4, .int l4)] [] m o (k39 l0 l1 l2 l3 l4 m o)) (l0 : Nat) (l1 : Int32) (l2 : Int32) (l3 : Int32) (l4 : Int32) (m : Mm) (o : Prop) : Mh wI l E mi_X11_check c0 s0 39 [(0, .ref l0), (1, .int l1), (2, .int l2), (3, .int l3), (4, .int l4)] [] m o (f_X11_check_39b k39 l0 l1 l2 l3 l4 m o) := by
  refine Mh_iload 4 rfl dX11_check_39 ?_
  refine Mh_iload_n 2 rfl dX11_check_41 ?_
  refine Mh_icmp_ge (tgt := 116) dX11_check_42 (by decide) rfl (fun _ => ?_) (fun _ => ?_)
  · refine Mh_sub (lv' := [(0, .ref l0), (3, .int l3)]) [0, 3] rfl ?_
    exact t_X11_check_116 l E c0 s0 _ _ _ _
  · refine Mh_iload_n 3 rfl dX11_check_45 ?_
    refine Mh_iconst (v := (-1)) dX11_check_46 (by decide) ?_
    refine Mh_icmp_ne (tgt := 116) dX11_check_47 (by decide) rfl (fun _ => ?_) (fun _ => ?_)
    · refine Mh_sub (lv' := [(0, .ref l0), (3, .int l3)]) [0, 3] rfl ?_
      exact t_X11_check_116 l E c0 s0 _ _ _ _
    · refine Mh_iload 4 rfl dX11_check_50 ?_
      refine Mh_aload_n 0 rfl dX11_check_52 ?_
      refine Mh_gR fd_10_0 fl_RX11_10 dX11_check_53 ?_
      refine Mh_gI fd_5_7 fl_RX11_111 dX11_check_56 ?_
      refine Mh_icmp_ge (tgt := 95) dX11_check_59 (by decide) rfl (fun _ => ?_) (fun _ => ?_)
      · refine Mh_sub (lv' := [(0, .ref l0), (1, .int l1), (2, .int l2), (4, .int l4)]) [0, 1, 2, 4] rfl ?_
        exact t_X11_check_95 l E c0 s0 k39 hk39 _ _ _ _ _ _
      · refine Mh_aload_n 0 rfl dX11_check_62 ?_
        refine Mh_gR fd_10_3 fl_RX11_25 dX11_check_63 ?_
        refine Mh_iconst (v := 4) dX11_check_66 (by decide) ?_
        refine Mh_iload 4 rfl dX11_check_67 ?_
        refine Mh_imul dX11_check_69 ?_
        refine Mh_cvI (N := mi_X9_intAt) (q := gR m l0 3) (ci := 8) (as := [.int ((4 : Int32) * l4)]) (st := []) (id) cg_yX9_intAt (by decide) rfl rfl ml_RX11_308 iv_yX9_intAt pd_yX9_intAt rfl (by decide) (Nat.le_of_ble_eq_true rfl) rfl dX11_check_70 (T_X9_intAt l E _ _ _ _) rfl ?_
        refine Mh_sub (lv' := [(0, .ref l0), (1, .int l1), (2, .int l2), (4, .int l4)]) [0, 1, 2, 4] rfl ?_
        exact t_X11_check_73 l E c0 s0 k39 hk39 _ _ _ _ _ _ _
def f_X11_check_39 : Nat → Nat → Int32 → Int32 → Int32 → Int32 → Mm → Prop → Int32 × Mm × Prop
  | 0, _, _, _, _, _, m, _ => (0, m, False)
  | n + 1, l0, l1, l2, l3, l4, m, o => f_X11_check_39b (f_X11_check_39 n) l0 l1 l2 l3 l4 m o
theorem t_X11_check_39 (l : Launch) (E : En) (c0 s0 : Nat) : ∀ (n : Nat) (l0 : Nat) (l1 : Int32) (l2 : Int32) (l3 : Int32) (l4 : Int32) (m : Mm) (o : Prop), Mh wI l E mi_X11_check c0 s0 39 [(0, .ref l0), (1, .int l1), (2, .int l2), (3, .int l3), (4, .int l4)] [] m o (f_X11_check_39 n l0 l1 l2 l3 l4 m o)
  | 0, _, _, _, _, _, _, _ => Mh_out rfl
  | n + 1, l0, l1, l2, l3, l4, m, o => t_X11_check_39b l E c0 s0 (f_X11_check_39 n) (t_X11_check_39 l E c0 s0 n) l0 l1 l2 l3 l4 m o
def f_X11_check_15 (l0 : Nat) (l1 : Int32) (l2 : Int32) (y0 : Int32) (m : Mm) (o : Prop) : Int32 × Mm × Prop := if y0 = 0 then (f_X11_check_31  m o) else (if ((4 : Int32) * l2) ≤ (gI m (gR m l0 3) 1) then (f_X11_check_39 1000 l0 l1 l2 (-1 : Int32) (0 : Int32) m ((o ∧ (gT m l0 = 11 ∧ gR m l0 3 ≠ 0)) ∧ gT m (gR m l0 3) = 9)) else (f_X11_check_31  m ((o ∧ (gT m l0 = 11 ∧ gR m l0 3 ≠ 0)) ∧ gT m (gR m l0 3) = 9)))
set_option maxRecDepth 10000 in
theorem t_X11_check_15 (l : Launch) (E : En) (c0 s0 : Nat) (l0 : Nat) (l1 : Int32) (l2 : Int32) (y0 : Int32) (m : Mm) (o : Prop) : Mh wI l E mi_X11_check c0 s0 15 [(0, .ref l0), (1, .int l1), (2, .int l2)] [.int y0] m o (f_X11_check_15 l0 l1 l2 y0 m o) := by
  refine Mh_if_eq (tgt := 31) dX11_check_15 (by decide) rfl (fun _ => ?_) (fun _ => ?_)
  · refine Mh_sub (lv' := []) [] rfl ?_
    exact t_X11_check_31 l E c0 s0  _ _
  · refine Mh_iconst (v := 4) dX11_check_18 (by decide) ?_
    refine Mh_iload_n 2 rfl dX11_check_19 ?_
    refine Mh_imul dX11_check_20 ?_
    refine Mh_aload_n 0 rfl dX11_check_21 ?_
    refine Mh_gR fd_10_3 fl_RX11_25 dX11_check_22 ?_
    refine Mh_gI fd_8_1 fl_RX11_138 dX11_check_25 ?_
    refine Mh_icmp_le (tgt := 34) dX11_check_28 (by decide) rfl (fun _ => ?_) (fun _ => ?_)
    · refine Mh_iconst (v := (-1)) dX11_check_34 (by decide) ?_
      refine Mh_istore_n (lv' := [(3, .int (-1 : Int32)), (0, .ref l0), (1, .int l1), (2, .int l2)]) dX11_check_35 (Nat.le_of_ble_eq_true rfl) rfl ?_
      refine Mh_iconst (v := 0) dX11_check_36 (by decide) ?_
      refine Mh_istore (lv' := [(4, .int (0 : Int32)), (3, .int (-1 : Int32)), (0, .ref l0), (1, .int l1), (2, .int l2)]) dX11_check_37 (Nat.le_of_ble_eq_true rfl) rfl ?_
      refine Mh_sub (lv' := [(0, .ref l0), (1, .int l1), (2, .int l2), (3, .int (-1 : Int32)), (4, .int (0 : Int32))]) [2, 3, 4, 1, 0] rfl ?_
      exact t_X11_check_39 l E c0 s0 _ _ _ _ _ _ _ _
    · refine Mh_sub (lv' := []) [] rfl ?_
      exact t_X11_check_31 l E c0 s0  _ _
def f_X11_check_5 (l0 : Nat) (l1 : Int32) (l2 : Int32) (y0 : Int32) (m : Mm) (o : Prop) : Int32 × Mm × Prop := if y0 = 0 then (f_X11_check_31  m o) else (bnd (F_X11_isWithin l2 (0 : Int32) (16 : Int32) m o) (fun v1 m1 o1 => f_X11_check_15 l0 l1 l2 v1 m1 o1))
set_option maxRecDepth 10000 in
theorem t_X11_check_5 (l : Launch) (E : En) (c0 s0 : Nat) (l0 : Nat) (l1 : Int32) (l2 : Int32) (y0 : Int32) (m : Mm) (o : Prop) : Mh wI l E mi_X11_check c0 s0 5 [(0, .ref l0), (1, .int l1), (2, .int l2)] [.int y0] m o (f_X11_check_5 l0 l1 l2 y0 m o) := by
  refine Mh_if_eq (tgt := 31) dX11_check_5 (by decide) rfl (fun _ => ?_) (fun _ => ?_)
  · refine Mh_sub (lv' := []) [] rfl ?_
    exact t_X11_check_31 l E c0 s0  _ _
  · refine Mh_iload_n 2 rfl dX11_check_8 ?_
    refine Mh_iconst (v := 0) dX11_check_9 (by decide) ?_
    refine Mh_bipush (v := 16) dX11_check_10 (by decide) ?_
    refine Mh_csI (N := mi_X11_isWithin) (as := [.int l2, .int (0 : Int32), .int (16 : Int32)]) (st := []) cg_yX11_isWithin (.inl ml_RX11_90) sv_yX11_isWithin pd_yX11_isWithin rfl (by decide) (Nat.le_of_ble_eq_true rfl) rfl dX11_check_12 (T_X11_isWithin l E _ _ _ _ _) rfl ?_
    exact t_X11_check_15 l E c0 s0 _ _ _ _ _ _
def f_X11_check_0 (l0 : Nat) (l1 : Int32) (l2 : Int32) (m : Mm) (o : Prop) : Int32 × Mm × Prop := bnd (F_X11_hasStack l0 l1 m (o ∧ gT m l0 = 11)) (fun v1 m1 o1 => f_X11_check_5 l0 l1 l2 v1 m1 o1)
set_option maxRecDepth 10000 in
theorem t_X11_check_0 (l : Launch) (E : En) (c0 s0 : Nat) (l0 : Nat) (l1 : Int32) (l2 : Int32) (m : Mm) (o : Prop) : Mh wI l E mi_X11_check c0 s0 0 [(0, .ref l0), (1, .int l1), (2, .int l2)] [] m o (f_X11_check_0 l0 l1 l2 m o) := by
  refine Mh_aload_n 0 rfl dX11_check_0 ?_
  refine Mh_iload_n 1 rfl dX11_check_1 ?_
  refine Mh_cvI (N := mi_X11_hasStack) (q := l0) (ci := 10) (as := [.int l1]) (st := []) (id) cg_yX11_hasStack (by decide) rfl rfl ml_RX11_166 iv_yX11_hasStack pd_yX11_hasStack rfl (by decide) (Nat.le_of_ble_eq_true rfl) rfl dX11_check_2 (T_X11_hasStack l E _ _ _ _) rfl ?_
  exact t_X11_check_5 l E c0 s0 _ _ _ _ _ _
def F_X11_check (a0 : Nat) (a1 : Int32) (a2 : Int32) (m : Mm) (o : Prop) : Int32 × Mm × Prop := f_X11_check_0 a0 a1 a2 m o
theorem T_X11_check (l : Launch) (E : En) (a0 : Nat) (a1 : Int32) (a2 : Int32) (m : Mm) (o : Prop) : Mt wI l E yX11_check mi_X11_check [.ref a0, .int a1, .int a2] m o (F_X11_check a0 a1 a2 m o) :=
  Mt_I (by decide) rfl rfl rfl (Nat.le_of_ble_eq_true rfl) rfl (.inl rfl) (t_X11_check_0 l E _ _ _ _ _ _ _)
def f_X11_hasCow_14 (y0 : Int32) (m : Mm) (o : Prop) : Int32 × Mm × Prop := (y0, m, o ∧ (y0 = 0 ∨ y0 = 1))
set_option maxRecDepth 10000 in
theorem t_X11_hasCow_14 (l : Launch) (E : En) (c0 s0 : Nat) (y0 : Int32) (m : Mm) (o : Prop) : Mh wI l E mi_X11_hasCow c0 s0 14 [] [.int y0] m o (f_X11_hasCow_14 y0 m o) := by
  exact Mh_retZ dX11_hasCow_14 (.inl rfl) rfl
def f_X11_hasCow_0 (l0 : Nat) (l1 : Int32) (m : Mm) (o : Prop) : Int32 × Mm × Prop := bnd (F_X11_isWithin l1 (0 : Int32) ((gI m (gR m l0 0) 7) - (1 : Int32)) m ((o ∧ (gT m l0 = 11 ∧ gR m l0 0 ≠ 0)) ∧ gT m (gR m l0 0) = 6)) (fun v1 m1 o1 => f_X11_hasCow_14 v1 m1 o1)
set_option maxRecDepth 10000 in
theorem t_X11_hasCow_0 (l : Launch) (E : En) (c0 s0 : Nat) (l0 : Nat) (l1 : Int32) (m : Mm) (o : Prop) : Mh wI l E mi_X11_hasCow c0 s0 0 [(0, .ref l0), (1, .int l1)] [] m o (f_X11_hasCow_0 l0 l1 m o) := by
  refine Mh_iload_n 1 rfl dX11_hasCow_0 ?_
  refine Mh_iconst (v := 0) dX11_hasCow_1 (by decide) ?_
  refine Mh_aload_n 0 rfl dX11_hasCow_2 ?_
  refine Mh_gR fd_10_0 fl_RX11_10 dX11_hasCow_3 ?_
  refine Mh_gI fd_5_7 fl_RX11_111 dX11_hasCow_6 ?_
  refine Mh_iconst (v := 1) dX11_hasCow_9 (by decide) ?_
  refine Mh_isub dX11_hasCow_10 ?_
  refine Mh_csI (N := mi_X11_isWithin) (as := [.int l1, .int (0 : Int32), .int ((gI m (gR m l0 0) 7) - (1 : Int32))]) (st := []) cg_yX11_isWithin (.inl ml_RX11_90) sv_yX11_isWithin pd_yX11_isWithin rfl (by decide) (Nat.le_of_ble_eq_true rfl) rfl dX11_hasCow_11 (T_X11_isWithin l E _ _ _ _ _) rfl ?_
  refine Mh_sub (lv' := []) [] rfl ?_
  exact t_X11_hasCow_14 l E c0 s0 _ _ _
def F_X11_hasCow (a0 : Nat) (a1 : Int32) (m : Mm) (o : Prop) : Int32 × Mm × Prop := f_X11_hasCow_0 a0 a1 m o
theorem T_X11_hasCow (l : Launch) (E : En) (a0 : Nat) (a1 : Int32) (m : Mm) (o : Prop) : Mt wI l E yX11_hasCow mi_X11_hasCow [.ref a0, .int a1] m o (F_X11_hasCow a0 a1 m o) :=
  Mt_I (by decide) rfl rfl rfl (Nat.le_of_ble_eq_true rfl) rfl (.inr (.inl rfl)) (t_X11_hasCow_0 l E _ _ _ _ _ _)
def f_X11_chooses_29 (y0 : Int32) (m : Mm) (o : Prop) : Int32 × Mm × Prop := (y0, m, o)
set_option maxRecDepth 10000 in
theorem t_X11_chooses_29 (l : Launch) (E : En) (c0 s0 : Nat) (y0 : Int32) (m : Mm) (o : Prop) : Mh wI l E mi_X11_chooses c0 s0 29 [] [.int y0] m o (f_X11_chooses_29 y0 m o) := by
  exact Mh_ret dX11_chooses_29 rfl (fun _ => rfl) rfl
def f_X11_chooses_17 (l0 : Nat) (l1 : Int32) (m : Mm) (o : Prop) : Int32 × Mm × Prop := bnd (F_X5_bestStack (gR m l0 0) (gR m l0 9) l1 m (((o ∧ (gT m l0 = 11 ∧ gR m l0 0 ≠ 0)) ∧ (gT m l0 = 11 ∧ gR m l0 9 ≠ 0)) ∧ gT m (gR m l0 0) = 6)) (fun v1 m1 o1 => f_X11_chooses_29 v1 m1 o1)
set_option maxRecDepth 10000 in
theorem t_X11_chooses_17 (l : Launch) (E : En) (c0 s0 : Nat) (l0 : Nat) (l1 : Int32) (m : Mm) (o : Prop) : Mh wI l E mi_X11_chooses c0 s0 17 [(0, .ref l0), (1, .int l1)] [] m o (f_X11_chooses_17 l0 l1 m o) := by
  refine Mh_aload_n 0 rfl dX11_chooses_17 ?_
  refine Mh_gR fd_10_0 fl_RX11_10 dX11_chooses_18 ?_
  refine Mh_aload_n 0 rfl dX11_chooses_21 ?_
  refine Mh_gR fd_10_9 fl_RX11_71 dX11_chooses_22 ?_
  refine Mh_iload_n 1 rfl dX11_chooses_25 ?_
  refine Mh_cvI (N := mi_X5_bestStack) (q := gR m l0 0) (ci := 5) (as := [.ref (gR m l0 9), .int l1]) (st := []) (id) cg_yX5_bestStack (by decide) rfl rfl ml_RX11_159 iv_yX5_bestStack pd_yX5_bestStack rfl (by decide) (Nat.le_of_ble_eq_true rfl) rfl dX11_chooses_26 (T_X5_bestStack l E _ _ _ _ _) rfl ?_
  refine Mh_sub (lv' := []) [] rfl ?_
  exact t_X11_chooses_29 l E c0 s0 _ _ _
def f_X11_chooses_5 (l0 : Nat) (l1 : Int32) (y0 : Int32) (m : Mm) (o : Prop) : Int32 × Mm × Prop := if y0 = 0 then ((-1 : Int32), m, o) else (bnd (F_X5_forgetAmounts (gR m l0 0) m ((o ∧ (gT m l0 = 11 ∧ gR m l0 0 ≠ 0)) ∧ gT m (gR m l0 0) = 6)) (fun _ m1 o1 => f_X11_chooses_17 l0 l1 m1 o1))
set_option maxRecDepth 10000 in
theorem t_X11_chooses_5 (l : Launch) (E : En) (c0 s0 : Nat) (l0 : Nat) (l1 : Int32) (y0 : Int32) (m : Mm) (o : Prop) : Mh wI l E mi_X11_chooses c0 s0 5 [(0, .ref l0), (1, .int l1)] [.int y0] m o (f_X11_chooses_5 l0 l1 y0 m o) := by
  refine Mh_if_ne (tgt := 10) dX11_chooses_5 (by decide) rfl (fun _ => ?_) (fun _ => ?_)
  · refine Mh_aload_n 0 rfl dX11_chooses_10 ?_
    refine Mh_gR fd_10_0 fl_RX11_10 dX11_chooses_11 ?_
    refine Mh_cvU (N := mi_X5_forgetAmounts) (q := gR m l0 0) (ci := 5) (as := []) (st := []) (id) cg_yX5_forgetAmounts (by decide) rfl rfl ml_RX11_156 iv_yX5_forgetAmounts pd_yX5_forgetAmounts rfl (by decide) (Nat.le_of_ble_eq_true rfl) rfl dX11_chooses_14 (T_X5_forgetAmounts l E _ _ _) rfl ?_
    exact t_X11_chooses_17 l E c0 s0 _ _ _ _
  · refine Mh_iconst (v := (-1)) dX11_chooses_8 (by decide) ?_
    exact Mh_ret dX11_chooses_9 rfl (fun _ => rfl) rfl
def f_X11_chooses_0 (l0 : Nat) (l1 : Int32) (m : Mm) (o : Prop) : Int32 × Mm × Prop := bnd (F_X11_hasCow l0 l1 m (o ∧ gT m l0 = 11)) (fun v1 m1 o1 => f_X11_chooses_5 l0 l1 v1 m1 o1)
set_option maxRecDepth 10000 in
theorem t_X11_chooses_0 (l : Launch) (E : En) (c0 s0 : Nat) (l0 : Nat) (l1 : Int32) (m : Mm) (o : Prop) : Mh wI l E mi_X11_chooses c0 s0 0 [(0, .ref l0), (1, .int l1)] [] m o (f_X11_chooses_0 l0 l1 m o) := by
  refine Mh_aload_n 0 rfl dX11_chooses_0 ?_
  refine Mh_iload_n 1 rfl dX11_chooses_1 ?_
  refine Mh_cvI (N := mi_X11_hasCow) (q := l0) (ci := 10) (as := [.int l1]) (st := []) (id) cg_yX11_hasCow (by decide) rfl rfl ml_RX11_124 iv_yX11_hasCow pd_yX11_hasCow rfl (by decide) (Nat.le_of_ble_eq_true rfl) rfl dX11_chooses_2 (T_X11_hasCow l E _ _ _ _) rfl ?_
  exact t_X11_chooses_5 l E c0 s0 _ _ _ _ _
def F_X11_chooses (a0 : Nat) (a1 : Int32) (m : Mm) (o : Prop) : Int32 × Mm × Prop := f_X11_chooses_0 a0 a1 m o
theorem T_X11_chooses (l : Launch) (E : En) (a0 : Nat) (a1 : Int32) (m : Mm) (o : Prop) : Mt wI l E yX11_chooses mi_X11_chooses [.ref a0, .int a1] m o (F_X11_chooses a0 a1 m o) :=
  Mt_I (by decide) rfl rfl rfl (Nat.le_of_ble_eq_true rfl) rfl (.inl rfl) (t_X11_chooses_0 l E _ _ _ _ _ _)
