def f_X1_unlike_4b (k4 : Nat → Nat → Int32 → Int32 → Mm → Prop → Int32 × Mm × Prop) (l0 : Nat) (l1 : Nat) (l2 : Int32) (l3 : Int32) (m : Mm) (o : Prop) : Int32 × Mm × Prop := if (5 : Int32) ≤ l3 then (l2, m, o) else (k4 l0 l1 (l2 + (if 0 ≤ ((gI m (gR m l0 5) (ix l3)) - (gI m (gR m l1 5) (ix l3))) then ((gI m (gR m l0 5) (ix l3)) - (gI m (gR m l1 5) (ix l3))) else 0 - ((gI m (gR m l0 5) (ix l3)) - (gI m (gR m l1 5) (ix l3))))) (l3 + 1) m ((((o ∧ (gT m l0 = 2 ∧ gR m l0 5 ≠ 0)) ∧ (gT m (gR m l0 5) = 20 ∧ vp_in l3 (gN m (gR m l0 5)))) ∧ (gT m l1 = 2 ∧ gR m l1 5 ≠ 0)) ∧ (gT m (gR m l1 5) = 20 ∧ vp_in l3 (gN m (gR m l1 5)))))
set_option maxRecDepth 10000 in
theorem t_X1_unlike_4b (l : Launch) (E : En) (c0 s0 : Nat) (k4 : Nat → Nat → Int32 → Int32 → Mm → Prop → Int32 × Mm × Prop) (hk4 : ∀ (l0 : Nat) (l1 : Nat) (l2 : Int32) (l3 : Int32) (m : Mm) (o : Prop), Mh wI l E mi_X1_unlike c0 s0 4 [(0, .ref l0), (1, .ref l1), (2, .int l2), (3, .int l3)] [] m o (k4 l0 l1 l2 l3 m o)) (l0 : Nat) (l1 : Nat) (l2 : Int32) (l3 : Int32) (m : Mm) (o : Prop) : Mh wI l E mi_X1_unlike c0 s0 4 [(0, .ref l0), (1, .ref l1), (2, .int l2), (3, .int l3)] [] m o (f_X1_unlike_4b k4 l0 l1 l2 l3 m o) := by
  refine Mh_iload_n 3 rfl dX1_unlike_4 ?_
  refine Mh_iconst (v := 5) dX1_unlike_5 (by decide) ?_
  refine Mh_icmp_ge (tgt := 34) dX1_unlike_6 (by decide) rfl (fun _ => ?_) (fun _ => ?_)
  · refine Mh_iload_n 2 rfl dX1_unlike_34 ?_
    exact Mh_ret dX1_unlike_35 rfl (fun _ => rfl) rfl
  · refine Mh_iload_n 2 rfl dX1_unlike_9 ?_
    refine Mh_aload_n 0 rfl dX1_unlike_10 ?_
    refine Mh_gR fd_1_5 fl_RX1_9 dX1_unlike_11 ?_
    refine Mh_iload_n 3 rfl dX1_unlike_14 ?_
    refine Mh_ial dX1_unlike_15 ?_
    refine Mh_aload_n 1 rfl dX1_unlike_16 ?_
    refine Mh_gR fd_1_5 fl_RX1_9 dX1_unlike_17 ?_
    refine Mh_iload_n 3 rfl dX1_unlike_20 ?_
    refine Mh_ial dX1_unlike_21 ?_
    refine Mh_isub dX1_unlike_22 ?_
    refine Mh_abs (by decide) ml_RX1_31 ma_abs_1 ma_2 ma_abs_3 (Nat.le_of_ble_eq_true rfl) dX1_unlike_23 ?_
    refine Mh_iadd dX1_unlike_26 ?_
    refine Mh_istore_n (lv' := [(2, .int (l2 + (if 0 ≤ ((gI m (gR m l0 5) (ix l3)) - (gI m (gR m l1 5) (ix l3))) then ((gI m (gR m l0 5) (ix l3)) - (gI m (gR m l1 5) (ix l3))) else 0 - ((gI m (gR m l0 5) (ix l3)) - (gI m (gR m l1 5) (ix l3)))))), (0, .ref l0), (1, .ref l1), (3, .int l3)]) dX1_unlike_27 (Nat.le_of_ble_eq_true rfl) rfl ?_
    refine Mh_iinc (v := l3 + 1) (lv' := [(3, .int (l3 + 1)), (2, .int (l2 + (if 0 ≤ ((gI m (gR m l0 5) (ix l3)) - (gI m (gR m l1 5) (ix l3))) then ((gI m (gR m l0 5) (ix l3)) - (gI m (gR m l1 5) (ix l3))) else 0 - ((gI m (gR m l0 5) (ix l3)) - (gI m (gR m l1 5) (ix l3)))))), (0, .ref l0), (1, .ref l1)]) 3 dX1_unlike_28 rfl rfl (Nat.le_of_ble_eq_true rfl) rfl ?_
    refine Mh_goto (tgt := 4) dX1_unlike_31 (by decide) ?_
    refine Mh_sub (lv' := [(0, .ref l0), (1, .ref l1), (2, .int (l2 + (if 0 ≤ ((gI m (gR m l0 5) (ix l3)) - (gI m (gR m l1 5) (ix l3))) then ((gI m (gR m l0 5) (ix l3)) - (gI m (gR m l1 5) (ix l3))) else 0 - ((gI m (gR m l0 5) (ix l3)) - (gI m (gR m l1 5) (ix l3)))))), (3, .int (l3 + 1))]) [2, 3, 1, 0] rfl ?_
    exact hk4 _ _ _ _ _ _
def f_X1_unlike_4 : Nat → Nat → Nat → Int32 → Int32 → Mm → Prop → Int32 × Mm × Prop
  | 0, _, _, _, _, m, _ => (0, m, False)
  | n + 1, l0, l1, l2, l3, m, o => f_X1_unlike_4b (f_X1_unlike_4 n) l0 l1 l2 l3 m o
theorem t_X1_unlike_4 (l : Launch) (E : En) (c0 s0 : Nat) : ∀ (n : Nat) (l0 : Nat) (l1 : Nat) (l2 : Int32) (l3 : Int32) (m : Mm) (o : Prop), Mh wI l E mi_X1_unlike c0 s0 4 [(0, .ref l0), (1, .ref l1), (2, .int l2), (3, .int l3)] [] m o (f_X1_unlike_4 n l0 l1 l2 l3 m o)
  | 0, _, _, _, _, _, _ => Mh_out rfl
  | n + 1, l0, l1, l2, l3, m, o => t_X1_unlike_4b l E c0 s0 (f_X1_unlike_4 n) (t_X1_unlike_4 l E c0 s0 n) l0 l1 l2 l3 m o
def f_X1_unlike_0 (l0 : Nat) (l1 : Nat) (m : Mm) (o : Prop) : Int32 × Mm × Prop := f_X1_unlike_4 1000 l0 l1 (0 : Int32) (0 : Int32) m o
set_option maxRecDepth 10000 in
theorem t_X1_unlike_0 (l : Launch) (E : En) (c0 s0 : Nat) (l0 : Nat) (l1 : Nat) (m : Mm) (o : Prop) : Mh wI l E mi_X1_unlike c0 s0 0 [(0, .ref l0), (1, .ref l1)] [] m o (f_X1_unlike_0 l0 l1 m o) := by
  refine Mh_iconst (v := 0) dX1_unlike_0 (by decide) ?_
  refine Mh_istore_n (lv' := [(2, .int (0 : Int32)), (0, .ref l0), (1, .ref l1)]) dX1_unlike_1 (Nat.le_of_ble_eq_true rfl) rfl ?_
  refine Mh_iconst (v := 0) dX1_unlike_2 (by decide) ?_
  refine Mh_istore_n (lv' := [(3, .int (0 : Int32)), (2, .int (0 : Int32)), (0, .ref l0), (1, .ref l1)]) dX1_unlike_3 (Nat.le_of_ble_eq_true rfl) rfl ?_
  refine Mh_sub (lv' := [(0, .ref l0), (1, .ref l1), (2, .int (0 : Int32)), (3, .int (0 : Int32))]) [2, 3, 1, 0] rfl ?_
  exact t_X1_unlike_4 l E c0 s0 _ _ _ _ _ _ _
def F_X1_unlike (a0 : Nat) (a1 : Nat) (m : Mm) (o : Prop) : Int32 × Mm × Prop := f_X1_unlike_0 a0 a1 m o
theorem T_X1_unlike (l : Launch) (E : En) (a0 : Nat) (a1 : Nat) (m : Mm) (o : Prop) : Mt wI l E yX1_unlike mi_X1_unlike [.ref a0, .ref a1] m o (F_X1_unlike a0 a1 m o) :=
  Mt_I (by decide) rfl rfl rfl (Nat.le_of_ble_eq_true rfl) rfl (.inl rfl) (t_X1_unlike_0 l E _ _ _ _ _ _)
def f_X11_foreseen_103 (k18 : Nat → Int32 → Int32 → Int32 → Int32 → Mm → Prop → Int32 × Mm × Prop) (l0 : Nat) (l1 : Int32) (l2 : Int32) (l3 : Int32) (l4 : Int32) (m : Mm) (o : Prop) : Int32 × Mm × Prop := k18 l0 l1 l2 l3 (l4 + 1) m o
set_option maxRecDepth 10000 in
theorem t_X11_foreseen_103 (l : Launch) (E : En) (c0 s0 : Nat) (k18 : Nat → Int32 → Int32 → Int32 → Int32 → Mm → Prop → Int32 × Mm × Prop) (hk18 : ∀ (l0 : Nat) (l1 : Int32) (l2 : Int32) (l3 : Int32) (l4 : Int32) (m : Mm) (o : Prop), Mh wI l E mi_X11_foreseen c0 s0 18 [(0, .ref l0), (1, .int l1), (2, .int l2), (3, .int l3), (4, .int l4)] [] m o (k18 l0 l1 l2 l3 l4 m o)) (l0 : Nat) (l1 : Int32) (l2 : Int32) (l3 : Int32) (l4 : Int32) (m : Mm) (o : Prop) : Mh wI l E mi_X11_foreseen c0 s0 103 [(0, .ref l0), (1, .int l1), (2, .int l2), (3, .int l3), (4, .int l4)] [] m o (f_X11_foreseen_103 k18 l0 l1 l2 l3 l4 m o) := by
  refine Mh_iinc (v := l4 + 1) (lv' := [(4, .int (l4 + 1)), (0, .ref l0), (1, .int l1), (2, .int l2), (3, .int l3)]) 4 dX11_foreseen_103 rfl rfl (Nat.le_of_ble_eq_true rfl) rfl ?_
  refine Mh_goto (tgt := 18) dX11_foreseen_106 (by decide) ?_
  refine Mh_sub (lv' := [(0, .ref l0), (1, .int l1), (2, .int l2), (3, .int l3), (4, .int (l4 + 1))]) [1, 2, 3, 4, 0] rfl ?_
  exact hk18 _ _ _ _ _ _ _
def f_X11_foreseen_97 (k18 : Nat → Int32 → Int32 → Int32 → Int32 → Mm → Prop → Int32 × Mm × Prop) (l0 : Nat) (l1 : Int32) (l4 : Int32) (l5 : Int32) (l6 : Int32) (m : Mm) (o : Prop) : Int32 × Mm × Prop := f_X11_foreseen_103 k18 l0 l1 l5 l6 l4 m o
set_option maxRecDepth 10000 in
theorem t_X11_foreseen_97 (l : Launch) (E : En) (c0 s0 : Nat) (k18 : Nat → Int32 → Int32 → Int32 → Int32 → Mm → Prop → Int32 × Mm × Prop) (hk18 : ∀ (l0 : Nat) (l1 : Int32) (l2 : Int32) (l3 : Int32) (l4 : Int32) (m : Mm) (o : Prop), Mh wI l E mi_X11_foreseen c0 s0 18 [(0, .ref l0), (1, .int l1), (2, .int l2), (3, .int l3), (4, .int l4)] [] m o (k18 l0 l1 l2 l3 l4 m o)) (l0 : Nat) (l1 : Int32) (l4 : Int32) (l5 : Int32) (l6 : Int32) (m : Mm) (o : Prop) : Mh wI l E mi_X11_foreseen c0 s0 97 [(0, .ref l0), (1, .int l1), (4, .int l4), (5, .int l5), (6, .int l6)] [] m o (f_X11_foreseen_97 k18 l0 l1 l4 l5 l6 m o) := by
  refine Mh_iload 3 rfl dX11_foreseen_97 ?_
  refine Mh_istore_n (lv' := [(2, .int l5), (0, .ref l0), (1, .int l1), (4, .int l4), (5, .int l5), (6, .int l6)]) dX11_foreseen_99 (Nat.le_of_ble_eq_true rfl) rfl ?_
  refine Mh_iload 5 rfl dX11_foreseen_100 ?_
  refine Mh_istore_n (lv' := [(3, .int l6), (2, .int l5), (0, .ref l0), (1, .int l1), (4, .int l4), (5, .int l5), (6, .int l6)]) dX11_foreseen_102 (Nat.le_of_ble_eq_true rfl) rfl ?_
  refine Mh_sub (lv' := [(0, .ref l0), (1, .int l1), (2, .int l5), (3, .int l6), (4, .int l4)]) [2, 3, 1, 0, 4] rfl ?_
  exact t_X11_foreseen_103 l E c0 s0 k18 hk18 _ _ _ _ _ _ _
def f_X11_foreseen_83 (k18 : Nat → Int32 → Int32 → Int32 → Int32 → Mm → Prop → Int32 × Mm × Prop) (l0 : Nat) (l1 : Int32) (l2 : Int32) (l3 : Int32) (l4 : Int32) (l5 : Int32) (y0 : Int32) (m : Mm) (o : Prop) : Int32 × Mm × Prop := if l2 = (-2 : Int32) then (f_X11_foreseen_97 k18 l0 l1 l4 l5 y0 m o) else (if l3 ≤ y0 then (f_X11_foreseen_103 k18 l0 l1 l2 l3 l4 m o) else (f_X11_foreseen_97 k18 l0 l1 l4 l5 y0 m o))
set_option maxRecDepth 10000 in
theorem t_X11_foreseen_83 (l : Launch) (E : En) (c0 s0 : Nat) (k18 : Nat → Int32 → Int32 → Int32 → Int32 → Mm → Prop → Int32 × Mm × Prop) (hk18 : ∀ (l0 : Nat) (l1 : Int32) (l2 : Int32) (l3 : Int32) (l4 : Int32) (m : Mm) (o : Prop), Mh wI l E mi_X11_foreseen c0 s0 18 [(0, .ref l0), (1, .int l1), (2, .int l2), (3, .int l3), (4, .int l4)] [] m o (k18 l0 l1 l2 l3 l4 m o)) (l0 : Nat) (l1 : Int32) (l2 : Int32) (l3 : Int32) (l4 : Int32) (l5 : Int32) (y0 : Int32) (m : Mm) (o : Prop) : Mh wI l E mi_X11_foreseen c0 s0 83 [(0, .ref l0), (1, .int l1), (2, .int l2), (3, .int l3), (4, .int l4), (5, .int l5)] [.int y0] m o (f_X11_foreseen_83 k18 l0 l1 l2 l3 l4 l5 y0 m o) := by
  refine Mh_istore (lv' := [(6, .int y0), (0, .ref l0), (1, .int l1), (2, .int l2), (3, .int l3), (4, .int l4), (5, .int l5)]) dX11_foreseen_83 (Nat.le_of_ble_eq_true rfl) rfl ?_
  refine Mh_iload_n 3 rfl dX11_foreseen_85 ?_
  refine Mh_bipush (v := (-2)) dX11_foreseen_86 (by decide) ?_
  refine Mh_icmp_eq (tgt := 97) dX11_foreseen_88 (by decide) rfl (fun _ => ?_) (fun _ => ?_)
  · refine Mh_sub (lv' := [(0, .ref l0), (1, .int l1), (4, .int l4), (5, .int l5), (6, .int y0)]) [1, 2, 5, 6, 0] rfl ?_
    exact t_X11_foreseen_97 l E c0 s0 k18 hk18 _ _ _ _ _ _ _
  · refine Mh_iload 0 rfl dX11_foreseen_91 ?_
    refine Mh_iload_n 4 rfl dX11_foreseen_93 ?_
    refine Mh_icmp_ge (tgt := 103) dX11_foreseen_94 (by decide) rfl (fun _ => ?_) (fun _ => ?_)
    · refine Mh_sub (lv' := [(0, .ref l0), (1, .int l1), (2, .int l2), (3, .int l3), (4, .int l4)]) [1, 2, 3, 4, 5] rfl ?_
      exact t_X11_foreseen_103 l E c0 s0 k18 hk18 _ _ _ _ _ _ _
    · refine Mh_sub (lv' := [(0, .ref l0), (1, .int l1), (4, .int l4), (5, .int l5), (6, .int y0)]) [1, 2, 5, 6, 0] rfl ?_
      exact t_X11_foreseen_97 l E c0 s0 k18 hk18 _ _ _ _ _ _ _
def f_X11_foreseen_18b (k18 : Nat → Int32 → Int32 → Int32 → Int32 → Mm → Prop → Int32 × Mm × Prop) (l0 : Nat) (l1 : Int32) (l2 : Int32) (l3 : Int32) (l4 : Int32) (m : Mm) (o : Prop) : Int32 × Mm × Prop := if (gI m (gR m l0 0) 7) ≤ l4 then (l2, m, ((o ∧ (gT m l0 = 11 ∧ gR m l0 0 ≠ 0)) ∧ gT m (gR m l0 0) = 6)) else (if l4 = l1 then (f_X11_foreseen_103 k18 l0 l1 l2 l3 l4 m (((((o ∧ (gT m l0 = 11 ∧ gR m l0 0 ≠ 0)) ∧ gT m (gR m l0 0) = 6) ∧ (gT m (gR m l0 0) = 6 ∧ gR m (gR m l0 0) 1 ≠ 0)) ∧ (gT m (gR m (gR m l0 0) 1) = 25 ∧ vp_in l4 (gN m (gR m (gR m l0 0) 1)) ∧ gR m (gR m (gR m l0 0) 1) (ix l4) ≠ 0)) ∧ gT m (gR m (gR m (gR m l0 0) 1) (ix l4)) = 2)) else (if (gI m (gR m (gR m (gR m l0 0) 1) (ix l4)) 4) = (-2 : Int32) then (f_X11_foreseen_103 k18 l0 l1 l2 l3 l4 m (((((o ∧ (gT m l0 = 11 ∧ gR m l0 0 ≠ 0)) ∧ gT m (gR m l0 0) = 6) ∧ (gT m (gR m l0 0) = 6 ∧ gR m (gR m l0 0) 1 ≠ 0)) ∧ (gT m (gR m (gR m l0 0) 1) = 25 ∧ vp_in l4 (gN m (gR m (gR m l0 0) 1)) ∧ gR m (gR m (gR m l0 0) 1) (ix l4) ≠ 0)) ∧ gT m (gR m (gR m (gR m l0 0) 1) (ix l4)) = 2)) else (bnd (F_X1_unlike (gR m (gR m (gR m l0 0) 1) (ix l1)) (gR m (gR m (gR m l0 0) 1) (ix l4)) m (((((((o ∧ (gT m l0 = 11 ∧ gR m l0 0 ≠ 0)) ∧ gT m (gR m l0 0) = 6) ∧ (gT m (gR m l0 0) = 6 ∧ gR m (gR m l0 0) 1 ≠ 0)) ∧ (gT m (gR m (gR m l0 0) 1) = 25 ∧ vp_in l4 (gN m (gR m (gR m l0 0) 1)) ∧ gR m (gR m (gR m l0 0) 1) (ix l4) ≠ 0)) ∧ gT m (gR m (gR m (gR m l0 0) 1) (ix l4)) = 2) ∧ (gT m (gR m (gR m l0 0) 1) = 25 ∧ vp_in l1 (gN m (gR m (gR m l0 0) 1)) ∧ gR m (gR m (gR m l0 0) 1) (ix l1) ≠ 0)) ∧ gT m (gR m (gR m (gR m l0 0) 1) (ix l1)) = 2)) (fun v1 m1 o1 => f_X11_foreseen_83 k18 l0 l1 l2 l3 l4 (gI m (gR m (gR m (gR m l0 0) 1) (ix l4)) 4) v1 m1 o1))))
set_option maxRecDepth 10000 in
theorem t_X11_foreseen_18b (l : Launch) (E : En) (c0 s0 : Nat) (k18 : Nat → Int32 → Int32 → Int32 → Int32 → Mm → Prop → Int32 × Mm × Prop) (hk18 : ∀ (l0 : Nat) (l1 : Int32) (l2 : Int32) (l3 : Int32) (l4 : Int32) (m : Mm) (o : Prop), Mh wI l E mi_X11_foreseen c0 s0 18 [(0, .ref l0), (1, .int l1), (2, .int l2), (3, .int l3), (4, .int l4)] [] m o (k18 l0 l1 l2 l3 l4 m o)) (l0 : Nat) (l1 : Int32) (l2 : Int32) (l3 : Int32) (l4 : Int32) (m : Mm) (o : Prop) : Mh wI l E mi_X11_foreseen c0 s0 18 [(0, .ref l0), (1, .int l1), (2, .int l2), (3, .int l3), (4, .int l4)] [] m o (f_X11_foreseen_18b k18 l0 l1 l2 l3 l4 m o) := by
  refine Mh_iload 4 rfl dX11_foreseen_18 ?_
  refine Mh_aload_n 0 rfl dX11_foreseen_20 ?_
  refine Mh_gR fd_10_0 fl_RX11_10 dX11_foreseen_21 ?_
  refine Mh_gI fd_5_7 fl_RX11_111 dX11_foreseen_24 ?_
  refine Mh_icmp_ge (tgt := 109) dX11_foreseen_27 (by decide) rfl (fun _ => ?_) (fun _ => ?_)
  · refine Mh_iload_n 2 rfl dX11_foreseen_109 ?_
    exact Mh_ret dX11_foreseen_110 rfl (fun _ => rfl) rfl
  · refine Mh_aload_n 0 rfl dX11_foreseen_30 ?_
    refine Mh_gR fd_10_0 fl_RX11_10 dX11_foreseen_31 ?_
    refine Mh_ok (fun h => h.1.2) ?_
    refine Mh_gR fd_5_1 fl_RX11_114 dX11_foreseen_34 ?_
    refine Mh_iload 4 rfl dX11_foreseen_37 ?_
    refine Mh_aal 25 (.inr rfl) dX11_foreseen_39 ?_
    refine Mh_gI fd_1_4 fl_RX11_214 dX11_foreseen_40 ?_
    refine Mh_istore (lv' := [(5, .int (gI m (gR m (gR m (gR m l0 0) 1) (ix l4)) 4)), (0, .ref l0), (1, .int l1), (2, .int l2), (3, .int l3), (4, .int l4)]) dX11_foreseen_43 (Nat.le_of_ble_eq_true rfl) rfl ?_
    refine Mh_iload 5 rfl dX11_foreseen_45 ?_
    refine Mh_iload_n 2 rfl dX11_foreseen_47 ?_
    refine Mh_icmp_eq (tgt := 103) dX11_foreseen_48 (by decide) rfl (fun _ => ?_) (fun _ => ?_)
    · refine Mh_sub (lv' := [(0, .ref l0), (1, .int l1), (2, .int l2), (3, .int l3), (4, .int l4)]) [1, 2, 3, 4, 5] rfl ?_
      exact t_X11_foreseen_103 l E c0 s0 k18 hk18 _ _ _ _ _ _ _
    · refine Mh_iload 0 rfl dX11_foreseen_51 ?_
      refine Mh_bipush (v := (-2)) dX11_foreseen_53 (by decide) ?_
      refine Mh_icmp_ne (tgt := 61) dX11_foreseen_55 (by decide) rfl (fun _ => ?_) (fun _ => ?_)
      · refine Mh_aload_n 1 rfl dX11_foreseen_61 ?_
        refine Mh_gR fd_10_0 fl_RX11_10 dX11_foreseen_62 ?_
        refine Mh_ok (fun h => h.1.1.1.1.2) ?_
        refine Mh_gR fd_5_1 fl_RX11_114 dX11_foreseen_65 ?_
        refine Mh_ok (fun h => h.1.1.2) ?_
        refine Mh_iload_n 2 rfl dX11_foreseen_68 ?_
        refine Mh_aal 25 (.inr rfl) dX11_foreseen_69 ?_
        refine Mh_aload_n 1 rfl dX11_foreseen_70 ?_
        refine Mh_gR fd_10_0 fl_RX11_10 dX11_foreseen_71 ?_
        refine Mh_ok (fun h => h.1.1.1.1.1.2) ?_
        refine Mh_gR fd_5_1 fl_RX11_114 dX11_foreseen_74 ?_
        refine Mh_ok (fun h => h.1.1.1.2) ?_
        refine Mh_iload 5 rfl dX11_foreseen_77 ?_
        refine Mh_aal 25 (.inr rfl) dX11_foreseen_79 ?_
        refine Mh_ok (fun h => h.1.1.2) ?_
        refine Mh_cvI (N := mi_X1_unlike) (q := gR m (gR m (gR m l0 0) 1) (ix l1)) (ci := 1) (as := [.ref (gR m (gR m (gR m l0 0) 1) (ix l4))]) (st := []) (id) cg_yX1_unlike (by decide) rfl rfl ml_RX11_264 iv_yX1_unlike pd_yX1_unlike rfl (by decide) (Nat.le_of_ble_eq_true rfl) rfl dX11_foreseen_80 (T_X1_unlike l E _ _ _ _) rfl ?_
        refine Mh_sub (lv' := [(0, .ref l0), (1, .int l1), (2, .int l2), (3, .int l3), (4, .int l4), (5, .int (gI m (gR m (gR m (gR m l0 0) 1) (ix l4)) 4))]) [1, 2, 3, 4, 5, 0] rfl ?_
        exact t_X11_foreseen_83 l E c0 s0 k18 hk18 _ _ _ _ _ _ _ _ _
      · refine Mh_goto (tgt := 103) dX11_foreseen_58 (by decide) ?_
        refine Mh_sub (lv' := [(0, .ref l0), (1, .int l1), (2, .int l2), (3, .int l3), (4, .int l4)]) [1, 2, 3, 4, 5] rfl ?_
        exact t_X11_foreseen_103 l E c0 s0 k18 hk18 _ _ _ _ _ _ _
def f_X11_foreseen_18 : Nat → Nat → Int32 → Int32 → Int32 → Int32 → Mm → Prop → Int32 × Mm × Prop
  | 0, _, _, _, _, _, m, _ => (0, m, False)
  | n + 1, l0, l1, l2, l3, l4, m, o => f_X11_foreseen_18b (f_X11_foreseen_18 n) l0 l1 l2 l3 l4 m o
theorem t_X11_foreseen_18 (l : Launch) (E : En) (c0 s0 : Nat) : ∀ (n : Nat) (l0 : Nat) (l1 : Int32) (l2 : Int32) (l3 : Int32) (l4 : Int32) (m : Mm) (o : Prop), Mh wI l E mi_X11_foreseen c0 s0 18 [(0, .ref l0), (1, .int l1), (2, .int l2), (3, .int l3), (4, .int l4)] [] m o (f_X11_foreseen_18 n l0 l1 l2 l3 l4 m o)
  | 0, _, _, _, _, _, _, _ => Mh_out rfl
  | n + 1, l0, l1, l2, l3, l4, m, o => t_X11_foreseen_18b l E c0 s0 (f_X11_foreseen_18 n) (t_X11_foreseen_18 l E c0 s0 n) l0 l1 l2 l3 l4 m o
def f_X11_foreseen_5 (l0 : Nat) (l1 : Int32) (y0 : Int32) (m : Mm) (o : Prop) : Int32 × Mm × Prop := if y0 = 0 then ((-1 : Int32), m, o) else (f_X11_foreseen_18 1000 l0 l1 (-2 : Int32) (0 : Int32) (0 : Int32) m o)
set_option maxRecDepth 10000 in
theorem t_X11_foreseen_5 (l : Launch) (E : En) (c0 s0 : Nat) (l0 : Nat) (l1 : Int32) (y0 : Int32) (m : Mm) (o : Prop) : Mh wI l E mi_X11_foreseen c0 s0 5 [(0, .ref l0), (1, .int l1)] [.int y0] m o (f_X11_foreseen_5 l0 l1 y0 m o) := by
  refine Mh_if_ne (tgt := 10) dX11_foreseen_5 (by decide) rfl (fun _ => ?_) (fun _ => ?_)
  · refine Mh_bipush (v := (-2)) dX11_foreseen_10 (by decide) ?_
    refine Mh_istore_n (lv' := [(2, .int (-2 : Int32)), (0, .ref l0), (1, .int l1)]) dX11_foreseen_12 (Nat.le_of_ble_eq_true rfl) rfl ?_
    refine Mh_iconst (v := 0) dX11_foreseen_13 (by decide) ?_
    refine Mh_istore_n (lv' := [(3, .int (0 : Int32)), (2, .int (-2 : Int32)), (0, .ref l0), (1, .int l1)]) dX11_foreseen_14 (Nat.le_of_ble_eq_true rfl) rfl ?_
    refine Mh_iconst (v := 0) dX11_foreseen_15 (by decide) ?_
    refine Mh_istore (lv' := [(4, .int (0 : Int32)), (3, .int (0 : Int32)), (2, .int (-2 : Int32)), (0, .ref l0), (1, .int l1)]) dX11_foreseen_16 (Nat.le_of_ble_eq_true rfl) rfl ?_
    refine Mh_sub (lv' := [(0, .ref l0), (1, .int l1), (2, .int (-2 : Int32)), (3, .int (0 : Int32)), (4, .int (0 : Int32))]) [3, 4, 2, 1, 0] rfl ?_
    exact t_X11_foreseen_18 l E c0 s0 _ _ _ _ _ _ _ _
  · refine Mh_iconst (v := (-1)) dX11_foreseen_8 (by decide) ?_
    exact Mh_ret dX11_foreseen_9 rfl (fun _ => rfl) rfl
def f_X11_foreseen_0 (l0 : Nat) (l1 : Int32) (m : Mm) (o : Prop) : Int32 × Mm × Prop := bnd (F_X11_hasCow l0 l1 m (o ∧ gT m l0 = 11)) (fun v1 m1 o1 => f_X11_foreseen_5 l0 l1 v1 m1 o1)
set_option maxRecDepth 10000 in
theorem t_X11_foreseen_0 (l : Launch) (E : En) (c0 s0 : Nat) (l0 : Nat) (l1 : Int32) (m : Mm) (o : Prop) : Mh wI l E mi_X11_foreseen c0 s0 0 [(0, .ref l0), (1, .int l1)] [] m o (f_X11_foreseen_0 l0 l1 m o) := by
  refine Mh_aload_n 0 rfl dX11_foreseen_0 ?_
  refine Mh_iload_n 1 rfl dX11_foreseen_1 ?_
  refine Mh_cvI (N := mi_X11_hasCow) (q := l0) (ci := 10) (as := [.int l1]) (st := []) (id) cg_yX11_hasCow (by decide) rfl rfl ml_RX11_124 iv_yX11_hasCow pd_yX11_hasCow rfl (by decide) (Nat.le_of_ble_eq_true rfl) rfl dX11_foreseen_2 (T_X11_hasCow l E _ _ _ _) rfl ?_
  exact t_X11_foreseen_5 l E c0 s0 _ _ _ _ _
def F_X11_foreseen (a0 : Nat) (a1 : Int32) (m : Mm) (o : Prop) : Int32 × Mm × Prop := f_X11_foreseen_0 a0 a1 m o
theorem T_X11_foreseen (l : Launch) (E : En) (a0 : Nat) (a1 : Int32) (m : Mm) (o : Prop) : Mt wI l E yX11_foreseen mi_X11_foreseen [.ref a0, .int a1] m o (F_X11_foreseen a0 a1 m o) :=
  Mt_I (by decide) rfl rfl rfl (Nat.le_of_ble_eq_true rfl) rfl (.inl rfl) (t_X11_foreseen_0 l E _ _ _ _ _ _)
def f_X11_keep_23 (y0 : Int32) (m : Mm) (o : Prop) : Int32 × Mm × Prop := (y0, m, o)
set_option maxRecDepth 10000 in
theorem t_X11_keep_23 (l : Launch) (E : En) (c0 s0 : Nat) (y0 : Int32) (m : Mm) (o : Prop) : Mh wI l E mi_X11_keep c0 s0 23 [] [.int y0] m o (f_X11_keep_23 y0 m o) := by
  exact Mh_ret dX11_keep_23 rfl (fun _ => rfl) rfl
def f_X11_keep_16 (l0 : Nat) (m : Mm) (o : Prop) : Int32 × Mm × Prop := bnd (F_X5_standingCount (gR m l0 0) m ((o ∧ (gT m l0 = 11 ∧ gR m l0 0 ≠ 0)) ∧ gT m (gR m l0 0) = 6)) (fun v1 m1 o1 => f_X11_keep_23 v1 m1 o1)
set_option maxRecDepth 10000 in
theorem t_X11_keep_16 (l : Launch) (E : En) (c0 s0 : Nat) (l0 : Nat) (m : Mm) (o : Prop) : Mh wI l E mi_X11_keep c0 s0 16 [(0, .ref l0)] [] m o (f_X11_keep_16 l0 m o) := by
  refine Mh_aload_n 0 rfl dX11_keep_16 ?_
  refine Mh_gR fd_10_0 fl_RX11_10 dX11_keep_17 ?_
  refine Mh_cvI (N := mi_X5_standingCount) (q := gR m l0 0) (ci := 5) (as := []) (st := []) (id) cg_yX5_standingCount (by decide) rfl rfl ml_RX11_175 iv_yX5_standingCount pd_yX5_standingCount rfl (by decide) (Nat.le_of_ble_eq_true rfl) rfl dX11_keep_20 (T_X5_standingCount l E _ _ _) rfl ?_
  refine Mh_sub (lv' := []) [] rfl ?_
  exact t_X11_keep_23 l E c0 s0 _ _ _
def f_X11_keep_11 (l0 : Nat) (m : Mm) (o : Prop) : Int32 × Mm × Prop := f_X11_keep_16 l0 (sI m l0 11 (1 : Int32)) (o ∧ (gT m l0 = 11 ∧ ((1 : Int32) = 0 ∨ (1 : Int32) = 1)))
set_option maxRecDepth 10000 in
theorem t_X11_keep_11 (l : Launch) (E : En) (c0 s0 : Nat) (l0 : Nat) (m : Mm) (o : Prop) : Mh wI l E mi_X11_keep c0 s0 11 [(0, .ref l0)] [] m o (f_X11_keep_11 l0 m o) := by
  refine Mh_aload_n 0 rfl dX11_keep_11 ?_
  refine Mh_iconst (v := 1) dX11_keep_12 (by decide) ?_
  refine Mh_pZ fd_10_11 ft_10 rfl fl_RX11_78 rfl dX11_keep_13 ?_
  exact t_X11_keep_16 l E c0 s0 _ _ _
def f_X11_keep_0 (l0 : Nat) (m : Mm) (o : Prop) : Int32 × Mm × Prop := bnd (F_X5_copyFrom (gR m l0 1) (gR m l0 0) m (((o ∧ (gT m l0 = 11 ∧ gR m l0 1 ≠ 0)) ∧ (gT m l0 = 11 ∧ gR m l0 0 ≠ 0)) ∧ gT m (gR m l0 1) = 6)) (fun _ m1 o1 => f_X11_keep_11 l0 m1 o1)
set_option maxRecDepth 10000 in
theorem t_X11_keep_0 (l : Launch) (E : En) (c0 s0 : Nat) (l0 : Nat) (m : Mm) (o : Prop) : Mh wI l E mi_X11_keep c0 s0 0 [(0, .ref l0)] [] m o (f_X11_keep_0 l0 m o) := by
  refine Mh_aload_n 0 rfl dX11_keep_0 ?_
  refine Mh_gR fd_10_1 fl_RX11_16 dX11_keep_1 ?_
  refine Mh_aload_n 0 rfl dX11_keep_4 ?_
  refine Mh_gR fd_10_0 fl_RX11_10 dX11_keep_5 ?_
  refine Mh_cvU (N := mi_X5_copyFrom) (q := gR m l0 1) (ci := 5) (as := [.ref (gR m l0 0)]) (st := []) (id) cg_yX5_copyFrom (by decide) rfl rfl ml_RX11_305 iv_yX5_copyFrom pd_yX5_copyFrom rfl (by decide) (Nat.le_of_ble_eq_true rfl) rfl dX11_keep_8 (T_X5_copyFrom l E _ _ _ _) rfl ?_
  exact t_X11_keep_11 l E c0 s0 _ _ _
def F_X11_keep (a0 : Nat) (m : Mm) (o : Prop) : Int32 × Mm × Prop := f_X11_keep_0 a0 m o
theorem T_X11_keep (l : Launch) (E : En) (a0 : Nat) (m : Mm) (o : Prop) : Mt wI l E yX11_keep mi_X11_keep [.ref a0] m o (F_X11_keep a0 m o) :=
  Mt_I (by decide) rfl rfl rfl (Nat.le_of_ble_eq_true rfl) rfl (.inl rfl) (t_X11_keep_0 l E _ _ _ _ _)
def f_X3_clear_25 (k12 : Nat → Int32 → Mm → Prop → Unit × Mm × Prop) (l0 : Nat) (l1 : Int32) (m : Mm) (o : Prop) : Unit × Mm × Prop := k12 l0 (l1 + 1) m o
set_option maxRecDepth 10000 in
theorem t_X3_clear_25 (l : Launch) (E : En) (c0 s0 : Nat) (k12 : Nat → Int32 → Mm → Prop → Unit × Mm × Prop) (hk12 : ∀ (l0 : Nat) (l1 : Int32) (m : Mm) (o : Prop), Mh wU l E mi_X3_clear c0 s0 12 [(0, .ref l0), (1, .int l1)] [] m o (k12 l0 l1 m o)) (l0 : Nat) (l1 : Int32) (m : Mm) (o : Prop) : Mh wU l E mi_X3_clear c0 s0 25 [(0, .ref l0), (1, .int l1)] [] m o (f_X3_clear_25 k12 l0 l1 m o) := by
  refine Mh_iinc (v := l1 + 1) (lv' := [(1, .int (l1 + 1)), (0, .ref l0)]) 1 dX3_clear_25 rfl rfl (Nat.le_of_ble_eq_true rfl) rfl ?_
  refine Mh_goto (tgt := 12) dX3_clear_28 (by decide) ?_
  refine Mh_sub (lv' := [(0, .ref l0), (1, .int (l1 + 1))]) [1, 0] rfl ?_
  exact hk12 _ _ _ _
def f_X3_clear_12b (k12 : Nat → Int32 → Mm → Prop → Unit × Mm × Prop) (l0 : Nat) (l1 : Int32) (m : Mm) (o : Prop) : Unit × Mm × Prop := if (10 : Int32) ≤ l1 then ((), m, o) else (f_X3_clear_25 k12 l0 l1 (sI m (gR m l0 7) (ix l1) (0 : Int32)) ((o ∧ (gT m l0 = 4 ∧ gR m l0 7 ≠ 0)) ∧ (gT m (gR m l0 7) = 20 ∧ vp_in l1 (gN m (gR m l0 7)))))
set_option maxRecDepth 10000 in
theorem t_X3_clear_12b (l : Launch) (E : En) (c0 s0 : Nat) (k12 : Nat → Int32 → Mm → Prop → Unit × Mm × Prop) (hk12 : ∀ (l0 : Nat) (l1 : Int32) (m : Mm) (o : Prop), Mh wU l E mi_X3_clear c0 s0 12 [(0, .ref l0), (1, .int l1)] [] m o (k12 l0 l1 m o)) (l0 : Nat) (l1 : Int32) (m : Mm) (o : Prop) : Mh wU l E mi_X3_clear c0 s0 12 [(0, .ref l0), (1, .int l1)] [] m o (f_X3_clear_12b k12 l0 l1 m o) := by
  refine Mh_iload_n 1 rfl dX3_clear_12 ?_
  refine Mh_bipush (v := 10) dX3_clear_13 (by decide) ?_
  refine Mh_icmp_ge (tgt := 31) dX3_clear_15 (by decide) rfl (fun _ => ?_) (fun _ => ?_)
  · exact Mh_ret dX3_clear_31 rfl (fun _ => trivial) rfl
  · refine Mh_aload_n 0 rfl dX3_clear_18 ?_
    refine Mh_gR fd_3_7 fl_RX3_31 dX3_clear_19 ?_
    refine Mh_iload_n 1 rfl dX3_clear_22 ?_
    refine Mh_iconst (v := 0) dX3_clear_23 (by decide) ?_
    refine Mh_ias dX3_clear_24 ?_
    exact t_X3_clear_25 l E c0 s0 k12 hk12 _ _ _ _
def f_X3_clear_12 : Nat → Nat → Int32 → Mm → Prop → Unit × Mm × Prop
  | 0, _, _, m, _ => ((), m, False)
  | n + 1, l0, l1, m, o => f_X3_clear_12b (f_X3_clear_12 n) l0 l1 m o
theorem t_X3_clear_12 (l : Launch) (E : En) (c0 s0 : Nat) : ∀ (n : Nat) (l0 : Nat) (l1 : Int32) (m : Mm) (o : Prop), Mh wU l E mi_X3_clear c0 s0 12 [(0, .ref l0), (1, .int l1)] [] m o (f_X3_clear_12 n l0 l1 m o)
  | 0, _, _, _, _ => Mh_out rfl
  | n + 1, l0, l1, m, o => t_X3_clear_12b l E c0 s0 (f_X3_clear_12 n) (t_X3_clear_12 l E c0 s0 n) l0 l1 m o
def f_X3_clear_10 (l0 : Nat) (m : Mm) (o : Prop) : Unit × Mm × Prop := f_X3_clear_12 1000 l0 (0 : Int32) m o
set_option maxRecDepth 10000 in
theorem t_X3_clear_10 (l : Launch) (E : En) (c0 s0 : Nat) (l0 : Nat) (m : Mm) (o : Prop) : Mh wU l E mi_X3_clear c0 s0 10 [(0, .ref l0)] [] m o (f_X3_clear_10 l0 m o) := by
  refine Mh_iconst (v := 0) dX3_clear_10 (by decide) ?_
  refine Mh_istore_n (lv' := [(1, .int (0 : Int32)), (0, .ref l0)]) dX3_clear_11 (Nat.le_of_ble_eq_true rfl) rfl ?_
  refine Mh_sub (lv' := [(0, .ref l0), (1, .int (0 : Int32))]) [1, 0] rfl ?_
  exact t_X3_clear_12 l E c0 s0 _ _ _ _ _
def f_X3_clear_5 (l0 : Nat) (m : Mm) (o : Prop) : Unit × Mm × Prop := f_X3_clear_10 l0 (sI m l0 10 (0 : Int32)) (o ∧ gT m l0 = 4)
set_option maxRecDepth 10000 in
theorem t_X3_clear_5 (l : Launch) (E : En) (c0 s0 : Nat) (l0 : Nat) (m : Mm) (o : Prop) : Mh wU l E mi_X3_clear c0 s0 5 [(0, .ref l0)] [] m o (f_X3_clear_5 l0 m o) := by
  refine Mh_aload_n 0 rfl dX3_clear_5 ?_
  refine Mh_iconst (v := 0) dX3_clear_6 (by decide) ?_
  refine Mh_pI fd_3_10 ft_3 rfl fl_RX3_41 rfl dX3_clear_7 ?_
  exact t_X3_clear_10 l E c0 s0 _ _ _
def f_X3_clear_0 (l0 : Nat) (m : Mm) (o : Prop) : Unit × Mm × Prop := f_X3_clear_5 l0 (sI m l0 9 (0 : Int32)) (o ∧ gT m l0 = 4)
set_option maxRecDepth 10000 in
theorem t_X3_clear_0 (l : Launch) (E : En) (c0 s0 : Nat) (l0 : Nat) (m : Mm) (o : Prop) : Mh wU l E mi_X3_clear c0 s0 0 [(0, .ref l0)] [] m o (f_X3_clear_0 l0 m o) := by
  refine Mh_aload_n 0 rfl dX3_clear_0 ?_
  refine Mh_iconst (v := 0) dX3_clear_1 (by decide) ?_
  refine Mh_pI fd_3_9 ft_3 rfl fl_RX3_37 rfl dX3_clear_2 ?_
  exact t_X3_clear_5 l E c0 s0 _ _ _
def F_X3_clear (a0 : Nat) (m : Mm) (o : Prop) : Unit × Mm × Prop := f_X3_clear_0 a0 m o
theorem T_X3_clear (l : Launch) (E : En) (a0 : Nat) (m : Mm) (o : Prop) : Mt wU l E yX3_clear mi_X3_clear [.ref a0] m o (F_X3_clear a0 m o) :=
  Mt_U (by decide) rfl (fun h => by cases h) rfl (Nat.le_of_ble_eq_true rfl) rfl (t_X3_clear_0 l E _ _ _ _ _)
def f_X3_addClause_104 (k65 : Nat → Int32 → Int32 → Mm → Prop → Unit × Mm × Prop) (l0 : Nat) (l1 : Int32) (l4 : Int32) (m : Mm) (o : Prop) : Unit × Mm × Prop := k65 l0 l1 (l4 + 1) m o
set_option maxRecDepth 10000 in
theorem t_X3_addClause_104 (l : Launch) (E : En) (c0 s0 : Nat) (k65 : Nat → Int32 → Int32 → Mm → Prop → Unit × Mm × Prop) (hk65 : ∀ (l0 : Nat) (l1 : Int32) (l4 : Int32) (m : Mm) (o : Prop), Mh wU l E mi_X3_addClause c0 s0 65 [(0, .ref l0), (1, .int l1), (4, .int l4)] [] m o (k65 l0 l1 l4 m o)) (l0 : Nat) (l1 : Int32) (l4 : Int32) (m : Mm) (o : Prop) : Mh wU l E mi_X3_addClause c0 s0 104 [(0, .ref l0), (1, .int l1), (4, .int l4)] [] m o (f_X3_addClause_104 k65 l0 l1 l4 m o) := by
  refine Mh_iinc (v := l4 + 1) (lv' := [(4, .int (l4 + 1)), (0, .ref l0), (1, .int l1)]) 2 dX3_addClause_104 rfl rfl (Nat.le_of_ble_eq_true rfl) rfl ?_
  refine Mh_goto (tgt := 65) dX3_addClause_107 (by decide) ?_
  refine Mh_sub (lv' := [(0, .ref l0), (1, .int l1), (4, .int (l4 + 1))]) [1, 2, 0] rfl ?_
  exact hk65 _ _ _ _ _
def f_X3_addClause_110 (m : Mm) (o : Prop) : Unit × Mm × Prop := ((), m, o)
set_option maxRecDepth 10000 in
theorem t_X3_addClause_110 (l : Launch) (E : En) (c0 s0 : Nat) (m : Mm) (o : Prop) : Mh wU l E mi_X3_addClause c0 s0 110 [] [] m o (f_X3_addClause_110  m o) := by
  exact Mh_ret dX3_addClause_110 rfl (fun _ => trivial) rfl
def f_X3_addClause_65b (k65 : Nat → Int32 → Int32 → Mm → Prop → Unit × Mm × Prop) (l0 : Nat) (l1 : Int32) (l4 : Int32) (m : Mm) (o : Prop) : Unit × Mm × Prop := if (gI m l0 9) ≤ l4 then (f_X3_addClause_110  m (o ∧ gT m l0 = 4)) else (if l1 = (103 : Int32) then (f_X3_addClause_110  m (o ∧ gT m l0 = 4)) else (if (gI m (gR m l0 0) (ix l4)) = (2 : Int32) then (f_X3_addClause_104 k65 l0 l1 l4 (sI m (gR m l0 7) (ix (gI m (gR m l0 1) (ix l4))) (-1 : Int32)) (((((((o ∧ gT m l0 = 4) ∧ (gT m l0 = 4 ∧ gR m l0 0 ≠ 0)) ∧ (gT m (gR m l0 0) = 20 ∧ vp_in l4 (gN m (gR m l0 0)))) ∧ (gT m l0 = 4 ∧ gR m l0 7 ≠ 0)) ∧ (gT m l0 = 4 ∧ gR m l0 1 ≠ 0)) ∧ (gT m (gR m l0 1) = 20 ∧ vp_in l4 (gN m (gR m l0 1)))) ∧ (gT m (gR m l0 7) = 20 ∧ vp_in (gI m (gR m l0 1) (ix l4)) (gN m (gR m l0 7))))) else (f_X3_addClause_104 k65 l0 l1 l4 m (((o ∧ gT m l0 = 4) ∧ (gT m l0 = 4 ∧ gR m l0 0 ≠ 0)) ∧ (gT m (gR m l0 0) = 20 ∧ vp_in l4 (gN m (gR m l0 0)))))))
set_option maxRecDepth 10000 in
theorem t_X3_addClause_65b (l : Launch) (E : En) (c0 s0 : Nat) (k65 : Nat → Int32 → Int32 → Mm → Prop → Unit × Mm × Prop) (hk65 : ∀ (l0 : Nat) (l1 : Int32) (l4 : Int32) (m : Mm) (o : Prop), Mh wU l E mi_X3_addClause c0 s0 65 [(0, .ref l0), (1, .int l1), (4, .int l4)] [] m o (k65 l0 l1 l4 m o)) (l0 : Nat) (l1 : Int32) (l4 : Int32) (m : Mm) (o : Prop) : Mh wU l E mi_X3_addClause c0 s0 65 [(0, .ref l0), (1, .int l1), (4, .int l4)] [] m o (f_X3_addClause_65b k65 l0 l1 l4 m o) := by
  refine Mh_iload 2 rfl dX3_addClause_65 ?_
  refine Mh_aload_n 0 rfl dX3_addClause_67 ?_
  refine Mh_gI fd_3_9 fl_RX3_37 dX3_addClause_68 ?_
  refine Mh_icmp_ge (tgt := 110) dX3_addClause_71 (by decide) rfl (fun _ => ?_) (fun _ => ?_)
  · refine Mh_sub (lv' := []) [] rfl ?_
    exact t_X3_addClause_110 l E c0 s0  _ _
  · refine Mh_iload_n 1 rfl dX3_addClause_74 ?_
    refine Mh_bipush (v := 103) dX3_addClause_75 (by decide) ?_
    refine Mh_icmp_eq (tgt := 110) dX3_addClause_77 (by decide) rfl (fun _ => ?_) (fun _ => ?_)
    · refine Mh_sub (lv' := []) [] rfl ?_
      exact t_X3_addClause_110 l E c0 s0  _ _
    · refine Mh_aload_n 0 rfl dX3_addClause_80 ?_
      refine Mh_gR fd_3_0 fl_RX3_9 dX3_addClause_81 ?_
      refine Mh_iload 2 rfl dX3_addClause_84 ?_
      refine Mh_ial dX3_addClause_86 ?_
      refine Mh_iconst (v := 2) dX3_addClause_87 (by decide) ?_
      refine Mh_icmp_ne (tgt := 104) dX3_addClause_88 (by decide) rfl (fun _ => ?_) (fun _ => ?_)
      · exact t_X3_addClause_104 l E c0 s0 k65 hk65 _ _ _ _ _
      · refine Mh_aload_n 0 rfl dX3_addClause_91 ?_
        refine Mh_gR fd_3_7 fl_RX3_31 dX3_addClause_92 ?_
        refine Mh_aload_n 0 rfl dX3_addClause_95 ?_
        refine Mh_gR fd_3_1 fl_RX3_13 dX3_addClause_96 ?_
        refine Mh_iload 2 rfl dX3_addClause_99 ?_
        refine Mh_ial dX3_addClause_101 ?_
        refine Mh_iconst (v := (-1)) dX3_addClause_102 (by decide) ?_
        refine Mh_ias dX3_addClause_103 ?_
        exact t_X3_addClause_104 l E c0 s0 k65 hk65 _ _ _ _ _
def f_X3_addClause_65 : Nat → Nat → Int32 → Int32 → Mm → Prop → Unit × Mm × Prop
  | 0, _, _, _, m, _ => ((), m, False)
  | n + 1, l0, l1, l4, m, o => f_X3_addClause_65b (f_X3_addClause_65 n) l0 l1 l4 m o
theorem t_X3_addClause_65 (l : Launch) (E : En) (c0 s0 : Nat) : ∀ (n : Nat) (l0 : Nat) (l1 : Int32) (l4 : Int32) (m : Mm) (o : Prop), Mh wU l E mi_X3_addClause c0 s0 65 [(0, .ref l0), (1, .int l1), (4, .int l4)] [] m o (f_X3_addClause_65 n l0 l1 l4 m o)
  | 0, _, _, _, _, _ => Mh_out rfl
  | n + 1, l0, l1, l4, m, o => t_X3_addClause_65b l E c0 s0 (f_X3_addClause_65 n) (t_X3_addClause_65 l E c0 s0 n) l0 l1 l4 m o
def f_X3_addClause_62 (l0 : Nat) (l1 : Int32) (l2 : Int32) (m : Mm) (o : Prop) : Unit × Mm × Prop := f_X3_addClause_65 1000 l0 l1 l2 m o
set_option maxRecDepth 10000 in
theorem t_X3_addClause_62 (l : Launch) (E : En) (c0 s0 : Nat) (l0 : Nat) (l1 : Int32) (l2 : Int32) (m : Mm) (o : Prop) : Mh wU l E mi_X3_addClause c0 s0 62 [(0, .ref l0), (1, .int l1), (2, .int l2)] [] m o (f_X3_addClause_62 l0 l1 l2 m o) := by
  refine Mh_iload_n 2 rfl dX3_addClause_62 ?_
  refine Mh_istore (lv' := [(4, .int l2), (0, .ref l0), (1, .int l1), (2, .int l2)]) dX3_addClause_63 (Nat.le_of_ble_eq_true rfl) rfl ?_
  refine Mh_sub (lv' := [(0, .ref l0), (1, .int l1), (4, .int l2)]) [1, 2, 0] rfl ?_
  exact t_X3_addClause_65 l E c0 s0 _ _ _ _ _ _
def f_X3_addClause_52 (l0 : Nat) (l1 : Int32) (l2 : Int32) (m : Mm) (o : Prop) : Unit × Mm × Prop := f_X3_addClause_62 l0 l1 l2 (sI m l0 10 ((gI m l0 10) + (1 : Int32))) (o ∧ gT m l0 = 4)
set_option maxRecDepth 10000 in
theorem t_X3_addClause_52 (l : Launch) (E : En) (c0 s0 : Nat) (l0 : Nat) (l1 : Int32) (l2 : Int32) (m : Mm) (o : Prop) : Mh wU l E mi_X3_addClause c0 s0 52 [(0, .ref l0), (1, .int l1), (2, .int l2)] [] m o (f_X3_addClause_52 l0 l1 l2 m o) := by
  refine Mh_aload_n 0 rfl dX3_addClause_52 ?_
  refine Mh_dup dX3_addClause_53 rfl ?_
  refine Mh_gI fd_3_10 fl_RX3_41 dX3_addClause_54 ?_
  refine Mh_iconst (v := 1) dX3_addClause_57 (by decide) ?_
  refine Mh_iadd dX3_addClause_58 ?_
  refine Mh_pI fd_3_10 ft_3 rfl fl_RX3_41 rfl dX3_addClause_59 ?_
  refine Mh_ok (fun h => h.2) ?_
  exact t_X3_addClause_62 l E c0 s0 _ _ _ _ _
def f_X3_addClause_39 (l0 : Nat) (l1 : Int32) (l2 : Int32) (m : Mm) (o : Prop) : Unit × Mm × Prop := f_X3_addClause_52 l0 l1 l2 (sI m (gR m l0 5) (ix (gI m l0 10)) (gI m l0 9)) (((o ∧ (gT m l0 = 4 ∧ gR m l0 5 ≠ 0)) ∧ gT m l0 = 4) ∧ (gT m (gR m l0 5) = 20 ∧ vp_in (gI m l0 10) (gN m (gR m l0 5))))
set_option maxRecDepth 10000 in
theorem t_X3_addClause_39 (l : Launch) (E : En) (c0 s0 : Nat) (l0 : Nat) (l1 : Int32) (l2 : Int32) (m : Mm) (o : Prop) : Mh wU l E mi_X3_addClause c0 s0 39 [(0, .ref l0), (1, .int l1), (2, .int l2)] [] m o (f_X3_addClause_39 l0 l1 l2 m o) := by
  refine Mh_aload_n 0 rfl dX3_addClause_39 ?_
  refine Mh_gR fd_3_5 fl_RX3_25 dX3_addClause_40 ?_
  refine Mh_aload_n 0 rfl dX3_addClause_43 ?_
  refine Mh_gI fd_3_10 fl_RX3_41 dX3_addClause_44 ?_
  refine Mh_aload_n 0 rfl dX3_addClause_47 ?_
  refine Mh_gI fd_3_9 fl_RX3_37 dX3_addClause_48 ?_
  refine Mh_ok (fun h => h.2) ?_
  refine Mh_ias dX3_addClause_51 ?_
  exact t_X3_addClause_52 l E c0 s0 _ _ _ _ _
def f_X3_addClause_29 (l0 : Nat) (l1 : Int32) (l2 : Int32) (l3 : Int32) (m : Mm) (o : Prop) : Unit × Mm × Prop := f_X3_addClause_39 l0 l1 l2 (sI m (gR m l0 4) (ix (gI m l0 10)) l3) (((o ∧ (gT m l0 = 4 ∧ gR m l0 4 ≠ 0)) ∧ gT m l0 = 4) ∧ (gT m (gR m l0 4) = 20 ∧ vp_in (gI m l0 10) (gN m (gR m l0 4))))
set_option maxRecDepth 10000 in
theorem t_X3_addClause_29 (l : Launch) (E : En) (c0 s0 : Nat) (l0 : Nat) (l1 : Int32) (l2 : Int32) (l3 : Int32) (m : Mm) (o : Prop) : Mh wU l E mi_X3_addClause c0 s0 29 [(0, .ref l0), (1, .int l1), (2, .int l2), (3, .int l3)] [] m o (f_X3_addClause_29 l0 l1 l2 l3 m o) := by
  refine Mh_aload_n 0 rfl dX3_addClause_29 ?_
  refine Mh_gR fd_3_4 fl_RX3_22 dX3_addClause_30 ?_
  refine Mh_aload_n 0 rfl dX3_addClause_33 ?_
  refine Mh_gI fd_3_10 fl_RX3_41 dX3_addClause_34 ?_
  refine Mh_iload_n 3 rfl dX3_addClause_37 ?_
  refine Mh_ias dX3_addClause_38 ?_
  refine Mh_sub (lv' := [(0, .ref l0), (1, .int l1), (2, .int l2)]) [0, 1, 2] rfl ?_
  exact t_X3_addClause_39 l E c0 s0 _ _ _ _ _
def f_X3_addClause_19 (l0 : Nat) (l1 : Int32) (l2 : Int32) (l3 : Int32) (m : Mm) (o : Prop) : Unit × Mm × Prop := f_X3_addClause_29 l0 l1 l2 l3 (sI m (gR m l0 3) (ix (gI m l0 10)) l2) (((o ∧ (gT m l0 = 4 ∧ gR m l0 3 ≠ 0)) ∧ gT m l0 = 4) ∧ (gT m (gR m l0 3) = 20 ∧ vp_in (gI m l0 10) (gN m (gR m l0 3))))
set_option maxRecDepth 10000 in
theorem t_X3_addClause_19 (l : Launch) (E : En) (c0 s0 : Nat) (l0 : Nat) (l1 : Int32) (l2 : Int32) (l3 : Int32) (m : Mm) (o : Prop) : Mh wU l E mi_X3_addClause c0 s0 19 [(0, .ref l0), (1, .int l1), (2, .int l2), (3, .int l3)] [] m o (f_X3_addClause_19 l0 l1 l2 l3 m o) := by
  refine Mh_aload_n 0 rfl dX3_addClause_19 ?_
  refine Mh_gR fd_3_3 fl_RX3_19 dX3_addClause_20 ?_
  refine Mh_aload_n 0 rfl dX3_addClause_23 ?_
  refine Mh_gI fd_3_10 fl_RX3_41 dX3_addClause_24 ?_
  refine Mh_iload_n 2 rfl dX3_addClause_27 ?_
  refine Mh_ias dX3_addClause_28 ?_
  exact t_X3_addClause_29 l E c0 s0 _ _ _ _ _ _
def f_X3_addClause_0 (l0 : Nat) (l1 : Int32) (l2 : Int32) (l3 : Int32) (m : Mm) (o : Prop) : Unit × Mm × Prop := if (14 : Int32) ≤ (gI m l0 10) then (f_X3_addClause_62 l0 l1 l2 m (o ∧ gT m l0 = 4)) else (f_X3_addClause_19 l0 l1 l2 l3 (sI m (gR m l0 2) (ix (gI m l0 10)) l1) (((o ∧ gT m l0 = 4) ∧ (gT m l0 = 4 ∧ gR m l0 2 ≠ 0)) ∧ (gT m (gR m l0 2) = 20 ∧ vp_in (gI m l0 10) (gN m (gR m l0 2)))))
set_option maxRecDepth 10000 in
theorem t_X3_addClause_0 (l : Launch) (E : En) (c0 s0 : Nat) (l0 : Nat) (l1 : Int32) (l2 : Int32) (l3 : Int32) (m : Mm) (o : Prop) : Mh wU l E mi_X3_addClause c0 s0 0 [(0, .ref l0), (1, .int l1), (2, .int l2), (3, .int l3)] [] m o (f_X3_addClause_0 l0 l1 l2 l3 m o) := by
  refine Mh_aload_n 0 rfl dX3_addClause_0 ?_
  refine Mh_gI fd_3_10 fl_RX3_41 dX3_addClause_1 ?_
  refine Mh_bipush (v := 14) dX3_addClause_4 (by decide) ?_
  refine Mh_icmp_ge (tgt := 62) dX3_addClause_6 (by decide) rfl (fun _ => ?_) (fun _ => ?_)
  · refine Mh_sub (lv' := [(0, .ref l0), (1, .int l1), (2, .int l2)]) [0, 1, 2] rfl ?_
    exact t_X3_addClause_62 l E c0 s0 _ _ _ _ _
  · refine Mh_aload_n 0 rfl dX3_addClause_9 ?_
    refine Mh_gR fd_3_2 fl_RX3_16 dX3_addClause_10 ?_
    refine Mh_aload_n 0 rfl dX3_addClause_13 ?_
    refine Mh_gI fd_3_10 fl_RX3_41 dX3_addClause_14 ?_
    refine Mh_ok (fun h => h.1.2) ?_
    refine Mh_iload_n 1 rfl dX3_addClause_17 ?_
    refine Mh_ias dX3_addClause_18 ?_
    exact t_X3_addClause_19 l E c0 s0 _ _ _ _ _ _
def F_X3_addClause (a0 : Nat) (a1 : Int32) (a2 : Int32) (a3 : Int32) (m : Mm) (o : Prop) : Unit × Mm × Prop := f_X3_addClause_0 a0 a1 a2 a3 m o
theorem T_X3_addClause (l : Launch) (E : En) (a0 : Nat) (a1 : Int32) (a2 : Int32) (a3 : Int32) (m : Mm) (o : Prop) : Mt wU l E yX3_addClause mi_X3_addClause [.ref a0, .int a1, .int a2, .int a3] m o (F_X3_addClause a0 a1 a2 a3 m o) :=
  Mt_U (by decide) rfl (fun h => by cases h) rfl (Nat.le_of_ble_eq_true rfl) rfl (t_X3_addClause_0 l E _ _ _ _ _ _ _ _)
def f_X3_add_40 (m : Mm) (o : Prop) : Unit × Mm × Prop := ((), m, o)
set_option maxRecDepth 10000 in
theorem t_X3_add_40 (l : Launch) (E : En) (c0 s0 : Nat) (m : Mm) (o : Prop) : Mh wU l E mi_X3_add c0 s0 40 [] [] m o (f_X3_add_40  m o) := by
  exact Mh_ret dX3_add_40 rfl (fun _ => trivial) rfl
def f_X3_add_30 (l0 : Nat) (m : Mm) (o : Prop) : Unit × Mm × Prop := f_X3_add_40  (sI m l0 9 ((gI m l0 9) + (1 : Int32))) (o ∧ gT m l0 = 4)
set_option maxRecDepth 10000 in
theorem t_X3_add_30 (l : Launch) (E : En) (c0 s0 : Nat) (l0 : Nat) (m : Mm) (o : Prop) : Mh wU l E mi_X3_add c0 s0 30 [(0, .ref l0)] [] m o (f_X3_add_30 l0 m o) := by
  refine Mh_aload_n 0 rfl dX3_add_30 ?_
  refine Mh_dup dX3_add_31 rfl ?_
  refine Mh_gI fd_3_9 fl_RX3_37 dX3_add_32 ?_
  refine Mh_iconst (v := 1) dX3_add_35 (by decide) ?_
  refine Mh_iadd dX3_add_36 ?_
  refine Mh_pI fd_3_9 ft_3 rfl fl_RX3_37 rfl dX3_add_37 ?_
  refine Mh_ok (fun h => h.2) ?_
  refine Mh_sub (lv' := []) [] rfl ?_
  exact t_X3_add_40 l E c0 s0  _ _
def f_X3_add_20 (l0 : Nat) (l2 : Int32) (m : Mm) (o : Prop) : Unit × Mm × Prop := f_X3_add_30 l0 (sI m (gR m l0 1) (ix (gI m l0 9)) l2) (((o ∧ (gT m l0 = 4 ∧ gR m l0 1 ≠ 0)) ∧ gT m l0 = 4) ∧ (gT m (gR m l0 1) = 20 ∧ vp_in (gI m l0 9) (gN m (gR m l0 1))))
set_option maxRecDepth 10000 in
theorem t_X3_add_20 (l : Launch) (E : En) (c0 s0 : Nat) (l0 : Nat) (l2 : Int32) (m : Mm) (o : Prop) : Mh wU l E mi_X3_add c0 s0 20 [(0, .ref l0), (2, .int l2)] [] m o (f_X3_add_20 l0 l2 m o) := by
  refine Mh_aload_n 0 rfl dX3_add_20 ?_
  refine Mh_gR fd_3_1 fl_RX3_13 dX3_add_21 ?_
  refine Mh_aload_n 0 rfl dX3_add_24 ?_
  refine Mh_gI fd_3_9 fl_RX3_37 dX3_add_25 ?_
  refine Mh_iload_n 1 rfl dX3_add_28 ?_
  refine Mh_ias dX3_add_29 ?_
  refine Mh_sub (lv' := [(0, .ref l0)]) [0] rfl ?_
  exact t_X3_add_30 l E c0 s0 _ _ _
def f_X3_add_0 (l0 : Nat) (l1 : Int32) (l2 : Int32) (m : Mm) (o : Prop) : Unit × Mm × Prop := if (200 : Int32) ≤ (gI m l0 9) then (f_X3_add_40  m (o ∧ gT m l0 = 4)) else (f_X3_add_20 l0 l2 (sI m (gR m l0 0) (ix (gI m l0 9)) l1) (((o ∧ gT m l0 = 4) ∧ (gT m l0 = 4 ∧ gR m l0 0 ≠ 0)) ∧ (gT m (gR m l0 0) = 20 ∧ vp_in (gI m l0 9) (gN m (gR m l0 0)))))
set_option maxRecDepth 10000 in
theorem t_X3_add_0 (l : Launch) (E : En) (c0 s0 : Nat) (l0 : Nat) (l1 : Int32) (l2 : Int32) (m : Mm) (o : Prop) : Mh wU l E mi_X3_add c0 s0 0 [(0, .ref l0), (1, .int l1), (2, .int l2)] [] m o (f_X3_add_0 l0 l1 l2 m o) := by
  refine Mh_aload_n 0 rfl dX3_add_0 ?_
  refine Mh_gI fd_3_9 fl_RX3_37 dX3_add_1 ?_
  refine Mh_sipush (v := 200) dX3_add_4 (by decide) ?_
  refine Mh_icmp_ge (tgt := 40) dX3_add_7 (by decide) rfl (fun _ => ?_) (fun _ => ?_)
  · refine Mh_sub (lv' := []) [] rfl ?_
    exact t_X3_add_40 l E c0 s0  _ _
  · refine Mh_aload_n 0 rfl dX3_add_10 ?_
    refine Mh_gR fd_3_0 fl_RX3_9 dX3_add_11 ?_
    refine Mh_aload_n 0 rfl dX3_add_14 ?_
    refine Mh_gI fd_3_9 fl_RX3_37 dX3_add_15 ?_
    refine Mh_ok (fun h => h.1.2) ?_
    refine Mh_iload_n 1 rfl dX3_add_18 ?_
    refine Mh_ias dX3_add_19 ?_
    refine Mh_sub (lv' := [(0, .ref l0), (2, .int l2)]) [0, 2] rfl ?_
    exact t_X3_add_20 l E c0 s0 _ _ _ _
def F_X3_add (a0 : Nat) (a1 : Int32) (a2 : Int32) (m : Mm) (o : Prop) : Unit × Mm × Prop := f_X3_add_0 a0 a1 a2 m o
theorem T_X3_add (l : Launch) (E : En) (a0 : Nat) (a1 : Int32) (a2 : Int32) (m : Mm) (o : Prop) : Mt wU l E yX3_add mi_X3_add [.ref a0, .int a1, .int a2] m o (F_X3_add a0 a1 a2 m o) :=
  Mt_U (by decide) rfl (fun h => by cases h) rfl (Nat.le_of_ble_eq_true rfl) rfl (t_X3_add_0 l E _ _ _ _ _ _ _)
def f_X3_landJumps_40 (k2 : Nat → Int32 → Int32 → Mm → Prop → Unit × Mm × Prop) (l0 : Nat) (l2 : Int32) (l3 : Int32) (m : Mm) (o : Prop) : Unit × Mm × Prop := k2 l0 l2 (l3 + 1) m o
set_option maxRecDepth 10000 in
theorem t_X3_landJumps_40 (l : Launch) (E : En) (c0 s0 : Nat) (k2 : Nat → Int32 → Int32 → Mm → Prop → Unit × Mm × Prop) (hk2 : ∀ (l0 : Nat) (l2 : Int32) (l3 : Int32) (m : Mm) (o : Prop), Mh wU l E mi_X3_landJumps c0 s0 2 [(0, .ref l0), (2, .int l2), (3, .int l3)] [] m o (k2 l0 l2 l3 m o)) (l0 : Nat) (l2 : Int32) (l3 : Int32) (m : Mm) (o : Prop) : Mh wU l E mi_X3_landJumps c0 s0 40 [(0, .ref l0), (2, .int l2), (3, .int l3)] [] m o (f_X3_landJumps_40 k2 l0 l2 l3 m o) := by
  refine Mh_iinc (v := l3 + 1) (lv' := [(3, .int (l3 + 1)), (0, .ref l0), (2, .int l2)]) 2 dX3_landJumps_40 rfl rfl (Nat.le_of_ble_eq_true rfl) rfl ?_
  refine Mh_goto (tgt := 2) dX3_landJumps_43 (by decide) ?_
  refine Mh_sub (lv' := [(0, .ref l0), (2, .int l2), (3, .int (l3 + 1))]) [1, 2, 0] rfl ?_
  exact hk2 _ _ _ _ _
def f_X3_landJumps_2b (k2 : Nat → Int32 → Int32 → Mm → Prop → Unit × Mm × Prop) (l0 : Nat) (l2 : Int32) (l3 : Int32) (m : Mm) (o : Prop) : Unit × Mm × Prop := if (gI m l0 9) ≤ l3 then ((), m, (o ∧ gT m l0 = 4)) else (if (gI m (gR m l0 0) (ix l3)) = l2 then (if (gI m (gR m l0 1) (ix l3)) = (-1 : Int32) then (f_X3_landJumps_40 k2 l0 l2 l3 (sI m (gR m l0 1) (ix l3) (gI m l0 9)) (((((o ∧ gT m l0 = 4) ∧ (gT m l0 = 4 ∧ gR m l0 0 ≠ 0)) ∧ (gT m (gR m l0 0) = 20 ∧ vp_in l3 (gN m (gR m l0 0)))) ∧ (gT m l0 = 4 ∧ gR m l0 1 ≠ 0)) ∧ (gT m (gR m l0 1) = 20 ∧ vp_in l3 (gN m (gR m l0 1))))) else (f_X3_landJumps_40 k2 l0 l2 l3 m (((((o ∧ gT m l0 = 4) ∧ (gT m l0 = 4 ∧ gR m l0 0 ≠ 0)) ∧ (gT m (gR m l0 0) = 20 ∧ vp_in l3 (gN m (gR m l0 0)))) ∧ (gT m l0 = 4 ∧ gR m l0 1 ≠ 0)) ∧ (gT m (gR m l0 1) = 20 ∧ vp_in l3 (gN m (gR m l0 1)))))) else (f_X3_landJumps_40 k2 l0 l2 l3 m (((o ∧ gT m l0 = 4) ∧ (gT m l0 = 4 ∧ gR m l0 0 ≠ 0)) ∧ (gT m (gR m l0 0) = 20 ∧ vp_in l3 (gN m (gR m l0 0))))))
set_option maxRecDepth 10000 in
theorem t_X3_landJumps_2b (l : Launch) (E : En) (c0 s0 : Nat) (k2 : Nat → Int32 → Int32 → Mm → Prop → Unit × Mm × Prop) (hk2 : ∀ (l0 : Nat) (l2 : Int32) (l3 : Int32) (m : Mm) (o : Prop), Mh wU l E mi_X3_landJumps c0 s0 2 [(0, .ref l0), (2, .int l2), (3, .int l3)] [] m o (k2 l0 l2 l3 m o)) (l0 : Nat) (l2 : Int32) (l3 : Int32) (m : Mm) (o : Prop) : Mh wU l E mi_X3_landJumps c0 s0 2 [(0, .ref l0), (2, .int l2), (3, .int l3)] [] m o (f_X3_landJumps_2b k2 l0 l2 l3 m o) := by
  refine Mh_iload_n 2 rfl dX3_landJumps_2 ?_
  refine Mh_aload_n 0 rfl dX3_landJumps_3 ?_
  refine Mh_gI fd_3_9 fl_RX3_37 dX3_landJumps_4 ?_
  refine Mh_icmp_ge (tgt := 46) dX3_landJumps_7 (by decide) rfl (fun _ => ?_) (fun _ => ?_)
  · exact Mh_ret dX3_landJumps_46 rfl (fun _ => trivial) rfl
  · refine Mh_aload_n 0 rfl dX3_landJumps_10 ?_
    refine Mh_gR fd_3_0 fl_RX3_9 dX3_landJumps_11 ?_
    refine Mh_iload_n 2 rfl dX3_landJumps_14 ?_
    refine Mh_ial dX3_landJumps_15 ?_
    refine Mh_iload_n 1 rfl dX3_landJumps_16 ?_
    refine Mh_icmp_ne (tgt := 40) dX3_landJumps_17 (by decide) rfl (fun _ => ?_) (fun _ => ?_)
    · exact t_X3_landJumps_40 l E c0 s0 k2 hk2 _ _ _ _ _
    · refine Mh_aload_n 0 rfl dX3_landJumps_20 ?_
      refine Mh_gR fd_3_1 fl_RX3_13 dX3_landJumps_21 ?_
      refine Mh_iload_n 2 rfl dX3_landJumps_24 ?_
      refine Mh_ial dX3_landJumps_25 ?_
      refine Mh_iconst (v := (-1)) dX3_landJumps_26 (by decide) ?_
      refine Mh_icmp_ne (tgt := 40) dX3_landJumps_27 (by decide) rfl (fun _ => ?_) (fun _ => ?_)
      · exact t_X3_landJumps_40 l E c0 s0 k2 hk2 _ _ _ _ _
      · refine Mh_aload_n 0 rfl dX3_landJumps_30 ?_
        refine Mh_gR fd_3_1 fl_RX3_13 dX3_landJumps_31 ?_
        refine Mh_ok (fun h => h.1.2) ?_
        refine Mh_iload_n 2 rfl dX3_landJumps_34 ?_
        refine Mh_aload_n 0 rfl dX3_landJumps_35 ?_
        refine Mh_gI fd_3_9 fl_RX3_37 dX3_landJumps_36 ?_
        refine Mh_ok (fun h => h.1.1.1.1.2) ?_
        refine Mh_ias dX3_landJumps_39 ?_
        refine Mh_ok (fun h => h.2) ?_
        exact t_X3_landJumps_40 l E c0 s0 k2 hk2 _ _ _ _ _
def f_X3_landJumps_2 : Nat → Nat → Int32 → Int32 → Mm → Prop → Unit × Mm × Prop
  | 0, _, _, _, m, _ => ((), m, False)
  | n + 1, l0, l2, l3, m, o => f_X3_landJumps_2b (f_X3_landJumps_2 n) l0 l2 l3 m o
theorem t_X3_landJumps_2 (l : Launch) (E : En) (c0 s0 : Nat) : ∀ (n : Nat) (l0 : Nat) (l2 : Int32) (l3 : Int32) (m : Mm) (o : Prop), Mh wU l E mi_X3_landJumps c0 s0 2 [(0, .ref l0), (2, .int l2), (3, .int l3)] [] m o (f_X3_landJumps_2 n l0 l2 l3 m o)
  | 0, _, _, _, _, _ => Mh_out rfl
  | n + 1, l0, l2, l3, m, o => t_X3_landJumps_2b l E c0 s0 (f_X3_landJumps_2 n) (t_X3_landJumps_2 l E c0 s0 n) l0 l2 l3 m o
def f_X3_landJumps_0 (l0 : Nat) (l1 : Int32) (l2 : Int32) (m : Mm) (o : Prop) : Unit × Mm × Prop := f_X3_landJumps_2 1000 l0 l2 l1 m o
set_option maxRecDepth 10000 in
theorem t_X3_landJumps_0 (l : Launch) (E : En) (c0 s0 : Nat) (l0 : Nat) (l1 : Int32) (l2 : Int32) (m : Mm) (o : Prop) : Mh wU l E mi_X3_landJumps c0 s0 0 [(0, .ref l0), (1, .int l1), (2, .int l2)] [] m o (f_X3_landJumps_0 l0 l1 l2 m o) := by
  refine Mh_iload_n 1 rfl dX3_landJumps_0 ?_
  refine Mh_istore_n (lv' := [(3, .int l1), (0, .ref l0), (1, .int l1), (2, .int l2)]) dX3_landJumps_1 (Nat.le_of_ble_eq_true rfl) rfl ?_
  refine Mh_sub (lv' := [(0, .ref l0), (2, .int l2), (3, .int l1)]) [1, 3, 0] rfl ?_
  exact t_X3_landJumps_2 l E c0 s0 _ _ _ _ _ _
def F_X3_landJumps (a0 : Nat) (a1 : Int32) (a2 : Int32) (m : Mm) (o : Prop) : Unit × Mm × Prop := f_X3_landJumps_0 a0 a1 a2 m o
theorem T_X3_landJumps (l : Launch) (E : En) (a0 : Nat) (a1 : Int32) (a2 : Int32) (m : Mm) (o : Prop) : Mt wU l E yX3_landJumps mi_X3_landJumps [.ref a0, .int a1, .int a2] m o (F_X3_landJumps a0 a1 a2 m o) :=
  Mt_U (by decide) rfl (fun h => by cases h) rfl (Nat.le_of_ble_eq_true rfl) rfl (t_X3_landJumps_0 l E _ _ _ _ _ _ _)
def f_X4_fail_5 (m : Mm) (o : Prop) : Int32 × Mm × Prop := ((0 : Int32), m, o)
set_option maxRecDepth 10000 in
theorem t_X4_fail_5 (l : Launch) (E : En) (c0 s0 : Nat) (m : Mm) (o : Prop) : Mh wI l E mi_X4_fail c0 s0 5 [] [] m o (f_X4_fail_5  m o) := by
  refine Mh_iconst (v := 0) dX4_fail_5 (by decide) ?_
  exact Mh_ret dX4_fail_6 rfl (fun _ => rk0Z) rfl
def f_X4_fail_0 (l0 : Nat) (l1 : Int32) (m : Mm) (o : Prop) : Int32 × Mm × Prop := f_X4_fail_5  (sI m l0 4 l1) (o ∧ gT m l0 = 5)
set_option maxRecDepth 10000 in
theorem t_X4_fail_0 (l : Launch) (E : En) (c0 s0 : Nat) (l0 : Nat) (l1 : Int32) (m : Mm) (o : Prop) : Mh wI l E mi_X4_fail c0 s0 0 [(0, .ref l0), (1, .int l1)] [] m o (f_X4_fail_0 l0 l1 m o) := by
  refine Mh_aload_n 0 rfl dX4_fail_0 ?_
  refine Mh_iload_n 1 rfl dX4_fail_1 ?_
  refine Mh_pI fd_4_4 ft_4 rfl fl_RX4_31 rfl dX4_fail_2 ?_
  refine Mh_sub (lv' := []) [] rfl ?_
  exact t_X4_fail_5 l E c0 s0  _ _
def F_X4_fail (a0 : Nat) (a1 : Int32) (m : Mm) (o : Prop) : Int32 × Mm × Prop := f_X4_fail_0 a0 a1 m o
theorem T_X4_fail (l : Launch) (E : En) (a0 : Nat) (a1 : Int32) (m : Mm) (o : Prop) : Mt wI l E yX4_fail mi_X4_fail [.ref a0, .int a1] m o (F_X4_fail a0 a1 m o) :=
  Mt_I (by decide) rfl rfl rfl (Nat.le_of_ble_eq_true rfl) rfl (.inr (.inl rfl)) (t_X4_fail_0 l E _ _ _ _ _ _)
def f_X4_sign_37 (y0 : Int32) (m : Mm) (o : Prop) : Int32 × Mm × Prop := (y0, m, o)
set_option maxRecDepth 10000 in
theorem t_X4_sign_37 (l : Launch) (E : En) (c0 s0 : Nat) (y0 : Int32) (m : Mm) (o : Prop) : Mh wI l E mi_X4_sign c0 s0 37 [] [.int y0] m o (f_X4_sign_37 y0 m o) := by
  exact Mh_ret dX4_sign_37 rfl (fun _ => rfl) rfl
def f_X4_sign_36 (m : Mm) (o : Prop) : Int32 × Mm × Prop := f_X4_sign_37 (-1 : Int32) m o
set_option maxRecDepth 10000 in
theorem t_X4_sign_36 (l : Launch) (E : En) (c0 s0 : Nat) (m : Mm) (o : Prop) : Mh wI l E mi_X4_sign c0 s0 36 [] [] m o (f_X4_sign_36  m o) := by
  refine Mh_iconst (v := (-1)) dX4_sign_36 (by decide) ?_
  exact t_X4_sign_37 l E c0 s0 _ _ _
def f_X4_sign_0 (l0 : Nat) (m : Mm) (o : Prop) : Int32 × Mm × Prop := if (gI m l0 2) ≤ (gI m l0 3) then (f_X4_sign_36  m (o ∧ gT m l0 = 5)) else (if (220 : Int32) ≤ (gI m l0 3) then (f_X4_sign_36  m (o ∧ gT m l0 = 5)) else (f_X4_sign_37 (gI m (gR m (gR m l0 0) 0) (ix (gI m l0 3))) m ((((o ∧ gT m l0 = 5) ∧ (gT m l0 = 5 ∧ gR m l0 0 ≠ 0)) ∧ (gT m (gR m l0 0) = 9 ∧ gR m (gR m l0 0) 0 ≠ 0)) ∧ (gT m (gR m (gR m l0 0) 0) = 20 ∧ vp_in (gI m l0 3) (gN m (gR m (gR m l0 0) 0))))))
set_option maxRecDepth 10000 in
theorem t_X4_sign_0 (l : Launch) (E : En) (c0 s0 : Nat) (l0 : Nat) (m : Mm) (o : Prop) : Mh wI l E mi_X4_sign c0 s0 0 [(0, .ref l0)] [] m o (f_X4_sign_0 l0 m o) := by
  refine Mh_aload_n 0 rfl dX4_sign_0 ?_
  refine Mh_gI fd_4_3 fl_RX4_28 dX4_sign_1 ?_
  refine Mh_aload_n 0 rfl dX4_sign_4 ?_
  refine Mh_gI fd_4_2 fl_RX4_24 dX4_sign_5 ?_
  refine Mh_ok (fun h => h.2) ?_
  refine Mh_icmp_ge (tgt := 36) dX4_sign_8 (by decide) rfl (fun _ => ?_) (fun _ => ?_)
  · refine Mh_sub (lv' := []) [] rfl ?_
    exact t_X4_sign_36 l E c0 s0  _ _
  · refine Mh_aload_n 0 rfl dX4_sign_11 ?_
    refine Mh_gI fd_4_3 fl_RX4_28 dX4_sign_12 ?_
    refine Mh_ok (fun h => h.2) ?_
    refine Mh_sipush (v := 220) dX4_sign_15 (by decide) ?_
    refine Mh_icmp_ge (tgt := 36) dX4_sign_18 (by decide) rfl (fun _ => ?_) (fun _ => ?_)
    · refine Mh_sub (lv' := []) [] rfl ?_
      exact t_X4_sign_36 l E c0 s0  _ _
    · refine Mh_aload_n 0 rfl dX4_sign_21 ?_
      refine Mh_gR fd_4_0 fl_RX4_9 dX4_sign_22 ?_
      refine Mh_gR fd_8_0 fl_RX4_43 dX4_sign_25 ?_
      refine Mh_aload_n 0 rfl dX4_sign_28 ?_
      refine Mh_gI fd_4_3 fl_RX4_28 dX4_sign_29 ?_
      refine Mh_ok (fun h => h.1.1.2) ?_
      refine Mh_ial dX4_sign_32 ?_
      refine Mh_goto (tgt := 37) dX4_sign_33 (by decide) ?_
      refine Mh_sub (lv' := []) [] rfl ?_
      exact t_X4_sign_37 l E c0 s0 _ _ _
def F_X4_sign (a0 : Nat) (m : Mm) (o : Prop) : Int32 × Mm × Prop := f_X4_sign_0 a0 m o
theorem T_X4_sign (l : Launch) (E : En) (a0 : Nat) (m : Mm) (o : Prop) : Mt wI l E yX4_sign mi_X4_sign [.ref a0] m o (F_X4_sign a0 m o) :=
  Mt_I (by decide) rfl rfl rfl (Nat.le_of_ble_eq_true rfl) rfl (.inl rfl) (t_X4_sign_0 l E _ _ _ _ _)
def f_X4_expect_13 (y0 : Int32) (m : Mm) (o : Prop) : Int32 × Mm × Prop := (y0, m, o ∧ (y0 = 0 ∨ y0 = 1))
set_option maxRecDepth 10000 in
theorem t_X4_expect_13 (l : Launch) (E : En) (c0 s0 : Nat) (y0 : Int32) (m : Mm) (o : Prop) : Mh wI l E mi_X4_expect c0 s0 13 [] [.int y0] m o (f_X4_expect_13 y0 m o) := by
  exact Mh_retZ dX4_expect_13 (.inl rfl) rfl
def f_X4_expect_24 (m : Mm) (o : Prop) : Int32 × Mm × Prop := ((1 : Int32), m, o)
set_option maxRecDepth 10000 in
theorem t_X4_expect_24 (l : Launch) (E : En) (c0 s0 : Nat) (m : Mm) (o : Prop) : Mh wI l E mi_X4_expect c0 s0 24 [] [] m o (f_X4_expect_24  m o) := by
  refine Mh_iconst (v := 1) dX4_expect_24 (by decide) ?_
  exact Mh_ret dX4_expect_25 rfl (fun _ => rk1Z) rfl
def f_X4_expect_4 (l0 : Nat) (l1 : Int32) (y0 : Int32) (m : Mm) (o : Prop) : Int32 × Mm × Prop := if y0 = l1 then (f_X4_expect_24  (sI m l0 3 ((gI m l0 3) + (1 : Int32))) (o ∧ gT m l0 = 5)) else (bnd (F_X4_fail l0 (1 : Int32) m (o ∧ gT m l0 = 5)) (fun v1 m1 o1 => f_X4_expect_13 v1 m1 o1))
set_option maxRecDepth 10000 in
theorem t_X4_expect_4 (l : Launch) (E : En) (c0 s0 : Nat) (l0 : Nat) (l1 : Int32) (y0 : Int32) (m : Mm) (o : Prop) : Mh wI l E mi_X4_expect c0 s0 4 [(0, .ref l0), (1, .int l1)] [.int y0] m o (f_X4_expect_4 l0 l1 y0 m o) := by
  refine Mh_iload_n 1 rfl dX4_expect_4 ?_
  refine Mh_icmp_eq (tgt := 14) dX4_expect_5 (by decide) rfl (fun _ => ?_) (fun _ => ?_)
  · refine Mh_aload_n 0 rfl dX4_expect_14 ?_
    refine Mh_dup dX4_expect_15 rfl ?_
    refine Mh_gI fd_4_3 fl_RX4_28 dX4_expect_16 ?_
    refine Mh_iconst (v := 1) dX4_expect_19 (by decide) ?_
    refine Mh_iadd dX4_expect_20 ?_
    refine Mh_pI fd_4_3 ft_4 rfl fl_RX4_28 rfl dX4_expect_21 ?_
    refine Mh_ok (fun h => h.2) ?_
    refine Mh_sub (lv' := []) [] rfl ?_
    exact t_X4_expect_24 l E c0 s0  _ _
  · refine Mh_aload_n 0 rfl dX4_expect_8 ?_
    refine Mh_iconst (v := 1) dX4_expect_9 (by decide) ?_
    refine Mh_cvI (N := mi_X4_fail) (q := l0) (ci := 4) (as := [.int (1 : Int32)]) (st := []) (id) cg_yX4_fail (by decide) rfl rfl ml_RX4_51 iv_yX4_fail pd_yX4_fail rfl (by decide) (Nat.le_of_ble_eq_true rfl) rfl dX4_expect_10 (T_X4_fail l E _ _ _ _) rfl ?_
    refine Mh_sub (lv' := []) [] rfl ?_
    exact t_X4_expect_13 l E c0 s0 _ _ _
def f_X4_expect_0 (l0 : Nat) (l1 : Int32) (m : Mm) (o : Prop) : Int32 × Mm × Prop := bnd (F_X4_sign l0 m (o ∧ gT m l0 = 5)) (fun v1 m1 o1 => f_X4_expect_4 l0 l1 v1 m1 o1)
set_option maxRecDepth 10000 in
theorem t_X4_expect_0 (l : Launch) (E : En) (c0 s0 : Nat) (l0 : Nat) (l1 : Int32) (m : Mm) (o : Prop) : Mh wI l E mi_X4_expect c0 s0 0 [(0, .ref l0), (1, .int l1)] [] m o (f_X4_expect_0 l0 l1 m o) := by
  refine Mh_aload_n 0 rfl dX4_expect_0 ?_
  refine Mh_cvI (N := mi_X4_sign) (q := l0) (ci := 4) (as := []) (st := []) (id) cg_yX4_sign (by decide) rfl rfl ml_RX4_47 iv_yX4_sign pd_yX4_sign rfl (by decide) (Nat.le_of_ble_eq_true rfl) rfl dX4_expect_1 (T_X4_sign l E _ _ _) rfl ?_
  exact t_X4_expect_4 l E c0 s0 _ _ _ _ _
def F_X4_expect (a0 : Nat) (a1 : Int32) (m : Mm) (o : Prop) : Int32 × Mm × Prop := f_X4_expect_0 a0 a1 m o
theorem T_X4_expect (l : Launch) (E : En) (a0 : Nat) (a1 : Int32) (m : Mm) (o : Prop) : Mt wI l E yX4_expect mi_X4_expect [.ref a0, .int a1] m o (F_X4_expect a0 a1 m o) :=
  Mt_I (by decide) rfl rfl rfl (Nat.le_of_ble_eq_true rfl) rfl (.inr (.inl rfl)) (t_X4_expect_0 l E _ _ _ _ _ _)
def f_X4_isDigit_17 (y0 : Int32) (m : Mm) (o : Prop) : Int32 × Mm × Prop := (y0, m, o ∧ (y0 = 0 ∨ y0 = 1))
set_option maxRecDepth 10000 in
theorem t_X4_isDigit_17 (l : Launch) (E : En) (c0 s0 : Nat) (y0 : Int32) (m : Mm) (o : Prop) : Mh wI l E mi_X4_isDigit c0 s0 17 [] [.int y0] m o (f_X4_isDigit_17 y0 m o) := by
  exact Mh_retZ dX4_isDigit_17 (.inl rfl) rfl
def f_X4_isDigit_16 (m : Mm) (o : Prop) : Int32 × Mm × Prop := f_X4_isDigit_17 (0 : Int32) m o
set_option maxRecDepth 10000 in
theorem t_X4_isDigit_16 (l : Launch) (E : En) (c0 s0 : Nat) (m : Mm) (o : Prop) : Mh wI l E mi_X4_isDigit c0 s0 16 [] [] m o (f_X4_isDigit_16  m o) := by
  refine Mh_iconst (v := 0) dX4_isDigit_16 (by decide) ?_
  exact t_X4_isDigit_17 l E c0 s0 _ _ _
def f_X4_isDigit_0 (l0 : Int32) (m : Mm) (o : Prop) : Int32 × Mm × Prop := if l0 < (48 : Int32) then (f_X4_isDigit_16  m o) else (if (57 : Int32) < l0 then (f_X4_isDigit_16  m o) else (f_X4_isDigit_17 (1 : Int32) m o))
set_option maxRecDepth 10000 in
theorem t_X4_isDigit_0 (l : Launch) (E : En) (c0 s0 : Nat) (l0 : Int32) (m : Mm) (o : Prop) : Mh wI l E mi_X4_isDigit c0 s0 0 [(0, .int l0)] [] m o (f_X4_isDigit_0 l0 m o) := by
  refine Mh_iload_n 0 rfl dX4_isDigit_0 ?_
  refine Mh_bipush (v := 48) dX4_isDigit_1 (by decide) ?_
  refine Mh_icmp_lt (tgt := 16) dX4_isDigit_3 (by decide) rfl (fun _ => ?_) (fun _ => ?_)
  · refine Mh_sub (lv' := []) [] rfl ?_
    exact t_X4_isDigit_16 l E c0 s0  _ _
  · refine Mh_iload_n 0 rfl dX4_isDigit_6 ?_
    refine Mh_bipush (v := 57) dX4_isDigit_7 (by decide) ?_
    refine Mh_icmp_gt (tgt := 16) dX4_isDigit_9 (by decide) rfl (fun _ => ?_) (fun _ => ?_)
    · refine Mh_sub (lv' := []) [] rfl ?_
      exact t_X4_isDigit_16 l E c0 s0  _ _
    · refine Mh_iconst (v := 1) dX4_isDigit_12 (by decide) ?_
      refine Mh_goto (tgt := 17) dX4_isDigit_13 (by decide) ?_
      refine Mh_sub (lv' := []) [] rfl ?_
      exact t_X4_isDigit_17 l E c0 s0 _ _ _
def F_X4_isDigit (a0 : Int32) (m : Mm) (o : Prop) : Int32 × Mm × Prop := f_X4_isDigit_0 a0 m o
theorem T_X4_isDigit (l : Launch) (E : En) (a0 : Int32) (m : Mm) (o : Prop) : Mt wI l E yX4_isDigit mi_X4_isDigit [.int a0] m o (F_X4_isDigit a0 m o) :=
  Mt_I (by decide) rfl rfl rfl (Nat.le_of_ble_eq_true rfl) rfl (.inr (.inl rfl)) (t_X4_isDigit_0 l E _ _ _ _ _)
def f_X4_number_29 (y0 : Int32) (m : Mm) (o : Prop) : Int32 × Mm × Prop := (y0, m, o ∧ (y0 = 0 ∨ y0 = 1))
set_option maxRecDepth 10000 in
theorem t_X4_number_29 (l : Launch) (E : En) (c0 s0 : Nat) (y0 : Int32) (m : Mm) (o : Prop) : Mh wI l E mi_X4_number c0 s0 29 [] [.int y0] m o (f_X4_number_29 y0 m o) := by
  exact Mh_retZ dX4_number_29 (.inl rfl) rfl
def f_X4_number_53 (k4 : Nat → Int32 → Int32 → Mm → Prop → Int32 × Mm × Prop) (l0 : Nat) (l1 : Int32) (l2 : Int32) (m : Mm) (o : Prop) : Int32 × Mm × Prop := k4 l0 l1 (l2 + 1) m o
set_option maxRecDepth 10000 in
theorem t_X4_number_53 (l : Launch) (E : En) (c0 s0 : Nat) (k4 : Nat → Int32 → Int32 → Mm → Prop → Int32 × Mm × Prop) (hk4 : ∀ (l0 : Nat) (l1 : Int32) (l2 : Int32) (m : Mm) (o : Prop), Mh wI l E mi_X4_number c0 s0 4 [(0, .ref l0), (1, .int l1), (2, .int l2)] [] m o (k4 l0 l1 l2 m o)) (l0 : Nat) (l1 : Int32) (l2 : Int32) (m : Mm) (o : Prop) : Mh wI l E mi_X4_number c0 s0 53 [(0, .ref l0), (1, .int l1), (2, .int l2)] [] m o (f_X4_number_53 k4 l0 l1 l2 m o) := by
  refine Mh_iinc (v := l2 + 1) (lv' := [(2, .int (l2 + 1)), (0, .ref l0), (1, .int l1)]) 2 dX4_number_53 rfl rfl (Nat.le_of_ble_eq_true rfl) rfl ?_
  refine Mh_goto (tgt := 4) dX4_number_56 (by decide) ?_
  refine Mh_sub (lv' := [(0, .ref l0), (1, .int l1), (2, .int (l2 + 1))]) [1, 2, 0] rfl ?_
  exact hk4 _ _ _ _ _
def f_X4_number_38 (k4 : Nat → Int32 → Int32 → Mm → Prop → Int32 × Mm × Prop) (l0 : Nat) (l2 : Int32) (y1 : Int32) (y0 : Int32) (m : Mm) (o : Prop) : Int32 × Mm × Prop := f_X4_number_53 k4 l0 ((y0 + y1) - (48 : Int32)) l2 (sI m l0 3 ((gI m l0 3) + (1 : Int32))) (o ∧ gT m l0 = 5)
set_option maxRecDepth 10000 in
theorem t_X4_number_38 (l : Launch) (E : En) (c0 s0 : Nat) (k4 : Nat → Int32 → Int32 → Mm → Prop → Int32 × Mm × Prop) (hk4 : ∀ (l0 : Nat) (l1 : Int32) (l2 : Int32) (m : Mm) (o : Prop), Mh wI l E mi_X4_number c0 s0 4 [(0, .ref l0), (1, .int l1), (2, .int l2)] [] m o (k4 l0 l1 l2 m o)) (l0 : Nat) (l2 : Int32) (y1 : Int32) (y0 : Int32) (m : Mm) (o : Prop) : Mh wI l E mi_X4_number c0 s0 38 [(0, .ref l0), (2, .int l2)] [.int y1, .int y0] m o (f_X4_number_38 k4 l0 l2 y1 y0 m o) := by
  refine Mh_iadd dX4_number_38 ?_
  refine Mh_bipush (v := 48) dX4_number_39 (by decide) ?_
  refine Mh_isub dX4_number_41 ?_
  refine Mh_istore_n (lv' := [(1, .int ((y0 + y1) - (48 : Int32))), (0, .ref l0), (2, .int l2)]) dX4_number_42 (Nat.le_of_ble_eq_true rfl) rfl ?_
  refine Mh_aload_n 1 rfl dX4_number_43 ?_
  refine Mh_dup dX4_number_44 rfl ?_
  refine Mh_gI fd_4_3 fl_RX4_28 dX4_number_45 ?_
  refine Mh_iconst (v := 1) dX4_number_48 (by decide) ?_
  refine Mh_iadd dX4_number_49 ?_
  refine Mh_pI fd_4_3 ft_4 rfl fl_RX4_28 rfl dX4_number_50 ?_
  refine Mh_ok (fun h => h.2) ?_
  refine Mh_sub (lv' := [(0, .ref l0), (1, .int ((y0 + y1) - (48 : Int32))), (2, .int l2)]) [1, 0, 2] rfl ?_
  exact t_X4_number_53 l E c0 s0 k4 hk4 _ _ _ _ _
def f_X4_number_68 (m : Mm) (o : Prop) : Int32 × Mm × Prop := ((1 : Int32), m, o)
set_option maxRecDepth 10000 in
theorem t_X4_number_68 (l : Launch) (E : En) (c0 s0 : Nat) (m : Mm) (o : Prop) : Mh wI l E mi_X4_number c0 s0 68 [] [] m o (f_X4_number_68  m o) := by
  refine Mh_iconst (v := 1) dX4_number_68 (by decide) ?_
  exact Mh_ret dX4_number_69 rfl (fun _ => rk1Z) rfl
def f_X4_number_59 (l0 : Nat) (l1 : Int32) (m : Mm) (o : Prop) : Int32 × Mm × Prop := bnd (F_X3_add (gR m l0 1) (1 : Int32) l1 m ((o ∧ (gT m l0 = 5 ∧ gR m l0 1 ≠ 0)) ∧ gT m (gR m l0 1) = 4)) (fun _ m1 o1 => f_X4_number_68  m1 o1)
set_option maxRecDepth 10000 in
theorem t_X4_number_59 (l : Launch) (E : En) (c0 s0 : Nat) (l0 : Nat) (l1 : Int32) (m : Mm) (o : Prop) : Mh wI l E mi_X4_number c0 s0 59 [(0, .ref l0), (1, .int l1)] [] m o (f_X4_number_59 l0 l1 m o) := by
  refine Mh_aload_n 0 rfl dX4_number_59 ?_
  refine Mh_gR fd_4_1 fl_RX4_15 dX4_number_60 ?_
  refine Mh_iconst (v := 1) dX4_number_63 (by decide) ?_
  refine Mh_iload_n 1 rfl dX4_number_64 ?_
  refine Mh_cvU (N := mi_X3_add) (q := gR m l0 1) (ci := 3) (as := [.int (1 : Int32), .int l1]) (st := []) (id) cg_yX3_add (by decide) rfl rfl ml_RX4_81 iv_yX3_add pd_yX3_add rfl (by decide) (Nat.le_of_ble_eq_true rfl) rfl dX4_number_65 (T_X3_add l E _ _ _ _ _) rfl ?_
  refine Mh_sub (lv' := []) [] rfl ?_
  exact t_X4_number_68 l E c0 s0  _ _
def f_X4_number_16 (k4 : Nat → Int32 → Int32 → Mm → Prop → Int32 × Mm × Prop) (l0 : Nat) (l1 : Int32) (l2 : Int32) (y0 : Int32) (m : Mm) (o : Prop) : Int32 × Mm × Prop := if y0 = 0 then (f_X4_number_59 l0 l1 m o) else (if l2 = (5 : Int32) then (bnd (F_X4_fail l0 (2 : Int32) m (o ∧ gT m l0 = 5)) (fun v1 m1 o1 => f_X4_number_29 v1 m1 o1)) else (bnd (F_X4_sign l0 m (o ∧ gT m l0 = 5)) (fun v1 m1 o1 => f_X4_number_38 k4 l0 l2 v1 ((10 : Int32) * l1) m1 o1)))
set_option maxRecDepth 10000 in
theorem t_X4_number_16 (l : Launch) (E : En) (c0 s0 : Nat) (k4 : Nat → Int32 → Int32 → Mm → Prop → Int32 × Mm × Prop) (hk4 : ∀ (l0 : Nat) (l1 : Int32) (l2 : Int32) (m : Mm) (o : Prop), Mh wI l E mi_X4_number c0 s0 4 [(0, .ref l0), (1, .int l1), (2, .int l2)] [] m o (k4 l0 l1 l2 m o)) (l0 : Nat) (l1 : Int32) (l2 : Int32) (y0 : Int32) (m : Mm) (o : Prop) : Mh wI l E mi_X4_number c0 s0 16 [(0, .ref l0), (1, .int l1), (2, .int l2)] [.int y0] m o (f_X4_number_16 k4 l0 l1 l2 y0 m o) := by
  refine Mh_if_eq (tgt := 59) dX4_number_16 (by decide) rfl (fun _ => ?_) (fun _ => ?_)
  · refine Mh_sub (lv' := [(0, .ref l0), (1, .int l1)]) [0, 1] rfl ?_
    exact t_X4_number_59 l E c0 s0 _ _ _ _
  · refine Mh_iload_n 2 rfl dX4_number_19 ?_
    refine Mh_iconst (v := 5) dX4_number_20 (by decide) ?_
    refine Mh_icmp_ne (tgt := 30) dX4_number_21 (by decide) rfl (fun _ => ?_) (fun _ => ?_)
    · refine Mh_bipush (v := 10) dX4_number_30 (by decide) ?_
      refine Mh_iload_n 1 rfl dX4_number_32 ?_
      refine Mh_imul dX4_number_33 ?_
      refine Mh_aload_n 0 rfl dX4_number_34 ?_
      refine Mh_cvI (N := mi_X4_sign) (q := l0) (ci := 4) (as := []) (st := [.int ((10 : Int32) * l1)]) (id) cg_yX4_sign (by decide) rfl rfl ml_RX4_47 iv_yX4_sign pd_yX4_sign rfl (by decide) (Nat.le_of_ble_eq_true rfl) rfl dX4_number_35 (T_X4_sign l E _ _ _) rfl ?_
      refine Mh_sub (lv' := [(0, .ref l0), (2, .int l2)]) [0, 2] rfl ?_
      exact t_X4_number_38 l E c0 s0 k4 hk4 _ _ _ _ _ _
    · refine Mh_aload_n 0 rfl dX4_number_24 ?_
      refine Mh_iconst (v := 2) dX4_number_25 (by decide) ?_
      refine Mh_cvI (N := mi_X4_fail) (q := l0) (ci := 4) (as := [.int (2 : Int32)]) (st := []) (id) cg_yX4_fail (by decide) rfl rfl ml_RX4_51 iv_yX4_fail pd_yX4_fail rfl (by decide) (Nat.le_of_ble_eq_true rfl) rfl dX4_number_26 (T_X4_fail l E _ _ _ _) rfl ?_
      refine Mh_sub (lv' := []) [] rfl ?_
      exact t_X4_number_29 l E c0 s0 _ _ _
def f_X4_number_13 (k4 : Nat → Int32 → Int32 → Mm → Prop → Int32 × Mm × Prop) (l0 : Nat) (l1 : Int32) (l2 : Int32) (y0 : Int32) (m : Mm) (o : Prop) : Int32 × Mm × Prop := bnd (F_X4_isDigit y0 m o) (fun v1 m1 o1 => f_X4_number_16 k4 l0 l1 l2 v1 m1 o1)
set_option maxRecDepth 10000 in
theorem t_X4_number_13 (l : Launch) (E : En) (c0 s0 : Nat) (k4 : Nat → Int32 → Int32 → Mm → Prop → Int32 × Mm × Prop) (hk4 : ∀ (l0 : Nat) (l1 : Int32) (l2 : Int32) (m : Mm) (o : Prop), Mh wI l E mi_X4_number c0 s0 4 [(0, .ref l0), (1, .int l1), (2, .int l2)] [] m o (k4 l0 l1 l2 m o)) (l0 : Nat) (l1 : Int32) (l2 : Int32) (y0 : Int32) (m : Mm) (o : Prop) : Mh wI l E mi_X4_number c0 s0 13 [(0, .ref l0), (1, .int l1), (2, .int l2)] [.int y0] m o (f_X4_number_13 k4 l0 l1 l2 y0 m o) := by
  refine Mh_csI (N := mi_X4_isDigit) (as := [.int y0]) (st := []) cg_yX4_isDigit (.inl ml_RX4_87) sv_yX4_isDigit pd_yX4_isDigit rfl (by decide) (Nat.le_of_ble_eq_true rfl) rfl dX4_number_13 (T_X4_isDigit l E _ _ _) rfl ?_
  exact t_X4_number_16 l E c0 s0 k4 hk4 _ _ _ _ _ _
def f_X4_number_4b (k4 : Nat → Int32 → Int32 → Mm → Prop → Int32 × Mm × Prop) (l0 : Nat) (l1 : Int32) (l2 : Int32) (m : Mm) (o : Prop) : Int32 × Mm × Prop := if (5 : Int32) < l2 then (f_X4_number_59 l0 l1 m o) else (bnd (F_X4_sign l0 m (o ∧ gT m l0 = 5)) (fun v1 m1 o1 => f_X4_number_13 k4 l0 l1 l2 v1 m1 o1))
set_option maxRecDepth 10000 in
theorem t_X4_number_4b (l : Launch) (E : En) (c0 s0 : Nat) (k4 : Nat → Int32 → Int32 → Mm → Prop → Int32 × Mm × Prop) (hk4 : ∀ (l0 : Nat) (l1 : Int32) (l2 : Int32) (m : Mm) (o : Prop), Mh wI l E mi_X4_number c0 s0 4 [(0, .ref l0), (1, .int l1), (2, .int l2)] [] m o (k4 l0 l1 l2 m o)) (l0 : Nat) (l1 : Int32) (l2 : Int32) (m : Mm) (o : Prop) : Mh wI l E mi_X4_number c0 s0 4 [(0, .ref l0), (1, .int l1), (2, .int l2)] [] m o (f_X4_number_4b k4 l0 l1 l2 m o) := by
  refine Mh_iload_n 2 rfl dX4_number_4 ?_
  refine Mh_iconst (v := 5) dX4_number_5 (by decide) ?_
  refine Mh_icmp_gt (tgt := 59) dX4_number_6 (by decide) rfl (fun _ => ?_) (fun _ => ?_)
  · refine Mh_sub (lv' := [(0, .ref l0), (1, .int l1)]) [0, 1] rfl ?_
    exact t_X4_number_59 l E c0 s0 _ _ _ _
  · refine Mh_aload_n 0 rfl dX4_number_9 ?_
    refine Mh_cvI (N := mi_X4_sign) (q := l0) (ci := 4) (as := []) (st := []) (id) cg_yX4_sign (by decide) rfl rfl ml_RX4_47 iv_yX4_sign pd_yX4_sign rfl (by decide) (Nat.le_of_ble_eq_true rfl) rfl dX4_number_10 (T_X4_sign l E _ _ _) rfl ?_
    exact t_X4_number_13 l E c0 s0 k4 hk4 _ _ _ _ _ _
def f_X4_number_4 : Nat → Nat → Int32 → Int32 → Mm → Prop → Int32 × Mm × Prop
  | 0, _, _, _, m, _ => (0, m, False)
  | n + 1, l0, l1, l2, m, o => f_X4_number_4b (f_X4_number_4 n) l0 l1 l2 m o
theorem t_X4_number_4 (l : Launch) (E : En) (c0 s0 : Nat) : ∀ (n : Nat) (l0 : Nat) (l1 : Int32) (l2 : Int32) (m : Mm) (o : Prop), Mh wI l E mi_X4_number c0 s0 4 [(0, .ref l0), (1, .int l1), (2, .int l2)] [] m o (f_X4_number_4 n l0 l1 l2 m o)
  | 0, _, _, _, _, _ => Mh_out rfl
  | n + 1, l0, l1, l2, m, o => t_X4_number_4b l E c0 s0 (f_X4_number_4 n) (t_X4_number_4 l E c0 s0 n) l0 l1 l2 m o
def f_X4_number_0 (l0 : Nat) (m : Mm) (o : Prop) : Int32 × Mm × Prop := f_X4_number_4 1000 l0 (0 : Int32) (0 : Int32) m o
set_option maxRecDepth 10000 in
theorem t_X4_number_0 (l : Launch) (E : En) (c0 s0 : Nat) (l0 : Nat) (m : Mm) (o : Prop) : Mh wI l E mi_X4_number c0 s0 0 [(0, .ref l0)] [] m o (f_X4_number_0 l0 m o) := by
  refine Mh_iconst (v := 0) dX4_number_0 (by decide) ?_
  refine Mh_istore_n (lv' := [(1, .int (0 : Int32)), (0, .ref l0)]) dX4_number_1 (Nat.le_of_ble_eq_true rfl) rfl ?_
  refine Mh_iconst (v := 0) dX4_number_2 (by decide) ?_
  refine Mh_istore_n (lv' := [(2, .int (0 : Int32)), (1, .int (0 : Int32)), (0, .ref l0)]) dX4_number_3 (Nat.le_of_ble_eq_true rfl) rfl ?_
  refine Mh_sub (lv' := [(0, .ref l0), (1, .int (0 : Int32)), (2, .int (0 : Int32))]) [2, 1, 0] rfl ?_
  exact t_X4_number_4 l E c0 s0 _ _ _ _ _ _
def F_X4_number (a0 : Nat) (m : Mm) (o : Prop) : Int32 × Mm × Prop := f_X4_number_0 a0 m o
theorem T_X4_number (l : Launch) (E : En) (a0 : Nat) (m : Mm) (o : Prop) : Mt wI l E yX4_number mi_X4_number [.ref a0] m o (F_X4_number a0 m o) :=
  Mt_I (by decide) rfl rfl rfl (Nat.le_of_ble_eq_true rfl) rfl (.inr (.inl rfl)) (t_X4_number_0 l E _ _ _ _ _)
