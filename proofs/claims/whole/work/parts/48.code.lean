def f_X12_salted_34 (m : Mm) (o : Prop) : Int32 × Mm × Prop := ((-3 : Int32), m, o)
set_option maxRecDepth 10000 in
theorem t_X12_salted_34 (l : Launch) (E : En) (c0 s0 : Nat) (m : Mm) (o : Prop) : Mh wI l E mi_X12_salted c0 s0 34 [] [] m o (f_X12_salted_34  m o) := by
  refine Mh_bipush (v := (-3)) dX12_salted_34 (by decide) ?_
  exact Mh_ret dX12_salted_36 rfl (fun _ => rfl) rfl
def f_X12_salted_125 (k66 : Nat → Int32 → Int32 → Int32 → Int32 → Int32 → Int32 → Mm → Prop → Int32 × Mm × Prop) (k78 : Nat → Int32 → Int32 → Int32 → Int32 → Int32 → Int32 → Int32 → Mm → Prop → Int32 × Mm × Prop) (l0 : Nat) (l1 : Int32) (l2 : Int32) (l3 : Int32) (l4 : Int32) (l5 : Int32) (l6 : Int32) (l7 : Int32) (m : Mm) (o : Prop) : Int32 × Mm × Prop := k78 l0 l1 l2 l3 l4 l5 l6 (l7 + 1) m o
set_option maxRecDepth 10000 in
theorem t_X12_salted_125 (l : Launch) (E : En) (c0 s0 : Nat) (k66 : Nat → Int32 → Int32 → Int32 → Int32 → Int32 → Int32 → Mm → Prop → Int32 × Mm × Prop) (hk66 : ∀ (l0 : Nat) (l1 : Int32) (l2 : Int32) (l3 : Int32) (l4 : Int32) (l5 : Int32) (l6 : Int32) (m : Mm) (o : Prop), Mh wI l E mi_X12_salted c0 s0 66 [(0, .ref l0), (1, .int l1), (2, .int l2), (3, .int l3), (4, .int l4), (5, .int l5), (6, .int l6)] [] m o (k66 l0 l1 l2 l3 l4 l5 l6 m o)) (k78 : Nat → Int32 → Int32 → Int32 → Int32 → Int32 → Int32 → Int32 → Mm → Prop → Int32 × Mm × Prop) (hk78 : ∀ (l0 : Nat) (l1 : Int32) (l2 : Int32) (l3 : Int32) (l4 : Int32) (l5 : Int32) (l6 : Int32) (l7 : Int32) (m : Mm) (o : Prop), Mh wI l E mi_X12_salted c0 s0 78 [(0, .ref l0), (1, .int l1), (2, .int l2), (3, .int l3), (4, .int l4), (5, .int l5), (6, .int l6), (7, .int l7)] [] m o (k78 l0 l1 l2 l3 l4 l5 l6 l7 m o)) (l0 : Nat) (l1 : Int32) (l2 : Int32) (l3 : Int32) (l4 : Int32) (l5 : Int32) (l6 : Int32) (l7 : Int32) (m : Mm) (o : Prop) : Mh wI l E mi_X12_salted c0 s0 125 [(0, .ref l0), (1, .int l1), (2, .int l2), (3, .int l3), (4, .int l4), (5, .int l5), (6, .int l6), (7, .int l7)] [] m o (f_X12_salted_125 k66 k78 l0 l1 l2 l3 l4 l5 l6 l7 m o) := by
  refine Mh_iinc (v := l7 + 1) (lv' := [(7, .int (l7 + 1)), (0, .ref l0), (1, .int l1), (2, .int l2), (3, .int l3), (4, .int l4), (5, .int l5), (6, .int l6)]) 7 dX12_salted_125 rfl rfl (Nat.le_of_ble_eq_true rfl) rfl ?_
  refine Mh_goto (tgt := 78) dX12_salted_128 (by decide) ?_
  refine Mh_sub (lv' := [(0, .ref l0), (1, .int l1), (2, .int l2), (3, .int l3), (4, .int l4), (5, .int l5), (6, .int l6), (7, .int (l7 + 1))]) [1, 2, 3, 4, 5, 6, 7, 0] rfl ?_
  exact hk78 _ _ _ _ _ _ _ _ _ _
def f_X12_salted_122 (k66 : Nat → Int32 → Int32 → Int32 → Int32 → Int32 → Int32 → Mm → Prop → Int32 × Mm × Prop) (k78 : Nat → Int32 → Int32 → Int32 → Int32 → Int32 → Int32 → Int32 → Mm → Prop → Int32 × Mm × Prop) (l0 : Nat) (l1 : Int32) (l2 : Int32) (l3 : Int32) (l4 : Int32) (l5 : Int32) (l6 : Int32) (l7 : Int32) (m : Mm) (o : Prop) : Int32 × Mm × Prop := f_X12_salted_125 k66 k78 l0 l1 l2 (l3 + 1) l4 l5 l6 l7 m o
set_option maxRecDepth 10000 in
theorem t_X12_salted_122 (l : Launch) (E : En) (c0 s0 : Nat) (k66 : Nat → Int32 → Int32 → Int32 → Int32 → Int32 → Int32 → Mm → Prop → Int32 × Mm × Prop) (hk66 : ∀ (l0 : Nat) (l1 : Int32) (l2 : Int32) (l3 : Int32) (l4 : Int32) (l5 : Int32) (l6 : Int32) (m : Mm) (o : Prop), Mh wI l E mi_X12_salted c0 s0 66 [(0, .ref l0), (1, .int l1), (2, .int l2), (3, .int l3), (4, .int l4), (5, .int l5), (6, .int l6)] [] m o (k66 l0 l1 l2 l3 l4 l5 l6 m o)) (k78 : Nat → Int32 → Int32 → Int32 → Int32 → Int32 → Int32 → Int32 → Mm → Prop → Int32 × Mm × Prop) (hk78 : ∀ (l0 : Nat) (l1 : Int32) (l2 : Int32) (l3 : Int32) (l4 : Int32) (l5 : Int32) (l6 : Int32) (l7 : Int32) (m : Mm) (o : Prop), Mh wI l E mi_X12_salted c0 s0 78 [(0, .ref l0), (1, .int l1), (2, .int l2), (3, .int l3), (4, .int l4), (5, .int l5), (6, .int l6), (7, .int l7)] [] m o (k78 l0 l1 l2 l3 l4 l5 l6 l7 m o)) (l0 : Nat) (l1 : Int32) (l2 : Int32) (l3 : Int32) (l4 : Int32) (l5 : Int32) (l6 : Int32) (l7 : Int32) (m : Mm) (o : Prop) : Mh wI l E mi_X12_salted c0 s0 122 [(0, .ref l0), (1, .int l1), (2, .int l2), (3, .int l3), (4, .int l4), (5, .int l5), (6, .int l6), (7, .int l7)] [] m o (f_X12_salted_122 k66 k78 l0 l1 l2 l3 l4 l5 l6 l7 m o) := by
  refine Mh_iinc (v := l3 + 1) (lv' := [(3, .int (l3 + 1)), (0, .ref l0), (1, .int l1), (2, .int l2), (4, .int l4), (5, .int l5), (6, .int l6), (7, .int l7)]) 3 dX12_salted_122 rfl rfl (Nat.le_of_ble_eq_true rfl) rfl ?_
  refine Mh_sub (lv' := [(0, .ref l0), (1, .int l1), (2, .int l2), (3, .int (l3 + 1)), (4, .int l4), (5, .int l5), (6, .int l6), (7, .int l7)]) [1, 2, 3, 0, 4, 5, 6, 7] rfl ?_
  exact t_X12_salted_125 l E c0 s0 k66 hk66 k78 hk78 _ _ _ _ _ _ _ _ _ _
def f_X12_salted_104 (k66 : Nat → Int32 → Int32 → Int32 → Int32 → Int32 → Int32 → Mm → Prop → Int32 × Mm × Prop) (k78 : Nat → Int32 → Int32 → Int32 → Int32 → Int32 → Int32 → Int32 → Mm → Prop → Int32 × Mm × Prop) (l0 : Nat) (l1 : Int32) (l2 : Int32) (l3 : Int32) (l4 : Int32) (l5 : Int32) (l6 : Int32) (l7 : Int32) (y0 : Int32) (m : Mm) (o : Prop) : Int32 × Mm × Prop := if y0 = 0 then (f_X12_salted_125 k66 k78 l0 l1 l2 l3 l4 l5 l6 l7 m o) else (if l3 = 0 then (f_X12_salted_122 k66 k78 l0 l1 l2 l3 l6 l7 l6 l7 m o) else (f_X12_salted_122 k66 k78 l0 l1 l2 l3 l4 l5 l6 l7 m o))
set_option maxRecDepth 10000 in
theorem t_X12_salted_104 (l : Launch) (E : En) (c0 s0 : Nat) (k66 : Nat → Int32 → Int32 → Int32 → Int32 → Int32 → Int32 → Mm → Prop → Int32 × Mm × Prop) (hk66 : ∀ (l0 : Nat) (l1 : Int32) (l2 : Int32) (l3 : Int32) (l4 : Int32) (l5 : Int32) (l6 : Int32) (m : Mm) (o : Prop), Mh wI l E mi_X12_salted c0 s0 66 [(0, .ref l0), (1, .int l1), (2, .int l2), (3, .int l3), (4, .int l4), (5, .int l5), (6, .int l6)] [] m o (k66 l0 l1 l2 l3 l4 l5 l6 m o)) (k78 : Nat → Int32 → Int32 → Int32 → Int32 → Int32 → Int32 → Int32 → Mm → Prop → Int32 × Mm × Prop) (hk78 : ∀ (l0 : Nat) (l1 : Int32) (l2 : Int32) (l3 : Int32) (l4 : Int32) (l5 : Int32) (l6 : Int32) (l7 : Int32) (m : Mm) (o : Prop), Mh wI l E mi_X12_salted c0 s0 78 [(0, .ref l0), (1, .int l1), (2, .int l2), (3, .int l3), (4, .int l4), (5, .int l5), (6, .int l6), (7, .int l7)] [] m o (k78 l0 l1 l2 l3 l4 l5 l6 l7 m o)) (l0 : Nat) (l1 : Int32) (l2 : Int32) (l3 : Int32) (l4 : Int32) (l5 : Int32) (l6 : Int32) (l7 : Int32) (y0 : Int32) (m : Mm) (o : Prop) : Mh wI l E mi_X12_salted c0 s0 104 [(0, .ref l0), (1, .int l1), (2, .int l2), (3, .int l3), (4, .int l4), (5, .int l5), (6, .int l6), (7, .int l7)] [.int y0] m o (f_X12_salted_104 k66 k78 l0 l1 l2 l3 l4 l5 l6 l7 y0 m o) := by
  refine Mh_if_ne (tgt := 110) dX12_salted_104 (by decide) rfl (fun _ => ?_) (fun _ => ?_)
  · refine Mh_iload_n 3 rfl dX12_salted_110 ?_
    refine Mh_if_ne (tgt := 122) dX12_salted_111 (by decide) rfl (fun _ => ?_) (fun _ => ?_)
    · exact t_X12_salted_122 l E c0 s0 k66 hk66 k78 hk78 _ _ _ _ _ _ _ _ _ _
    · refine Mh_iload 6 rfl dX12_salted_114 ?_
      refine Mh_istore (lv' := [(4, .int l6), (0, .ref l0), (1, .int l1), (2, .int l2), (3, .int l3), (5, .int l5), (6, .int l6), (7, .int l7)]) dX12_salted_116 (Nat.le_of_ble_eq_true rfl) rfl ?_
      refine Mh_iload 7 rfl dX12_salted_118 ?_
      refine Mh_istore (lv' := [(5, .int l7), (4, .int l6), (0, .ref l0), (1, .int l1), (2, .int l2), (3, .int l3), (6, .int l6), (7, .int l7)]) dX12_salted_120 (Nat.le_of_ble_eq_true rfl) rfl ?_
      refine Mh_sub (lv' := [(0, .ref l0), (1, .int l1), (2, .int l2), (3, .int l3), (4, .int l6), (5, .int l7), (6, .int l6), (7, .int l7)]) [2, 3, 4, 5, 1, 0, 6, 7] rfl ?_
      exact t_X12_salted_122 l E c0 s0 k66 hk66 k78 hk78 _ _ _ _ _ _ _ _ _ _
  · refine Mh_goto (tgt := 125) dX12_salted_107 (by decide) ?_
    exact t_X12_salted_125 l E c0 s0 k66 hk66 k78 hk78 _ _ _ _ _ _ _ _ _ _
def f_X12_salted_131 (k66 : Nat → Int32 → Int32 → Int32 → Int32 → Int32 → Int32 → Mm → Prop → Int32 × Mm × Prop) (l0 : Nat) (l1 : Int32) (l2 : Int32) (l3 : Int32) (l4 : Int32) (l5 : Int32) (l6 : Int32) (m : Mm) (o : Prop) : Int32 × Mm × Prop := k66 l0 l1 l2 l3 l4 l5 (l6 + 1) m o
set_option maxRecDepth 10000 in
theorem t_X12_salted_131 (l : Launch) (E : En) (c0 s0 : Nat) (k66 : Nat → Int32 → Int32 → Int32 → Int32 → Int32 → Int32 → Mm → Prop → Int32 × Mm × Prop) (hk66 : ∀ (l0 : Nat) (l1 : Int32) (l2 : Int32) (l3 : Int32) (l4 : Int32) (l5 : Int32) (l6 : Int32) (m : Mm) (o : Prop), Mh wI l E mi_X12_salted c0 s0 66 [(0, .ref l0), (1, .int l1), (2, .int l2), (3, .int l3), (4, .int l4), (5, .int l5), (6, .int l6)] [] m o (k66 l0 l1 l2 l3 l4 l5 l6 m o)) (l0 : Nat) (l1 : Int32) (l2 : Int32) (l3 : Int32) (l4 : Int32) (l5 : Int32) (l6 : Int32) (m : Mm) (o : Prop) : Mh wI l E mi_X12_salted c0 s0 131 [(0, .ref l0), (1, .int l1), (2, .int l2), (3, .int l3), (4, .int l4), (5, .int l5), (6, .int l6)] [] m o (f_X12_salted_131 k66 l0 l1 l2 l3 l4 l5 l6 m o) := by
  refine Mh_iinc (v := l6 + 1) (lv' := [(6, .int (l6 + 1)), (0, .ref l0), (1, .int l1), (2, .int l2), (3, .int l3), (4, .int l4), (5, .int l5)]) 6 dX12_salted_131 rfl rfl (Nat.le_of_ble_eq_true rfl) rfl ?_
  refine Mh_goto (tgt := 66) dX12_salted_134 (by decide) ?_
  refine Mh_sub (lv' := [(0, .ref l0), (1, .int l1), (2, .int l2), (3, .int l3), (4, .int l4), (5, .int l5), (6, .int (l6 + 1))]) [1, 2, 3, 4, 5, 6, 0] rfl ?_
  exact hk66 _ _ _ _ _ _ _ _ _
def f_X12_salted_78b (k66 : Nat → Int32 → Int32 → Int32 → Int32 → Int32 → Int32 → Mm → Prop → Int32 × Mm × Prop) (k78 : Nat → Int32 → Int32 → Int32 → Int32 → Int32 → Int32 → Int32 → Mm → Prop → Int32 × Mm × Prop) (l0 : Nat) (l1 : Int32) (l2 : Int32) (l3 : Int32) (l4 : Int32) (l5 : Int32) (l6 : Int32) (l7 : Int32) (m : Mm) (o : Prop) : Int32 × Mm × Prop := if (10 : Int32) ≤ l7 then (f_X12_salted_131 k66 l0 l1 l2 l3 l4 l5 l6 m o) else (if (gI m (gR m l0 14) (ix l6)) = 0 then (f_X12_salted_131 k66 l0 l1 l2 l3 l4 l5 l6 m ((o ∧ (gT m l0 = 12 ∧ gR m l0 14 ≠ 0)) ∧ (gT m (gR m l0 14) = 22 ∧ vp_in l6 (gN m (gR m l0 14))))) else (bnd (F_X12_fits l0 l6 l7 l1 m (((o ∧ (gT m l0 = 12 ∧ gR m l0 14 ≠ 0)) ∧ (gT m (gR m l0 14) = 22 ∧ vp_in l6 (gN m (gR m l0 14)))) ∧ gT m l0 = 12)) (fun v1 m1 o1 => f_X12_salted_104 k66 k78 l0 l1 l2 l3 l4 l5 l6 l7 v1 m1 o1)))
set_option maxRecDepth 10000 in
theorem t_X12_salted_78b (l : Launch) (E : En) (c0 s0 : Nat) (k66 : Nat → Int32 → Int32 → Int32 → Int32 → Int32 → Int32 → Mm → Prop → Int32 × Mm × Prop) (hk66 : ∀ (l0 : Nat) (l1 : Int32) (l2 : Int32) (l3 : Int32) (l4 : Int32) (l5 : Int32) (l6 : Int32) (m : Mm) (o : Prop), Mh wI l E mi_X12_salted c0 s0 66 [(0, .ref l0), (1, .int l1), (2, .int l2), (3, .int l3), (4, .int l4), (5, .int l5), (6, .int l6)] [] m o (k66 l0 l1 l2 l3 l4 l5 l6 m o)) (k78 : Nat → Int32 → Int32 → Int32 → Int32 → Int32 → Int32 → Int32 → Mm → Prop → Int32 × Mm × Prop) (hk78 : ∀ (l0 : Nat) (l1 : Int32) (l2 : Int32) (l3 : Int32) (l4 : Int32) (l5 : Int32) (l6 : Int32) (l7 : Int32) (m : Mm) (o : Prop), Mh wI l E mi_X12_salted c0 s0 78 [(0, .ref l0), (1, .int l1), (2, .int l2), (3, .int l3), (4, .int l4), (5, .int l5), (6, .int l6), (7, .int l7)] [] m o (k78 l0 l1 l2 l3 l4 l5 l6 l7 m o)) (l0 : Nat) (l1 : Int32) (l2 : Int32) (l3 : Int32) (l4 : Int32) (l5 : Int32) (l6 : Int32) (l7 : Int32) (m : Mm) (o : Prop) : Mh wI l E mi_X12_salted c0 s0 78 [(0, .ref l0), (1, .int l1), (2, .int l2), (3, .int l3), (4, .int l4), (5, .int l5), (6, .int l6), (7, .int l7)] [] m o (f_X12_salted_78b k66 k78 l0 l1 l2 l3 l4 l5 l6 l7 m o) := by
  refine Mh_iload 7 rfl dX12_salted_78 ?_
  refine Mh_bipush (v := 10) dX12_salted_80 (by decide) ?_
  refine Mh_icmp_ge (tgt := 131) dX12_salted_82 (by decide) rfl (fun _ => ?_) (fun _ => ?_)
  · refine Mh_sub (lv' := [(0, .ref l0), (1, .int l1), (2, .int l2), (3, .int l3), (4, .int l4), (5, .int l5), (6, .int l6)]) [0, 1, 2, 3, 4, 5, 6] rfl ?_
    exact t_X12_salted_131 l E c0 s0 k66 hk66 _ _ _ _ _ _ _ _ _
  · refine Mh_aload_n 0 rfl dX12_salted_85 ?_
    refine Mh_gR fd_11_14 fl_RX12_39 dX12_salted_86 ?_
    refine Mh_iload 6 rfl dX12_salted_89 ?_
    refine Mh_zal dX12_salted_91 ?_
    refine Mh_if_eq (tgt := 131) dX12_salted_92 (by decide) rfl (fun _ => ?_) (fun _ => ?_)
    · refine Mh_sub (lv' := [(0, .ref l0), (1, .int l1), (2, .int l2), (3, .int l3), (4, .int l4), (5, .int l5), (6, .int l6)]) [0, 1, 2, 3, 4, 5, 6] rfl ?_
      exact t_X12_salted_131 l E c0 s0 k66 hk66 _ _ _ _ _ _ _ _ _
    · refine Mh_aload_n 0 rfl dX12_salted_95 ?_
      refine Mh_iload 6 rfl dX12_salted_96 ?_
      refine Mh_iload 7 rfl dX12_salted_98 ?_
      refine Mh_iload_n 1 rfl dX12_salted_100 ?_
      refine Mh_cvI (N := mi_X12_fits) (q := l0) (ci := 11) (as := [.int l6, .int l7, .int l1]) (st := []) (id) cg_yX12_fits (by decide) rfl rfl ml_RX12_478 iv_yX12_fits pd_yX12_fits rfl (by decide) (Nat.le_of_ble_eq_true rfl) rfl dX12_salted_101 (T_X12_fits l E _ _ _ _ _ _) rfl ?_
      exact t_X12_salted_104 l E c0 s0 k66 hk66 k78 hk78 _ _ _ _ _ _ _ _ _ _ _
def f_X12_salted_78 (k66 : Nat → Int32 → Int32 → Int32 → Int32 → Int32 → Int32 → Mm → Prop → Int32 × Mm × Prop) : Nat → Nat → Int32 → Int32 → Int32 → Int32 → Int32 → Int32 → Int32 → Mm → Prop → Int32 × Mm × Prop
  | 0, _, _, _, _, _, _, _, _, m, _ => (0, m, False)
  | n + 1, l0, l1, l2, l3, l4, l5, l6, l7, m, o => f_X12_salted_78b k66 (f_X12_salted_78 k66 n) l0 l1 l2 l3 l4 l5 l6 l7 m o
theorem t_X12_salted_78 (l : Launch) (E : En) (c0 s0 : Nat) (k66 : Nat → Int32 → Int32 → Int32 → Int32 → Int32 → Int32 → Mm → Prop → Int32 × Mm × Prop) (hk66 : ∀ (l0 : Nat) (l1 : Int32) (l2 : Int32) (l3 : Int32) (l4 : Int32) (l5 : Int32) (l6 : Int32) (m : Mm) (o : Prop), Mh wI l E mi_X12_salted c0 s0 66 [(0, .ref l0), (1, .int l1), (2, .int l2), (3, .int l3), (4, .int l4), (5, .int l5), (6, .int l6)] [] m o (k66 l0 l1 l2 l3 l4 l5 l6 m o)) : ∀ (n : Nat) (l0 : Nat) (l1 : Int32) (l2 : Int32) (l3 : Int32) (l4 : Int32) (l5 : Int32) (l6 : Int32) (l7 : Int32) (m : Mm) (o : Prop), Mh wI l E mi_X12_salted c0 s0 78 [(0, .ref l0), (1, .int l1), (2, .int l2), (3, .int l3), (4, .int l4), (5, .int l5), (6, .int l6), (7, .int l7)] [] m o (f_X12_salted_78 k66 n l0 l1 l2 l3 l4 l5 l6 l7 m o)
  | 0, _, _, _, _, _, _, _, _, _, _ => Mh_out rfl
  | n + 1, l0, l1, l2, l3, l4, l5, l6, l7, m, o => t_X12_salted_78b l E c0 s0 k66 hk66 (f_X12_salted_78 k66 n) (t_X12_salted_78 l E c0 s0 k66 hk66 n) l0 l1 l2 l3 l4 l5 l6 l7 m o
def f_X12_salted_182 (y0 : Int32) (m : Mm) (o : Prop) : Int32 × Mm × Prop := (y0, m, o)
set_option maxRecDepth 10000 in
theorem t_X12_salted_182 (l : Launch) (E : En) (c0 s0 : Nat) (y0 : Int32) (m : Mm) (o : Prop) : Mh wI l E mi_X12_salted c0 s0 182 [] [.int y0] m o (f_X12_salted_182 y0 m o) := by
  exact Mh_ret dX12_salted_182 rfl (fun _ => rfl) rfl
def f_X12_salted_162 (l2 : Int32) (l3 : Int32) (l4 : Int32) (l5 : Int32) (m : Mm) (o : Prop) : Int32 × Mm × Prop := if l2 = 0 then (f_X12_salted_182 l3 m o) else (if l2 = (1 : Int32) then (f_X12_salted_182 l4 m o) else (f_X12_salted_182 l5 m o))
set_option maxRecDepth 10000 in
theorem t_X12_salted_162 (l : Launch) (E : En) (c0 s0 : Nat) (l2 : Int32) (l3 : Int32) (l4 : Int32) (l5 : Int32) (m : Mm) (o : Prop) : Mh wI l E mi_X12_salted c0 s0 162 [(2, .int l2), (3, .int l3), (4, .int l4), (5, .int l5)] [] m o (f_X12_salted_162 l2 l3 l4 l5 m o) := by
  refine Mh_iload_n 0 rfl dX12_salted_162 ?_
  refine Mh_if_ne (tgt := 170) dX12_salted_163 (by decide) rfl (fun _ => ?_) (fun _ => ?_)
  · refine Mh_iload_n 0 rfl dX12_salted_170 ?_
    refine Mh_iconst (v := 1) dX12_salted_171 (by decide) ?_
    refine Mh_icmp_ne (tgt := 180) dX12_salted_172 (by decide) rfl (fun _ => ?_) (fun _ => ?_)
    · refine Mh_iload 3 rfl dX12_salted_180 ?_
      refine Mh_sub (lv' := []) [] rfl ?_
      exact t_X12_salted_182 l E c0 s0 _ _ _
    · refine Mh_iload 2 rfl dX12_salted_175 ?_
      refine Mh_goto (tgt := 182) dX12_salted_177 (by decide) ?_
      refine Mh_sub (lv' := []) [] rfl ?_
      exact t_X12_salted_182 l E c0 s0 _ _ _
  · refine Mh_iload_n 1 rfl dX12_salted_166 ?_
    refine Mh_goto (tgt := 182) dX12_salted_167 (by decide) ?_
    refine Mh_sub (lv' := []) [] rfl ?_
    exact t_X12_salted_182 l E c0 s0 _ _ _
def f_X12_salted_159 (l2 : Int32) (l3 : Int32) (l4 : Int32) (l5 : Int32) (m : Mm) (o : Prop) : Int32 × Mm × Prop := f_X12_salted_162 l2 (l3 + 1) l4 l5 m o
set_option maxRecDepth 10000 in
theorem t_X12_salted_159 (l : Launch) (E : En) (c0 s0 : Nat) (l2 : Int32) (l3 : Int32) (l4 : Int32) (l5 : Int32) (m : Mm) (o : Prop) : Mh wI l E mi_X12_salted c0 s0 159 [(2, .int l2), (3, .int l3), (4, .int l4), (5, .int l5)] [] m o (f_X12_salted_159 l2 l3 l4 l5 m o) := by
  refine Mh_iinc (v := l3 + 1) (lv' := [(3, .int (l3 + 1)), (2, .int l2), (4, .int l4), (5, .int l5)]) 1 dX12_salted_159 rfl rfl (Nat.le_of_ble_eq_true rfl) rfl ?_
  refine Mh_sub (lv' := [(2, .int l2), (3, .int (l3 + 1)), (4, .int l4), (5, .int l5)]) [1, 0, 2, 3] rfl ?_
  exact t_X12_salted_162 l E c0 s0 _ _ _ _ _ _
def f_X12_salted_144 (l2 : Int32) (l3 : Int32) (l4 : Int32) (l5 : Int32) (y0 : Int32) (m : Mm) (o : Prop) : Int32 × Mm × Prop := if y0 = 0 then (f_X12_salted_162 l2 l3 l4 l5 m o) else (if l3 = 0 then (f_X12_salted_159 l2 l3 (12 : Int32) (12 : Int32) m o) else (f_X12_salted_159 l2 l3 l4 l5 m o))
set_option maxRecDepth 10000 in
theorem t_X12_salted_144 (l : Launch) (E : En) (c0 s0 : Nat) (l2 : Int32) (l3 : Int32) (l4 : Int32) (l5 : Int32) (y0 : Int32) (m : Mm) (o : Prop) : Mh wI l E mi_X12_salted c0 s0 144 [(2, .int l2), (3, .int l3), (4, .int l4), (5, .int l5)] [.int y0] m o (f_X12_salted_144 l2 l3 l4 l5 y0 m o) := by
  refine Mh_if_eq (tgt := 162) dX12_salted_144 (by decide) rfl (fun _ => ?_) (fun _ => ?_)
  · exact t_X12_salted_162 l E c0 s0 _ _ _ _ _ _
  · refine Mh_iload_n 1 rfl dX12_salted_147 ?_
    refine Mh_if_ne (tgt := 159) dX12_salted_148 (by decide) rfl (fun _ => ?_) (fun _ => ?_)
    · exact t_X12_salted_159 l E c0 s0 _ _ _ _ _ _
    · refine Mh_bipush (v := 12) dX12_salted_151 (by decide) ?_
      refine Mh_istore (lv' := [(4, .int (12 : Int32)), (2, .int l2), (3, .int l3), (5, .int l5)]) dX12_salted_153 (Nat.le_of_ble_eq_true rfl) rfl ?_
      refine Mh_bipush (v := 12) dX12_salted_155 (by decide) ?_
      refine Mh_istore (lv' := [(5, .int (12 : Int32)), (4, .int (12 : Int32)), (2, .int l2), (3, .int l3)]) dX12_salted_157 (Nat.le_of_ble_eq_true rfl) rfl ?_
      refine Mh_sub (lv' := [(2, .int l2), (3, .int l3), (4, .int (12 : Int32)), (5, .int (12 : Int32))]) [2, 3, 1, 0] rfl ?_
      exact t_X12_salted_159 l E c0 s0 _ _ _ _ _ _
def f_X12_salted_66b (k66 : Nat → Int32 → Int32 → Int32 → Int32 → Int32 → Int32 → Mm → Prop → Int32 × Mm × Prop) (l0 : Nat) (l1 : Int32) (l2 : Int32) (l3 : Int32) (l4 : Int32) (l5 : Int32) (l6 : Int32) (m : Mm) (o : Prop) : Int32 × Mm × Prop := if (gI m l0 2) ≤ l6 then (bnd (F_X12_fits l0 (-1 : Int32) (0 : Int32) l1 m (o ∧ gT m l0 = 12)) (fun v1 m1 o1 => f_X12_salted_144 l2 l3 l4 l5 v1 m1 o1)) else (f_X12_salted_78 k66 1000 l0 l1 l2 l3 l4 l5 l6 (0 : Int32) m (o ∧ gT m l0 = 12))
set_option maxRecDepth 10000 in
theorem t_X12_salted_66b (l : Launch) (E : En) (c0 s0 : Nat) (k66 : Nat → Int32 → Int32 → Int32 → Int32 → Int32 → Int32 → Mm → Prop → Int32 × Mm × Prop) (hk66 : ∀ (l0 : Nat) (l1 : Int32) (l2 : Int32) (l3 : Int32) (l4 : Int32) (l5 : Int32) (l6 : Int32) (m : Mm) (o : Prop), Mh wI l E mi_X12_salted c0 s0 66 [(0, .ref l0), (1, .int l1), (2, .int l2), (3, .int l3), (4, .int l4), (5, .int l5), (6, .int l6)] [] m o (k66 l0 l1 l2 l3 l4 l5 l6 m o)) (l0 : Nat) (l1 : Int32) (l2 : Int32) (l3 : Int32) (l4 : Int32) (l5 : Int32) (l6 : Int32) (m : Mm) (o : Prop) : Mh wI l E mi_X12_salted c0 s0 66 [(0, .ref l0), (1, .int l1), (2, .int l2), (3, .int l3), (4, .int l4), (5, .int l5), (6, .int l6)] [] m o (f_X12_salted_66b k66 l0 l1 l2 l3 l4 l5 l6 m o) := by
  refine Mh_iload 6 rfl dX12_salted_66 ?_
  refine Mh_aload_n 0 rfl dX12_salted_68 ?_
  refine Mh_gI fd_11_2 fl_RX12_192 dX12_salted_69 ?_
  refine Mh_icmp_ge (tgt := 137) dX12_salted_72 (by decide) rfl (fun _ => ?_) (fun _ => ?_)
  · refine Mh_aload_n 0 rfl dX12_salted_137 ?_
    refine Mh_iconst (v := (-1)) dX12_salted_138 (by decide) ?_
    refine Mh_iconst (v := 0) dX12_salted_139 (by decide) ?_
    refine Mh_iload_n 1 rfl dX12_salted_140 ?_
    refine Mh_cvI (N := mi_X12_fits) (q := l0) (ci := 11) (as := [.int (-1 : Int32), .int (0 : Int32), .int l1]) (st := []) (fun h => ⟨h, (fun h => h.2) h⟩) cg_yX12_fits (by decide) rfl rfl ml_RX12_478 iv_yX12_fits pd_yX12_fits rfl (by decide) (Nat.le_of_ble_eq_true rfl) rfl dX12_salted_141 (T_X12_fits l E _ _ _ _ _ _) rfl ?_
    refine Mh_sub (lv' := [(2, .int l2), (3, .int l3), (4, .int l4), (5, .int l5)]) [2, 3, 4, 5] rfl ?_
    exact t_X12_salted_144 l E c0 s0 _ _ _ _ _ _ _
  · refine Mh_iconst (v := 0) dX12_salted_75 (by decide) ?_
    refine Mh_istore (lv' := [(7, .int (0 : Int32)), (0, .ref l0), (1, .int l1), (2, .int l2), (3, .int l3), (4, .int l4), (5, .int l5), (6, .int l6)]) dX12_salted_76 (Nat.le_of_ble_eq_true rfl) rfl ?_
    refine Mh_sub (lv' := [(0, .ref l0), (1, .int l1), (2, .int l2), (3, .int l3), (4, .int l4), (5, .int l5), (6, .int l6), (7, .int (0 : Int32))]) [1, 2, 3, 4, 5, 6, 7, 0] rfl ?_
    exact t_X12_salted_78 l E c0 s0 k66 hk66 _ _ _ _ _ _ _ _ _ _ _
def f_X12_salted_66 : Nat → Nat → Int32 → Int32 → Int32 → Int32 → Int32 → Int32 → Mm → Prop → Int32 × Mm × Prop
  | 0, _, _, _, _, _, _, _, m, _ => (0, m, False)
  | n + 1, l0, l1, l2, l3, l4, l5, l6, m, o => f_X12_salted_66b (f_X12_salted_66 n) l0 l1 l2 l3 l4 l5 l6 m o
theorem t_X12_salted_66 (l : Launch) (E : En) (c0 s0 : Nat) : ∀ (n : Nat) (l0 : Nat) (l1 : Int32) (l2 : Int32) (l3 : Int32) (l4 : Int32) (l5 : Int32) (l6 : Int32) (m : Mm) (o : Prop), Mh wI l E mi_X12_salted c0 s0 66 [(0, .ref l0), (1, .int l1), (2, .int l2), (3, .int l3), (4, .int l4), (5, .int l5), (6, .int l6)] [] m o (f_X12_salted_66 n l0 l1 l2 l3 l4 l5 l6 m o)
  | 0, _, _, _, _, _, _, _, _, _ => Mh_out rfl
  | n + 1, l0, l1, l2, l3, l4, l5, l6, m, o => t_X12_salted_66b l E c0 s0 (f_X12_salted_66 n) (t_X12_salted_66 l E c0 s0 n) l0 l1 l2 l3 l4 l5 l6 m o
def f_X12_salted_47 (l0 : Nat) (l1 : Int32) (l2 : Int32) (y0 : Int32) (m : Mm) (o : Prop) : Int32 × Mm × Prop := if y0 = 0 then ((-2 : Int32), m, o) else (f_X12_salted_66 1000 l0 l1 l2 (0 : Int32) (13 : Int32) (13 : Int32) (0 : Int32) m o)
set_option maxRecDepth 10000 in
theorem t_X12_salted_47 (l : Launch) (E : En) (c0 s0 : Nat) (l0 : Nat) (l1 : Int32) (l2 : Int32) (y0 : Int32) (m : Mm) (o : Prop) : Mh wI l E mi_X12_salted c0 s0 47 [(0, .ref l0), (1, .int l1), (2, .int l2)] [.int y0] m o (f_X12_salted_47 l0 l1 l2 y0 m o) := by
  refine Mh_if_ne (tgt := 53) dX12_salted_47 (by decide) rfl (fun _ => ?_) (fun _ => ?_)
  · refine Mh_iconst (v := 0) dX12_salted_53 (by decide) ?_
    refine Mh_istore_n (lv' := [(3, .int (0 : Int32)), (0, .ref l0), (1, .int l1), (2, .int l2)]) dX12_salted_54 (Nat.le_of_ble_eq_true rfl) rfl ?_
    refine Mh_bipush (v := 13) dX12_salted_55 (by decide) ?_
    refine Mh_istore (lv' := [(4, .int (13 : Int32)), (3, .int (0 : Int32)), (0, .ref l0), (1, .int l1), (2, .int l2)]) dX12_salted_57 (Nat.le_of_ble_eq_true rfl) rfl ?_
    refine Mh_bipush (v := 13) dX12_salted_59 (by decide) ?_
    refine Mh_istore (lv' := [(5, .int (13 : Int32)), (4, .int (13 : Int32)), (3, .int (0 : Int32)), (0, .ref l0), (1, .int l1), (2, .int l2)]) dX12_salted_61 (Nat.le_of_ble_eq_true rfl) rfl ?_
    refine Mh_iconst (v := 0) dX12_salted_63 (by decide) ?_
    refine Mh_istore (lv' := [(6, .int (0 : Int32)), (5, .int (13 : Int32)), (4, .int (13 : Int32)), (3, .int (0 : Int32)), (0, .ref l0), (1, .int l1), (2, .int l2)]) dX12_salted_64 (Nat.le_of_ble_eq_true rfl) rfl ?_
    refine Mh_sub (lv' := [(0, .ref l0), (1, .int l1), (2, .int l2), (3, .int (0 : Int32)), (4, .int (13 : Int32)), (5, .int (13 : Int32)), (6, .int (0 : Int32))]) [4, 5, 6, 3, 2, 1, 0] rfl ?_
    exact t_X12_salted_66 l E c0 s0 _ _ _ _ _ _ _ _ _ _
  · refine Mh_bipush (v := (-2)) dX12_salted_50 (by decide) ?_
    exact Mh_ret dX12_salted_52 rfl (fun _ => rfl) rfl
def f_X12_salted_42 (l0 : Nat) (l1 : Int32) (l2 : Int32) (m : Mm) (o : Prop) : Int32 × Mm × Prop := bnd (F_X12_takesWords l0 l1 m (o ∧ gT m l0 = 12)) (fun v1 m1 o1 => f_X12_salted_47 l0 l1 l2 v1 m1 o1)
set_option maxRecDepth 10000 in
theorem t_X12_salted_42 (l : Launch) (E : En) (c0 s0 : Nat) (l0 : Nat) (l1 : Int32) (l2 : Int32) (m : Mm) (o : Prop) : Mh wI l E mi_X12_salted c0 s0 42 [(0, .ref l0), (1, .int l1), (2, .int l2)] [] m o (f_X12_salted_42 l0 l1 l2 m o) := by
  refine Mh_aload_n 0 rfl dX12_salted_42 ?_
  refine Mh_iload_n 1 rfl dX12_salted_43 ?_
  refine Mh_cvI (N := mi_X12_takesWords) (q := l0) (ci := 11) (as := [.int l1]) (st := []) (id) cg_yX12_takesWords (by decide) rfl rfl ml_RX12_475 iv_yX12_takesWords pd_yX12_takesWords rfl (by decide) (Nat.le_of_ble_eq_true rfl) rfl dX12_salted_44 (T_X12_takesWords l E _ _ _ _) rfl ?_
  exact t_X12_salted_47 l E c0 s0 _ _ _ _ _ _
def f_X12_salted_21 (l0 : Nat) (l1 : Int32) (l2 : Int32) (y0 : Int32) (m : Mm) (o : Prop) : Int32 × Mm × Prop := if y0 = 0 then (f_X12_salted_34  m o) else (if ((3 : Int32) * l1) ≤ (gI m l0 1) then (f_X12_salted_42 l0 l1 l2 (sI m l0 1 (0 : Int32)) (o ∧ gT m l0 = 12)) else (f_X12_salted_34  m (o ∧ gT m l0 = 12)))
set_option maxRecDepth 10000 in
theorem t_X12_salted_21 (l : Launch) (E : En) (c0 s0 : Nat) (l0 : Nat) (l1 : Int32) (l2 : Int32) (y0 : Int32) (m : Mm) (o : Prop) : Mh wI l E mi_X12_salted c0 s0 21 [(0, .ref l0), (1, .int l1), (2, .int l2)] [.int y0] m o (f_X12_salted_21 l0 l1 l2 y0 m o) := by
  refine Mh_if_eq (tgt := 34) dX12_salted_21 (by decide) rfl (fun _ => ?_) (fun _ => ?_)
  · refine Mh_sub (lv' := []) [] rfl ?_
    exact t_X12_salted_34 l E c0 s0  _ _
  · refine Mh_iconst (v := 3) dX12_salted_24 (by decide) ?_
    refine Mh_iload_n 1 rfl dX12_salted_25 ?_
    refine Mh_imul dX12_salted_26 ?_
    refine Mh_aload_n 0 rfl dX12_salted_27 ?_
    refine Mh_gI fd_11_1 fl_RX12_228 dX12_salted_28 ?_
    refine Mh_icmp_le (tgt := 37) dX12_salted_31 (by decide) rfl (fun _ => ?_) (fun _ => ?_)
    · refine Mh_aload_n 0 rfl dX12_salted_37 ?_
      refine Mh_iconst (v := 0) dX12_salted_38 (by decide) ?_
      refine Mh_pI fd_11_1 ft_11 rfl fl_RX12_228 rfl dX12_salted_39 ?_
      refine Mh_ok (fun h => h.2) ?_
      exact t_X12_salted_42 l E c0 s0 _ _ _ _ _
    · refine Mh_sub (lv' := []) [] rfl ?_
      exact t_X12_salted_34 l E c0 s0  _ _
def f_X12_salted_9 (l0 : Nat) (l1 : Int32) (l2 : Int32) (y0 : Int32) (m : Mm) (o : Prop) : Int32 × Mm × Prop := if y0 = 0 then (f_X12_salted_34  m o) else (bnd (F_X12_lies (Int32.toInt64 l2) (0 : Int64) (2 : Int64) m o) (fun v1 m1 o1 => f_X12_salted_21 l0 l1 l2 v1 m1 o1))
set_option maxRecDepth 10000 in
theorem t_X12_salted_9 (l : Launch) (E : En) (c0 s0 : Nat) (l0 : Nat) (l1 : Int32) (l2 : Int32) (y0 : Int32) (m : Mm) (o : Prop) : Mh wI l E mi_X12_salted c0 s0 9 [(0, .ref l0), (1, .int l1), (2, .int l2)] [.int y0] m o (f_X12_salted_9 l0 l1 l2 y0 m o) := by
  refine Mh_if_eq (tgt := 34) dX12_salted_9 (by decide) rfl (fun _ => ?_) (fun _ => ?_)
  · refine Mh_sub (lv' := []) [] rfl ?_
    exact t_X12_salted_34 l E c0 s0  _ _
  · refine Mh_iload_n 2 rfl dX12_salted_12 ?_
    refine Mh_i2l dX12_salted_13 ?_
    refine Mh_lconst (v := 0) dX12_salted_14 (by decide) ?_
    refine Mh_ldc2 (v := 2) gl_RX12_465 dX12_salted_15 ?_
    refine Mh_csI (N := mi_X12_lies) (as := [.long (Int32.toInt64 l2), .long (0 : Int64), .long (2 : Int64)]) (st := []) cg_yX12_lies (.inl ml_RX12_188) sv_yX12_lies pd_yX12_lies rfl (by decide) (Nat.le_of_ble_eq_true rfl) rfl dX12_salted_18 (T_X12_lies l E _ _ _ _ _) rfl ?_
    exact t_X12_salted_21 l E c0 s0 _ _ _ _ _ _
def f_X12_salted_0 (l0 : Nat) (l1 : Int32) (l2 : Int32) (m : Mm) (o : Prop) : Int32 × Mm × Prop := bnd (F_X12_lies (Int32.toInt64 l1) (1 : Int64) (30 : Int64) m o) (fun v1 m1 o1 => f_X12_salted_9 l0 l1 l2 v1 m1 o1)
set_option maxRecDepth 10000 in
theorem t_X12_salted_0 (l : Launch) (E : En) (c0 s0 : Nat) (l0 : Nat) (l1 : Int32) (l2 : Int32) (m : Mm) (o : Prop) : Mh wI l E mi_X12_salted c0 s0 0 [(0, .ref l0), (1, .int l1), (2, .int l2)] [] m o (f_X12_salted_0 l0 l1 l2 m o) := by
  refine Mh_iload_n 1 rfl dX12_salted_0 ?_
  refine Mh_i2l dX12_salted_1 ?_
  refine Mh_lconst (v := 1) dX12_salted_2 (by decide) ?_
  refine Mh_ldc2 (v := 30) gl_RX12_470 dX12_salted_3 ?_
  refine Mh_csI (N := mi_X12_lies) (as := [.long (Int32.toInt64 l1), .long (1 : Int64), .long (30 : Int64)]) (st := []) cg_yX12_lies (.inl ml_RX12_188) sv_yX12_lies pd_yX12_lies rfl (by decide) (Nat.le_of_ble_eq_true rfl) rfl dX12_salted_6 (T_X12_lies l E _ _ _ _ _) rfl ?_
  exact t_X12_salted_9 l E c0 s0 _ _ _ _ _ _
def F_X12_salted (a0 : Nat) (a1 : Int32) (a2 : Int32) (m : Mm) (o : Prop) : Int32 × Mm × Prop := f_X12_salted_0 a0 a1 a2 m o
theorem T_X12_salted (l : Launch) (E : En) (a0 : Nat) (a1 : Int32) (a2 : Int32) (m : Mm) (o : Prop) : Mt wI l E yX12_salted mi_X12_salted [.ref a0, .int a1, .int a2] m o (F_X12_salted a0 a1 a2 m o) :=
  Mt_I (by decide) rfl rfl rfl (Nat.le_of_ble_eq_true rfl) rfl (.inl rfl) (t_X12_salted_0 l E _ _ _ _ _ _ _)
def f_X12_seat_23 (y0 : Int32) (m : Mm) (o : Prop) : Int32 × Mm × Prop := (y0, m, o)
set_option maxRecDepth 10000 in
theorem t_X12_seat_23 (l : Launch) (E : En) (c0 s0 : Nat) (y0 : Int32) (m : Mm) (o : Prop) : Mh wI l E mi_X12_seat c0 s0 23 [] [.int y0] m o (f_X12_seat_23 y0 m o) := by
  exact Mh_ret dX12_seat_23 rfl (fun _ => rfl) rfl
def f_X12_seat_19 (y0 : Int32) (m : Mm) (o : Prop) : Int32 × Mm × Prop := f_X12_seat_23 y0 m o
set_option maxRecDepth 10000 in
theorem t_X12_seat_19 (l : Launch) (E : En) (c0 s0 : Nat) (y0 : Int32) (m : Mm) (o : Prop) : Mh wI l E mi_X12_seat c0 s0 19 [] [.int y0] m o (f_X12_seat_19 y0 m o) := by
  refine Mh_goto (tgt := 23) dX12_seat_19 (by decide) ?_
  exact t_X12_seat_23 l E c0 s0 _ _ _
def f_X12_seat_9 (l0 : Nat) (l1 : Int32) (y0 : Int32) (m : Mm) (o : Prop) : Int32 × Mm × Prop := if y0 = 0 then (f_X12_seat_23 (-1 : Int32) m o) else (bnd (F_X12_seatOf l0 l1 (5 : Int32) (5 : Int32) m (o ∧ gT m l0 = 12)) (fun v1 m1 o1 => f_X12_seat_19 v1 m1 o1))
set_option maxRecDepth 10000 in
theorem t_X12_seat_9 (l : Launch) (E : En) (c0 s0 : Nat) (l0 : Nat) (l1 : Int32) (y0 : Int32) (m : Mm) (o : Prop) : Mh wI l E mi_X12_seat c0 s0 9 [(0, .ref l0), (1, .int l1)] [.int y0] m o (f_X12_seat_9 l0 l1 y0 m o) := by
  refine Mh_if_eq (tgt := 22) dX12_seat_9 (by decide) rfl (fun _ => ?_) (fun _ => ?_)
  · refine Mh_iconst (v := (-1)) dX12_seat_22 (by decide) ?_
    refine Mh_sub (lv' := []) [] rfl ?_
    exact t_X12_seat_23 l E c0 s0 _ _ _
  · refine Mh_aload_n 0 rfl dX12_seat_12 ?_
    refine Mh_iload_n 1 rfl dX12_seat_13 ?_
    refine Mh_iconst (v := 5) dX12_seat_14 (by decide) ?_
    refine Mh_iconst (v := 5) dX12_seat_15 (by decide) ?_
    refine Mh_cvI (N := mi_X12_seatOf) (q := l0) (ci := 11) (as := [.int l1, .int (5 : Int32), .int (5 : Int32)]) (st := []) (id) cg_yX12_seatOf (by decide) rfl rfl ml_RX12_462 iv_yX12_seatOf pd_yX12_seatOf rfl (by decide) (Nat.le_of_ble_eq_true rfl) rfl dX12_seat_16 (T_X12_seatOf l E _ _ _ _ _ _) rfl ?_
    refine Mh_sub (lv' := []) [] rfl ?_
    exact t_X12_seat_19 l E c0 s0 _ _ _
def f_X12_seat_0 (l0 : Nat) (l1 : Int32) (m : Mm) (o : Prop) : Int32 × Mm × Prop := bnd (F_X12_lies (Int32.toInt64 l1) (0 : Int64) (3 : Int64) m o) (fun v1 m1 o1 => f_X12_seat_9 l0 l1 v1 m1 o1)
set_option maxRecDepth 10000 in
theorem t_X12_seat_0 (l : Launch) (E : En) (c0 s0 : Nat) (l0 : Nat) (l1 : Int32) (m : Mm) (o : Prop) : Mh wI l E mi_X12_seat c0 s0 0 [(0, .ref l0), (1, .int l1)] [] m o (f_X12_seat_0 l0 l1 m o) := by
  refine Mh_iload_n 1 rfl dX12_seat_0 ?_
  refine Mh_i2l dX12_seat_1 ?_
  refine Mh_lconst (v := 0) dX12_seat_2 (by decide) ?_
  refine Mh_ldc2 (v := 3) gl_RX12_433 dX12_seat_3 ?_
  refine Mh_csI (N := mi_X12_lies) (as := [.long (Int32.toInt64 l1), .long (0 : Int64), .long (3 : Int64)]) (st := []) cg_yX12_lies (.inl ml_RX12_188) sv_yX12_lies pd_yX12_lies rfl (by decide) (Nat.le_of_ble_eq_true rfl) rfl dX12_seat_6 (T_X12_lies l E _ _ _ _ _) rfl ?_
  exact t_X12_seat_9 l E c0 s0 _ _ _ _ _
def F_X12_seat (a0 : Nat) (a1 : Int32) (m : Mm) (o : Prop) : Int32 × Mm × Prop := f_X12_seat_0 a0 a1 m o
theorem T_X12_seat (l : Launch) (E : En) (a0 : Nat) (a1 : Int32) (m : Mm) (o : Prop) : Mt wI l E yX12_seat mi_X12_seat [.ref a0, .int a1] m o (F_X12_seat a0 a1 m o) :=
  Mt_I (by decide) rfl rfl rfl (Nat.le_of_ble_eq_true rfl) rfl (.inl rfl) (t_X12_seat_0 l E _ _ _ _ _ _)
def f_X12_seed_19 (m : Mm) (o : Prop) : Int32 × Mm × Prop := ((1 : Int32), m, o)
set_option maxRecDepth 10000 in
theorem t_X12_seed_19 (l : Launch) (E : En) (c0 s0 : Nat) (m : Mm) (o : Prop) : Mh wI l E mi_X12_seed c0 s0 19 [] [] m o (f_X12_seed_19  m o) := by
  refine Mh_iconst (v := 1) dX12_seed_19 (by decide) ?_
  exact Mh_ret dX12_seed_20 rfl (fun _ => rk1Z) rfl
def f_X12_seed_9 (l0 : Nat) (l1 : Int32) (y0 : Int32) (m : Mm) (o : Prop) : Int32 × Mm × Prop := if y0 = 0 then ((0 : Int32), m, o) else (f_X12_seed_19  (sI m l0 5 l1) (o ∧ gT m l0 = 12))
set_option maxRecDepth 10000 in
theorem t_X12_seed_9 (l : Launch) (E : En) (c0 s0 : Nat) (l0 : Nat) (l1 : Int32) (y0 : Int32) (m : Mm) (o : Prop) : Mh wI l E mi_X12_seed c0 s0 9 [(0, .ref l0), (1, .int l1)] [.int y0] m o (f_X12_seed_9 l0 l1 y0 m o) := by
  refine Mh_if_ne (tgt := 14) dX12_seed_9 (by decide) rfl (fun _ => ?_) (fun _ => ?_)
  · refine Mh_aload_n 0 rfl dX12_seed_14 ?_
    refine Mh_iload_n 1 rfl dX12_seed_15 ?_
    refine Mh_pI fd_11_5 ft_11 rfl fl_RX12_13 rfl dX12_seed_16 ?_
    refine Mh_sub (lv' := []) [] rfl ?_
    exact t_X12_seed_19 l E c0 s0  _ _
  · refine Mh_iconst (v := 0) dX12_seed_12 (by decide) ?_
    exact Mh_ret dX12_seed_13 rfl (fun _ => rk0Z) rfl
def f_X12_seed_0 (l0 : Nat) (l1 : Int32) (m : Mm) (o : Prop) : Int32 × Mm × Prop := bnd (F_X12_lies (Int32.toInt64 l1) (0 : Int64) (65535 : Int64) m o) (fun v1 m1 o1 => f_X12_seed_9 l0 l1 v1 m1 o1)
set_option maxRecDepth 10000 in
theorem t_X12_seed_0 (l : Launch) (E : En) (c0 s0 : Nat) (l0 : Nat) (l1 : Int32) (m : Mm) (o : Prop) : Mh wI l E mi_X12_seed c0 s0 0 [(0, .ref l0), (1, .int l1)] [] m o (f_X12_seed_0 l0 l1 m o) := by
  refine Mh_iload_n 1 rfl dX12_seed_0 ?_
  refine Mh_i2l dX12_seed_1 ?_
  refine Mh_lconst (v := 0) dX12_seed_2 (by decide) ?_
  refine Mh_ldc2 (v := 65535) gl_RX12_488 dX12_seed_3 ?_
  refine Mh_csI (N := mi_X12_lies) (as := [.long (Int32.toInt64 l1), .long (0 : Int64), .long (65535 : Int64)]) (st := []) cg_yX12_lies (.inl ml_RX12_188) sv_yX12_lies pd_yX12_lies rfl (by decide) (Nat.le_of_ble_eq_true rfl) rfl dX12_seed_6 (T_X12_lies l E _ _ _ _ _) rfl ?_
  exact t_X12_seed_9 l E c0 s0 _ _ _ _ _
def F_X12_seed (a0 : Nat) (a1 : Int32) (m : Mm) (o : Prop) : Int32 × Mm × Prop := f_X12_seed_0 a0 a1 m o
theorem T_X12_seed (l : Launch) (E : En) (a0 : Nat) (a1 : Int32) (m : Mm) (o : Prop) : Mt wI l E yX12_seed mi_X12_seed [.ref a0, .int a1] m o (F_X12_seed a0 a1 m o) :=
  Mt_I (by decide) rfl rfl rfl (Nat.le_of_ble_eq_true rfl) rfl (.inr (.inl rfl)) (t_X12_seed_0 l E _ _ _ _ _ _)
def f_X12_ordersOf_4b (k4 : Int32 → Int64 → Int32 → Mm → Prop → Int64 × Mm × Prop) (l0 : Int32) (l1 : Int64) (l3 : Int32) (m : Mm) (o : Prop) : Int64 × Mm × Prop := if l0 < l3 then (l1, m, o) else (k4 l0 (l1 * (Int32.toInt64 l3)) (l3 + 1) m o)
set_option maxRecDepth 10000 in
theorem t_X12_ordersOf_4b (l : Launch) (E : En) (c0 s0 : Nat) (k4 : Int32 → Int64 → Int32 → Mm → Prop → Int64 × Mm × Prop) (hk4 : ∀ (l0 : Int32) (l1 : Int64) (l3 : Int32) (m : Mm) (o : Prop), Mh wJ l E mi_X12_ordersOf c0 s0 4 [(0, .int l0), (1, .long l1), (3, .int l3)] [] m o (k4 l0 l1 l3 m o)) (l0 : Int32) (l1 : Int64) (l3 : Int32) (m : Mm) (o : Prop) : Mh wJ l E mi_X12_ordersOf c0 s0 4 [(0, .int l0), (1, .long l1), (3, .int l3)] [] m o (f_X12_ordersOf_4b k4 l0 l1 l3 m o) := by
  refine Mh_iload_n 2 rfl dX12_ordersOf_4 ?_
  refine Mh_iload_n 0 rfl dX12_ordersOf_5 ?_
  refine Mh_icmp_gt (tgt := 20) dX12_ordersOf_6 (by decide) rfl (fun _ => ?_) (fun _ => ?_)
  · refine Mh_lload_n 1 rfl dX12_ordersOf_20 ?_
    exact Mh_ret dX12_ordersOf_21 rfl (fun _ => rfl) rfl
  · refine Mh_lload_n 1 rfl dX12_ordersOf_9 ?_
    refine Mh_iload_n 2 rfl dX12_ordersOf_10 ?_
    refine Mh_i2l dX12_ordersOf_11 ?_
    refine Mh_lmul dX12_ordersOf_12 ?_
    refine Mh_lstore_n (lv' := [(1, .long (l1 * (Int32.toInt64 l3))), (0, .int l0), (3, .int l3)]) dX12_ordersOf_13 (Nat.le_of_ble_eq_true rfl) rfl ?_
    refine Mh_iinc (v := l3 + 1) (lv' := [(3, .int (l3 + 1)), (1, .long (l1 * (Int32.toInt64 l3))), (0, .int l0)]) 2 dX12_ordersOf_14 rfl rfl (Nat.le_of_ble_eq_true rfl) rfl ?_
    refine Mh_goto (tgt := 4) dX12_ordersOf_17 (by decide) ?_
    refine Mh_sub (lv' := [(0, .int l0), (1, .long (l1 * (Int32.toInt64 l3))), (3, .int (l3 + 1))]) [2, 1, 0] rfl ?_
    exact hk4 _ _ _ _ _
def f_X12_ordersOf_4 : Nat → Int32 → Int64 → Int32 → Mm → Prop → Int64 × Mm × Prop
  | 0, _, _, _, m, _ => (0, m, False)
  | n + 1, l0, l1, l3, m, o => f_X12_ordersOf_4b (f_X12_ordersOf_4 n) l0 l1 l3 m o
theorem t_X12_ordersOf_4 (l : Launch) (E : En) (c0 s0 : Nat) : ∀ (n : Nat) (l0 : Int32) (l1 : Int64) (l3 : Int32) (m : Mm) (o : Prop), Mh wJ l E mi_X12_ordersOf c0 s0 4 [(0, .int l0), (1, .long l1), (3, .int l3)] [] m o (f_X12_ordersOf_4 n l0 l1 l3 m o)
  | 0, _, _, _, _, _ => Mh_out rfl
  | n + 1, l0, l1, l3, m, o => t_X12_ordersOf_4b l E c0 s0 (f_X12_ordersOf_4 n) (t_X12_ordersOf_4 l E c0 s0 n) l0 l1 l3 m o
def f_X12_ordersOf_0 (l0 : Int32) (m : Mm) (o : Prop) : Int64 × Mm × Prop := f_X12_ordersOf_4 1000 l0 (1 : Int64) (2 : Int32) m o
set_option maxRecDepth 10000 in
theorem t_X12_ordersOf_0 (l : Launch) (E : En) (c0 s0 : Nat) (l0 : Int32) (m : Mm) (o : Prop) : Mh wJ l E mi_X12_ordersOf c0 s0 0 [(0, .int l0)] [] m o (f_X12_ordersOf_0 l0 m o) := by
  refine Mh_lconst (v := 1) dX12_ordersOf_0 (by decide) ?_
  refine Mh_lstore_n (lv' := [(1, .long (1 : Int64)), (0, .int l0)]) dX12_ordersOf_1 (Nat.le_of_ble_eq_true rfl) rfl ?_
  refine Mh_iconst (v := 2) dX12_ordersOf_2 (by decide) ?_
  refine Mh_istore_n (lv' := [(3, .int (2 : Int32)), (1, .long (1 : Int64)), (0, .int l0)]) dX12_ordersOf_3 (Nat.le_of_ble_eq_true rfl) rfl ?_
  refine Mh_sub (lv' := [(0, .int l0), (1, .long (1 : Int64)), (3, .int (2 : Int32))]) [2, 1, 0] rfl ?_
  exact t_X12_ordersOf_4 l E c0 s0 _ _ _ _ _ _
def F_X12_ordersOf (a0 : Int32) (m : Mm) (o : Prop) : Int64 × Mm × Prop := f_X12_ordersOf_0 a0 m o
theorem T_X12_ordersOf (l : Launch) (E : En) (a0 : Int32) (m : Mm) (o : Prop) : Mt wJ l E yX12_ordersOf mi_X12_ordersOf [.int a0] m o (F_X12_ordersOf a0 m o) :=
  Mt_J (by decide) rfl rfl rfl (Nat.le_of_ble_eq_true rfl) rfl (t_X12_ordersOf_0 l E _ _ _ _ _)
def f_X12_sizeOf_4b (k4 : Int32 → Int32 → Mm → Prop → Int32 × Mm × Prop) (l1 : Int32) (l2 : Int32) (m : Mm) (o : Prop) : Int32 × Mm × Prop := if l2 = 0 then (l1, m, o) else (k4 (l1 + 1) (l2 &&& (l2 - (1 : Int32))) m o)
set_option maxRecDepth 10000 in
theorem t_X12_sizeOf_4b (l : Launch) (E : En) (c0 s0 : Nat) (k4 : Int32 → Int32 → Mm → Prop → Int32 × Mm × Prop) (hk4 : ∀ (l1 : Int32) (l2 : Int32) (m : Mm) (o : Prop), Mh wI l E mi_X12_sizeOf c0 s0 4 [(1, .int l1), (2, .int l2)] [] m o (k4 l1 l2 m o)) (l1 : Int32) (l2 : Int32) (m : Mm) (o : Prop) : Mh wI l E mi_X12_sizeOf c0 s0 4 [(1, .int l1), (2, .int l2)] [] m o (f_X12_sizeOf_4b k4 l1 l2 m o) := by
  refine Mh_iload_n 1 rfl dX12_sizeOf_4 ?_
  refine Mh_if_eq (tgt := 20) dX12_sizeOf_5 (by decide) rfl (fun _ => ?_) (fun _ => ?_)
  · refine Mh_iload_n 0 rfl dX12_sizeOf_20 ?_
    exact Mh_ret dX12_sizeOf_21 rfl (fun _ => rfl) rfl
  · refine Mh_iinc (v := l1 + 1) (lv' := [(1, .int (l1 + 1)), (2, .int l2)]) 0 dX12_sizeOf_8 rfl rfl (Nat.le_of_ble_eq_true rfl) rfl ?_
    refine Mh_iload_n 1 rfl dX12_sizeOf_11 ?_
    refine Mh_iload_n 1 rfl dX12_sizeOf_12 ?_
    refine Mh_iconst (v := 1) dX12_sizeOf_13 (by decide) ?_
    refine Mh_isub dX12_sizeOf_14 ?_
    refine Mh_iand dX12_sizeOf_15 ?_
    refine Mh_istore_n (lv' := [(2, .int (l2 &&& (l2 - (1 : Int32)))), (1, .int (l1 + 1))]) dX12_sizeOf_16 (Nat.le_of_ble_eq_true rfl) rfl ?_
    refine Mh_goto (tgt := 4) dX12_sizeOf_17 (by decide) ?_
    refine Mh_sub (lv' := [(1, .int (l1 + 1)), (2, .int (l2 &&& (l2 - (1 : Int32))))]) [1, 0] rfl ?_
    exact hk4 _ _ _ _
def f_X12_sizeOf_4 : Nat → Int32 → Int32 → Mm → Prop → Int32 × Mm × Prop
  | 0, _, _, m, _ => (0, m, False)
  | n + 1, l1, l2, m, o => f_X12_sizeOf_4b (f_X12_sizeOf_4 n) l1 l2 m o
theorem t_X12_sizeOf_4 (l : Launch) (E : En) (c0 s0 : Nat) : ∀ (n : Nat) (l1 : Int32) (l2 : Int32) (m : Mm) (o : Prop), Mh wI l E mi_X12_sizeOf c0 s0 4 [(1, .int l1), (2, .int l2)] [] m o (f_X12_sizeOf_4 n l1 l2 m o)
  | 0, _, _, _, _ => Mh_out rfl
  | n + 1, l1, l2, m, o => t_X12_sizeOf_4b l E c0 s0 (f_X12_sizeOf_4 n) (t_X12_sizeOf_4 l E c0 s0 n) l1 l2 m o
def f_X12_sizeOf_0 (l0 : Int32) (m : Mm) (o : Prop) : Int32 × Mm × Prop := f_X12_sizeOf_4 1000 (0 : Int32) l0 m o
set_option maxRecDepth 10000 in
theorem t_X12_sizeOf_0 (l : Launch) (E : En) (c0 s0 : Nat) (l0 : Int32) (m : Mm) (o : Prop) : Mh wI l E mi_X12_sizeOf c0 s0 0 [(0, .int l0)] [] m o (f_X12_sizeOf_0 l0 m o) := by
  refine Mh_iconst (v := 0) dX12_sizeOf_0 (by decide) ?_
  refine Mh_istore_n (lv' := [(1, .int (0 : Int32)), (0, .int l0)]) dX12_sizeOf_1 (Nat.le_of_ble_eq_true rfl) rfl ?_
  refine Mh_iload_n 1 rfl dX12_sizeOf_2 ?_
  refine Mh_istore_n (lv' := [(2, .int l0), (1, .int (0 : Int32)), (0, .int l0)]) dX12_sizeOf_3 (Nat.le_of_ble_eq_true rfl) rfl ?_
  refine Mh_sub (lv' := [(1, .int (0 : Int32)), (2, .int l0)]) [1, 0] rfl ?_
  exact t_X12_sizeOf_4 l E c0 s0 _ _ _ _ _
def F_X12_sizeOf (a0 : Int32) (m : Mm) (o : Prop) : Int32 × Mm × Prop := f_X12_sizeOf_0 a0 m o
theorem T_X12_sizeOf (l : Launch) (E : En) (a0 : Int32) (m : Mm) (o : Prop) : Mt wI l E yX12_sizeOf mi_X12_sizeOf [.int a0] m o (F_X12_sizeOf a0 m o) :=
  Mt_I (by decide) rfl rfl rfl (Nat.le_of_ble_eq_true rfl) rfl (.inl rfl) (t_X12_sizeOf_0 l E _ _ _ _ _)
def f_X12_share_18 (m : Mm) (o : Prop) : Int64 × Mm × Prop := ((-1 : Int64), m, o)
set_option maxRecDepth 10000 in
theorem t_X12_share_18 (l : Launch) (E : En) (c0 s0 : Nat) (m : Mm) (o : Prop) : Mh wJ l E mi_X12_share c0 s0 18 [] [] m o (f_X12_share_18  m o) := by
  refine Mh_ldc2 (v := (-1)) gl_RX12_431 dX12_share_18 ?_
  exact Mh_ret dX12_share_21 rfl (fun _ => rfl) rfl
def f_X12_share_79 (k31 : Nat → Int32 → Int32 → Int64 → Int32 → Mm → Prop → Int64 × Mm × Prop) (l0 : Nat) (l1 : Int32) (l2 : Int32) (l3 : Int64) (l5 : Int32) (m : Mm) (o : Prop) : Int64 × Mm × Prop := k31 l0 l1 l2 l3 (l5 + 1) m o
set_option maxRecDepth 10000 in
theorem t_X12_share_79 (l : Launch) (E : En) (c0 s0 : Nat) (k31 : Nat → Int32 → Int32 → Int64 → Int32 → Mm → Prop → Int64 × Mm × Prop) (hk31 : ∀ (l0 : Nat) (l1 : Int32) (l2 : Int32) (l3 : Int64) (l5 : Int32) (m : Mm) (o : Prop), Mh wJ l E mi_X12_share c0 s0 31 [(0, .ref l0), (1, .int l1), (2, .int l2), (3, .long l3), (5, .int l5)] [] m o (k31 l0 l1 l2 l3 l5 m o)) (l0 : Nat) (l1 : Int32) (l2 : Int32) (l3 : Int64) (l5 : Int32) (m : Mm) (o : Prop) : Mh wJ l E mi_X12_share c0 s0 79 [(0, .ref l0), (1, .int l1), (2, .int l2), (3, .long l3), (5, .int l5)] [] m o (f_X12_share_79 k31 l0 l1 l2 l3 l5 m o) := by
  refine Mh_iinc (v := l5 + 1) (lv' := [(5, .int (l5 + 1)), (0, .ref l0), (1, .int l1), (2, .int l2), (3, .long l3)]) 4 dX12_share_79 rfl rfl (Nat.le_of_ble_eq_true rfl) rfl ?_
  refine Mh_goto (tgt := 31) dX12_share_82 (by decide) ?_
  refine Mh_sub (lv' := [(0, .ref l0), (1, .int l1), (2, .int l2), (3, .long l3), (5, .int (l5 + 1))]) [1, 2, 3, 4, 0] rfl ?_
  exact hk31 _ _ _ _ _ _ _
def f_X12_share_76 (k31 : Nat → Int32 → Int32 → Int64 → Int32 → Mm → Prop → Int64 × Mm × Prop) (l0 : Nat) (l1 : Int32) (l2 : Int32) (l5 : Int32) (y2 : Int64) (y1 : Int64) (y0 : Int64) (m : Mm) (o : Prop) : Int64 × Mm × Prop := f_X12_share_79 k31 l0 l1 l2 (y0 + (y1 * y2)) l5 m o
set_option maxRecDepth 10000 in
theorem t_X12_share_76 (l : Launch) (E : En) (c0 s0 : Nat) (k31 : Nat → Int32 → Int32 → Int64 → Int32 → Mm → Prop → Int64 × Mm × Prop) (hk31 : ∀ (l0 : Nat) (l1 : Int32) (l2 : Int32) (l3 : Int64) (l5 : Int32) (m : Mm) (o : Prop), Mh wJ l E mi_X12_share c0 s0 31 [(0, .ref l0), (1, .int l1), (2, .int l2), (3, .long l3), (5, .int l5)] [] m o (k31 l0 l1 l2 l3 l5 m o)) (l0 : Nat) (l1 : Int32) (l2 : Int32) (l5 : Int32) (y2 : Int64) (y1 : Int64) (y0 : Int64) (m : Mm) (o : Prop) : Mh wJ l E mi_X12_share c0 s0 76 [(0, .ref l0), (1, .int l1), (2, .int l2), (5, .int l5)] [.long y2, .long y1, .long y0] m o (f_X12_share_76 k31 l0 l1 l2 l5 y2 y1 y0 m o) := by
  refine Mh_lmul dX12_share_76 ?_
  refine Mh_ladd dX12_share_77 ?_
  refine Mh_lstore_n (lv' := [(3, .long (y0 + (y1 * y2))), (0, .ref l0), (1, .int l1), (2, .int l2), (5, .int l5)]) dX12_share_78 (Nat.le_of_ble_eq_true rfl) rfl ?_
  refine Mh_sub (lv' := [(0, .ref l0), (1, .int l1), (2, .int l2), (3, .long (y0 + (y1 * y2))), (5, .int l5)]) [1, 2, 3, 0, 4] rfl ?_
  exact t_X12_share_79 l E c0 s0 k31 hk31 _ _ _ _ _ _ _
def f_X12_share_72 (k31 : Nat → Int32 → Int32 → Int64 → Int32 → Mm → Prop → Int64 × Mm × Prop) (l0 : Nat) (l1 : Int32) (l2 : Int32) (l5 : Int32) (y3 : Int32) (y2 : Int32) (y1 : Int64) (y0 : Int64) (m : Mm) (o : Prop) : Int64 × Mm × Prop := bnd (F_X12_ordersOf (y2 - y3) m o) (fun v1 m1 o1 => f_X12_share_76 k31 l0 l1 l2 l5 v1 y1 y0 m1 o1)
set_option maxRecDepth 10000 in
theorem t_X12_share_72 (l : Launch) (E : En) (c0 s0 : Nat) (k31 : Nat → Int32 → Int32 → Int64 → Int32 → Mm → Prop → Int64 × Mm × Prop) (hk31 : ∀ (l0 : Nat) (l1 : Int32) (l2 : Int32) (l3 : Int64) (l5 : Int32) (m : Mm) (o : Prop), Mh wJ l E mi_X12_share c0 s0 31 [(0, .ref l0), (1, .int l1), (2, .int l2), (3, .long l3), (5, .int l5)] [] m o (k31 l0 l1 l2 l3 l5 m o)) (l0 : Nat) (l1 : Int32) (l2 : Int32) (l5 : Int32) (y3 : Int32) (y2 : Int32) (y1 : Int64) (y0 : Int64) (m : Mm) (o : Prop) : Mh wJ l E mi_X12_share c0 s0 72 [(0, .ref l0), (1, .int l1), (2, .int l2), (5, .int l5)] [.int y3, .int y2, .long y1, .long y0] m o (f_X12_share_72 k31 l0 l1 l2 l5 y3 y2 y1 y0 m o) := by
  refine Mh_isub dX12_share_72 ?_
  refine Mh_csJ (N := mi_X12_ordersOf) (as := [.int (y2 - y3)]) (st := [.long y1, .long y0]) cg_yX12_ordersOf (.inl ml_RX12_454) sv_yX12_ordersOf pd_yX12_ordersOf rfl (by decide) (Nat.le_of_ble_eq_true rfl) rfl dX12_share_73 (T_X12_ordersOf l E _ _ _) rfl ?_
  exact t_X12_share_76 l E c0 s0 k31 hk31 _ _ _ _ _ _ _ _ _
def f_X12_share_61 (k31 : Nat → Int32 → Int32 → Int64 → Int32 → Mm → Prop → Int64 × Mm × Prop) (l0 : Nat) (l1 : Int32) (l2 : Int32) (l5 : Int32) (y1 : Int64) (y0 : Int64) (m : Mm) (o : Prop) : Int64 × Mm × Prop := bnd (F_X12_sizeOf l5 m (o ∧ gT m l0 = 12)) (fun v1 m1 o1 => f_X12_share_72 k31 l0 l1 l2 l5 v1 ((gI m l0 3) - (1 : Int32)) y1 y0 m1 o1)
set_option maxRecDepth 10000 in
theorem t_X12_share_61 (l : Launch) (E : En) (c0 s0 : Nat) (k31 : Nat → Int32 → Int32 → Int64 → Int32 → Mm → Prop → Int64 × Mm × Prop) (hk31 : ∀ (l0 : Nat) (l1 : Int32) (l2 : Int32) (l3 : Int64) (l5 : Int32) (m : Mm) (o : Prop), Mh wJ l E mi_X12_share c0 s0 31 [(0, .ref l0), (1, .int l1), (2, .int l2), (3, .long l3), (5, .int l5)] [] m o (k31 l0 l1 l2 l3 l5 m o)) (l0 : Nat) (l1 : Int32) (l2 : Int32) (l5 : Int32) (y1 : Int64) (y0 : Int64) (m : Mm) (o : Prop) : Mh wJ l E mi_X12_share c0 s0 61 [(0, .ref l0), (1, .int l1), (2, .int l2), (5, .int l5)] [.long y1, .long y0] m o (f_X12_share_61 k31 l0 l1 l2 l5 y1 y0 m o) := by
  refine Mh_aload_n 0 rfl dX12_share_61 ?_
  refine Mh_gI fd_11_3 fl_RX12_199 dX12_share_62 ?_
  refine Mh_iconst (v := 1) dX12_share_65 (by decide) ?_
  refine Mh_isub dX12_share_66 ?_
  refine Mh_iload 3 rfl dX12_share_67 ?_
  refine Mh_csI (N := mi_X12_sizeOf) (as := [.int l5]) (st := [.int ((gI m l0 3) - (1 : Int32)), .long y1, .long y0]) cg_yX12_sizeOf (.inl ml_RX12_451) sv_yX12_sizeOf pd_yX12_sizeOf rfl (by decide) (Nat.le_of_ble_eq_true rfl) rfl dX12_share_69 (T_X12_sizeOf l E _ _ _) rfl ?_
  exact t_X12_share_72 l E c0 s0 k31 hk31 _ _ _ _ _ _ _ _ _ _
def f_X12_share_58 (k31 : Nat → Int32 → Int32 → Int64 → Int32 → Mm → Prop → Int64 × Mm × Prop) (l0 : Nat) (l1 : Int32) (l2 : Int32) (l5 : Int32) (y1 : Int32) (y0 : Int64) (m : Mm) (o : Prop) : Int64 × Mm × Prop := bnd (F_X12_ordersOf y1 m o) (fun v1 m1 o1 => f_X12_share_61 k31 l0 l1 l2 l5 v1 y0 m1 o1)
set_option maxRecDepth 10000 in
theorem t_X12_share_58 (l : Launch) (E : En) (c0 s0 : Nat) (k31 : Nat → Int32 → Int32 → Int64 → Int32 → Mm → Prop → Int64 × Mm × Prop) (hk31 : ∀ (l0 : Nat) (l1 : Int32) (l2 : Int32) (l3 : Int64) (l5 : Int32) (m : Mm) (o : Prop), Mh wJ l E mi_X12_share c0 s0 31 [(0, .ref l0), (1, .int l1), (2, .int l2), (3, .long l3), (5, .int l5)] [] m o (k31 l0 l1 l2 l3 l5 m o)) (l0 : Nat) (l1 : Int32) (l2 : Int32) (l5 : Int32) (y1 : Int32) (y0 : Int64) (m : Mm) (o : Prop) : Mh wJ l E mi_X12_share c0 s0 58 [(0, .ref l0), (1, .int l1), (2, .int l2), (5, .int l5)] [.int y1, .long y0] m o (f_X12_share_58 k31 l0 l1 l2 l5 y1 y0 m o) := by
  refine Mh_csJ (N := mi_X12_ordersOf) (as := [.int y1]) (st := [.long y0]) cg_yX12_ordersOf (.inl ml_RX12_454) sv_yX12_ordersOf pd_yX12_ordersOf rfl (by decide) (Nat.le_of_ble_eq_true rfl) rfl dX12_share_58 (T_X12_ordersOf l E _ _ _) rfl ?_
  exact t_X12_share_61 l E c0 s0 k31 hk31 _ _ _ _ _ _ _ _
def f_X12_share_49 (k31 : Nat → Int32 → Int32 → Int64 → Int32 → Mm → Prop → Int64 × Mm × Prop) (l0 : Nat) (l1 : Int32) (l2 : Int32) (l3 : Int64) (l5 : Int32) (y0 : Int32) (m : Mm) (o : Prop) : Int64 × Mm × Prop := if y0 = 0 then (f_X12_share_79 k31 l0 l1 l2 l3 l5 m o) else (bnd (F_X12_sizeOf l5 m o) (fun v1 m1 o1 => f_X12_share_58 k31 l0 l1 l2 l5 v1 l3 m1 o1))
set_option maxRecDepth 10000 in
theorem t_X12_share_49 (l : Launch) (E : En) (c0 s0 : Nat) (k31 : Nat → Int32 → Int32 → Int64 → Int32 → Mm → Prop → Int64 × Mm × Prop) (hk31 : ∀ (l0 : Nat) (l1 : Int32) (l2 : Int32) (l3 : Int64) (l5 : Int32) (m : Mm) (o : Prop), Mh wJ l E mi_X12_share c0 s0 31 [(0, .ref l0), (1, .int l1), (2, .int l2), (3, .long l3), (5, .int l5)] [] m o (k31 l0 l1 l2 l3 l5 m o)) (l0 : Nat) (l1 : Int32) (l2 : Int32) (l3 : Int64) (l5 : Int32) (y0 : Int32) (m : Mm) (o : Prop) : Mh wJ l E mi_X12_share c0 s0 49 [(0, .ref l0), (1, .int l1), (2, .int l2), (3, .long l3), (5, .int l5)] [.int y0] m o (f_X12_share_49 k31 l0 l1 l2 l3 l5 y0 m o) := by
  refine Mh_if_eq (tgt := 79) dX12_share_49 (by decide) rfl (fun _ => ?_) (fun _ => ?_)
  · exact t_X12_share_79 l E c0 s0 k31 hk31 _ _ _ _ _ _ _
  · refine Mh_lload_n 3 rfl dX12_share_52 ?_
    refine Mh_iload 4 rfl dX12_share_53 ?_
    refine Mh_csI (N := mi_X12_sizeOf) (as := [.int l5]) (st := [.long l3]) cg_yX12_sizeOf (.inl ml_RX12_451) sv_yX12_sizeOf pd_yX12_sizeOf rfl (by decide) (Nat.le_of_ble_eq_true rfl) rfl dX12_share_55 (T_X12_sizeOf l E _ _ _) rfl ?_
    refine Mh_sub (lv' := [(0, .ref l0), (1, .int l1), (2, .int l2), (5, .int l5)]) [0, 1, 2, 4] rfl ?_
    exact t_X12_share_58 l E c0 s0 k31 hk31 _ _ _ _ _ _ _ _
def f_X12_share_118 (y0 : Int64) (m : Mm) (o : Prop) : Int64 × Mm × Prop := (y0, m, o)
set_option maxRecDepth 10000 in
theorem t_X12_share_118 (l : Launch) (E : En) (c0 s0 : Nat) (y0 : Int64) (m : Mm) (o : Prop) : Mh wJ l E mi_X12_share c0 s0 118 [] [.long y0] m o (f_X12_share_118 y0 m o) := by
  exact Mh_ret dX12_share_118 rfl (fun _ => rfl) rfl
def f_X12_share_100 (l2 : Int32) (l3 : Int64) (l5 : Int64) (y0 : Int64) (m : Mm) (o : Prop) : Int64 × Mm × Prop := if l2 = 0 then (f_X12_share_118 (l3 / y0) m (o ∧ ¬ y0 = 0)) else (f_X12_share_118 (l5 / y0) m (o ∧ ¬ y0 = 0))
set_option maxRecDepth 10000 in
theorem t_X12_share_100 (l : Launch) (E : En) (c0 s0 : Nat) (l2 : Int32) (l3 : Int64) (l5 : Int64) (y0 : Int64) (m : Mm) (o : Prop) : Mh wJ l E mi_X12_share c0 s0 100 [(2, .int l2), (3, .long l3), (5, .long l5)] [.long y0] m o (f_X12_share_100 l2 l3 l5 y0 m o) := by
  refine Mh_lstore (lv' := [(7, .long y0), (2, .int l2), (3, .long l3), (5, .long l5)]) dX12_share_100 (Nat.le_of_ble_eq_true rfl) rfl ?_
  refine Mh_iload_n 1 rfl dX12_share_102 ?_
  refine Mh_if_ne (tgt := 113) dX12_share_103 (by decide) rfl (fun _ => ?_) (fun _ => ?_)
  · refine Mh_lload 3 rfl dX12_share_113 ?_
    refine Mh_lload 0 rfl dX12_share_115 ?_
    refine Mh_ldiv dX12_share_117 ?_
    refine Mh_sub (lv' := []) [] rfl ?_
    exact t_X12_share_118 l E c0 s0 _ _ _
  · refine Mh_lload_n 2 rfl dX12_share_106 ?_
    refine Mh_lload 0 rfl dX12_share_107 ?_
    refine Mh_ldiv dX12_share_109 ?_
    refine Mh_goto (tgt := 118) dX12_share_110 (by decide) ?_
    refine Mh_sub (lv' := []) [] rfl ?_
    exact t_X12_share_118 l E c0 s0 _ _ _
def f_X12_share_92 (l2 : Int32) (l3 : Int64) (y0 : Int64) (m : Mm) (o : Prop) : Int64 × Mm × Prop := bnd (F_X12_divisor l3 y0 m o) (fun v1 m1 o1 => f_X12_share_100 l2 l3 y0 v1 m1 o1)
set_option maxRecDepth 10000 in
theorem t_X12_share_92 (l : Launch) (E : En) (c0 s0 : Nat) (l2 : Int32) (l3 : Int64) (y0 : Int64) (m : Mm) (o : Prop) : Mh wJ l E mi_X12_share c0 s0 92 [(2, .int l2), (3, .long l3)] [.long y0] m o (f_X12_share_92 l2 l3 y0 m o) := by
  refine Mh_lstore (lv' := [(5, .long y0), (2, .int l2), (3, .long l3)]) dX12_share_92 (Nat.le_of_ble_eq_true rfl) rfl ?_
  refine Mh_lload_n 2 rfl dX12_share_94 ?_
  refine Mh_lload 0 rfl dX12_share_95 ?_
  refine Mh_csJ (N := mi_X12_divisor) (as := [.long l3, .long y0]) (st := []) cg_yX12_divisor (.inl ml_RX12_458) sv_yX12_divisor pd_yX12_divisor rfl (by decide) (Nat.le_of_ble_eq_true rfl) rfl dX12_share_97 (T_X12_divisor l E _ _ _ _) rfl ?_
  refine Mh_sub (lv' := [(2, .int l2), (3, .long l3), (5, .long y0)]) [1, 2, 0] rfl ?_
  exact t_X12_share_100 l E c0 s0 _ _ _ _ _ _
def f_X12_share_31b (k31 : Nat → Int32 → Int32 → Int64 → Int32 → Mm → Prop → Int64 × Mm × Prop) (l0 : Nat) (l1 : Int32) (l2 : Int32) (l3 : Int64) (l5 : Int32) (m : Mm) (o : Prop) : Int64 × Mm × Prop := if ((1 : Int32) <<< ((gI m l0 3) &&& 31)) ≤ l5 then (bnd (F_X12_ordersOf (gI m l0 3) m (o ∧ gT m l0 = 12)) (fun v1 m1 o1 => f_X12_share_92 l2 l3 v1 m1 o1)) else (bnd (F_X12_isSwing l0 l5 l1 m (o ∧ gT m l0 = 12)) (fun v1 m1 o1 => f_X12_share_49 k31 l0 l1 l2 l3 l5 v1 m1 o1))
set_option maxRecDepth 10000 in
theorem t_X12_share_31b (l : Launch) (E : En) (c0 s0 : Nat) (k31 : Nat → Int32 → Int32 → Int64 → Int32 → Mm → Prop → Int64 × Mm × Prop) (hk31 : ∀ (l0 : Nat) (l1 : Int32) (l2 : Int32) (l3 : Int64) (l5 : Int32) (m : Mm) (o : Prop), Mh wJ l E mi_X12_share c0 s0 31 [(0, .ref l0), (1, .int l1), (2, .int l2), (3, .long l3), (5, .int l5)] [] m o (k31 l0 l1 l2 l3 l5 m o)) (l0 : Nat) (l1 : Int32) (l2 : Int32) (l3 : Int64) (l5 : Int32) (m : Mm) (o : Prop) : Mh wJ l E mi_X12_share c0 s0 31 [(0, .ref l0), (1, .int l1), (2, .int l2), (3, .long l3), (5, .int l5)] [] m o (f_X12_share_31b k31 l0 l1 l2 l3 l5 m o) := by
  refine Mh_iload 4 rfl dX12_share_31 ?_
  refine Mh_iconst (v := 1) dX12_share_33 (by decide) ?_
  refine Mh_aload_n 0 rfl dX12_share_34 ?_
  refine Mh_gI fd_11_3 fl_RX12_199 dX12_share_35 ?_
  refine Mh_ishl dX12_share_38 ?_
  refine Mh_icmp_ge (tgt := 85) dX12_share_39 (by decide) rfl (fun _ => ?_) (fun _ => ?_)
  · refine Mh_aload_n 0 rfl dX12_share_85 ?_
    refine Mh_gI fd_11_3 fl_RX12_199 dX12_share_86 ?_
    refine Mh_ok (fun h => h.2) ?_
    refine Mh_csJ (N := mi_X12_ordersOf) (as := [.int (gI m l0 3)]) (st := []) cg_yX12_ordersOf (.inl ml_RX12_454) sv_yX12_ordersOf pd_yX12_ordersOf rfl (by decide) (Nat.le_of_ble_eq_true rfl) rfl dX12_share_89 (T_X12_ordersOf l E _ _ _) rfl ?_
    refine Mh_sub (lv' := [(2, .int l2), (3, .long l3)]) [2, 3] rfl ?_
    exact t_X12_share_92 l E c0 s0 _ _ _ _ _
  · refine Mh_aload_n 0 rfl dX12_share_42 ?_
    refine Mh_iload 4 rfl dX12_share_43 ?_
    refine Mh_iload_n 1 rfl dX12_share_45 ?_
    refine Mh_cvI (N := mi_X12_isSwing) (q := l0) (ci := 11) (as := [.int l5, .int l1]) (st := []) (fun h => ⟨h, (fun h => h.2) h⟩) cg_yX12_isSwing (by decide) rfl rfl ml_RX12_448 iv_yX12_isSwing pd_yX12_isSwing rfl (by decide) (Nat.le_of_ble_eq_true rfl) rfl dX12_share_46 (T_X12_isSwing l E _ _ _ _ _) rfl ?_
    exact t_X12_share_49 l E c0 s0 k31 hk31 _ _ _ _ _ _ _ _
def f_X12_share_31 : Nat → Nat → Int32 → Int32 → Int64 → Int32 → Mm → Prop → Int64 × Mm × Prop
  | 0, _, _, _, _, _, m, _ => (0, m, False)
  | n + 1, l0, l1, l2, l3, l5, m, o => f_X12_share_31b (f_X12_share_31 n) l0 l1 l2 l3 l5 m o
theorem t_X12_share_31 (l : Launch) (E : En) (c0 s0 : Nat) : ∀ (n : Nat) (l0 : Nat) (l1 : Int32) (l2 : Int32) (l3 : Int64) (l5 : Int32) (m : Mm) (o : Prop), Mh wJ l E mi_X12_share c0 s0 31 [(0, .ref l0), (1, .int l1), (2, .int l2), (3, .long l3), (5, .int l5)] [] m o (f_X12_share_31 n l0 l1 l2 l3 l5 m o)
  | 0, _, _, _, _, _, _, _ => Mh_out rfl
  | n + 1, l0, l1, l2, l3, l5, m, o => t_X12_share_31b l E c0 s0 (f_X12_share_31 n) (t_X12_share_31 l E c0 s0 n) l0 l1 l2 l3 l5 m o
def f_X12_share_26 (l0 : Nat) (l1 : Int32) (l2 : Int32) (m : Mm) (o : Prop) : Int64 × Mm × Prop := f_X12_share_31 70000 l0 l1 l2 (0 : Int64) (0 : Int32) m o
set_option maxRecDepth 10000 in
theorem t_X12_share_26 (l : Launch) (E : En) (c0 s0 : Nat) (l0 : Nat) (l1 : Int32) (l2 : Int32) (m : Mm) (o : Prop) : Mh wJ l E mi_X12_share c0 s0 26 [(0, .ref l0), (1, .int l1), (2, .int l2)] [] m o (f_X12_share_26 l0 l1 l2 m o) := by
  refine Mh_lconst (v := 0) dX12_share_26 (by decide) ?_
  refine Mh_lstore_n (lv' := [(3, .long (0 : Int64)), (0, .ref l0), (1, .int l1), (2, .int l2)]) dX12_share_27 (Nat.le_of_ble_eq_true rfl) rfl ?_
  refine Mh_iconst (v := 0) dX12_share_28 (by decide) ?_
  refine Mh_istore (lv' := [(5, .int (0 : Int32)), (3, .long (0 : Int64)), (0, .ref l0), (1, .int l1), (2, .int l2)]) dX12_share_29 (Nat.le_of_ble_eq_true rfl) rfl ?_
  refine Mh_sub (lv' := [(0, .ref l0), (1, .int l1), (2, .int l2), (3, .long (0 : Int64)), (5, .int (0 : Int32))]) [2, 3, 4, 1, 0] rfl ?_
  exact t_X12_share_31 l E c0 s0 _ _ _ _ _ _ _ _
def f_X12_share_15 (l0 : Nat) (l1 : Int32) (l2 : Int32) (y0 : Int32) (m : Mm) (o : Prop) : Int64 × Mm × Prop := if y0 = 0 then (f_X12_share_18  m o) else (bnd (F_X12_laysVotes l0 m (o ∧ gT m l0 = 12)) (fun _ m1 o1 => f_X12_share_26 l0 l1 l2 m1 o1))
set_option maxRecDepth 10000 in
theorem t_X12_share_15 (l : Launch) (E : En) (c0 s0 : Nat) (l0 : Nat) (l1 : Int32) (l2 : Int32) (y0 : Int32) (m : Mm) (o : Prop) : Mh wJ l E mi_X12_share c0 s0 15 [(0, .ref l0), (1, .int l1), (2, .int l2)] [.int y0] m o (f_X12_share_15 l0 l1 l2 y0 m o) := by
  refine Mh_if_ne (tgt := 22) dX12_share_15 (by decide) rfl (fun _ => ?_) (fun _ => ?_)
  · refine Mh_aload_n 0 rfl dX12_share_22 ?_
    refine Mh_cvU (N := mi_X12_laysVotes) (q := l0) (ci := 11) (as := []) (st := []) (id) cg_yX12_laysVotes (by decide) rfl rfl ml_RX12_445 iv_yX12_laysVotes pd_yX12_laysVotes rfl (by decide) (Nat.le_of_ble_eq_true rfl) rfl dX12_share_23 (T_X12_laysVotes l E _ _ _) rfl ?_
    exact t_X12_share_26 l E c0 s0 _ _ _ _ _
  · refine Mh_sub (lv' := []) [] rfl ?_
    exact t_X12_share_18 l E c0 s0  _ _
def f_X12_share_5 (l0 : Nat) (l1 : Int32) (l2 : Int32) (y0 : Int32) (m : Mm) (o : Prop) : Int64 × Mm × Prop := if y0 = 0 then (f_X12_share_18  m o) else (bnd (F_X12_lies (Int32.toInt64 l2) (0 : Int64) (1 : Int64) m o) (fun v1 m1 o1 => f_X12_share_15 l0 l1 l2 v1 m1 o1))
set_option maxRecDepth 10000 in
theorem t_X12_share_5 (l : Launch) (E : En) (c0 s0 : Nat) (l0 : Nat) (l1 : Int32) (l2 : Int32) (y0 : Int32) (m : Mm) (o : Prop) : Mh wJ l E mi_X12_share c0 s0 5 [(0, .ref l0), (1, .int l1), (2, .int l2)] [.int y0] m o (f_X12_share_5 l0 l1 l2 y0 m o) := by
  refine Mh_if_eq (tgt := 18) dX12_share_5 (by decide) rfl (fun _ => ?_) (fun _ => ?_)
  · refine Mh_sub (lv' := []) [] rfl ?_
    exact t_X12_share_18 l E c0 s0  _ _
  · refine Mh_iload_n 2 rfl dX12_share_8 ?_
    refine Mh_i2l dX12_share_9 ?_
    refine Mh_lconst (v := 0) dX12_share_10 (by decide) ?_
    refine Mh_lconst (v := 1) dX12_share_11 (by decide) ?_
    refine Mh_csI (N := mi_X12_lies) (as := [.long (Int32.toInt64 l2), .long (0 : Int64), .long (1 : Int64)]) (st := []) cg_yX12_lies (.inl ml_RX12_188) sv_yX12_lies pd_yX12_lies rfl (by decide) (Nat.le_of_ble_eq_true rfl) rfl dX12_share_12 (T_X12_lies l E _ _ _ _ _) rfl ?_
    exact t_X12_share_15 l E c0 s0 _ _ _ _ _ _
def f_X12_share_0 (l0 : Nat) (l1 : Int32) (l2 : Int32) (m : Mm) (o : Prop) : Int64 × Mm × Prop := bnd (F_X12_isCow l0 l1 m (o ∧ gT m l0 = 12)) (fun v1 m1 o1 => f_X12_share_5 l0 l1 l2 v1 m1 o1)
set_option maxRecDepth 10000 in
theorem t_X12_share_0 (l : Launch) (E : En) (c0 s0 : Nat) (l0 : Nat) (l1 : Int32) (l2 : Int32) (m : Mm) (o : Prop) : Mh wJ l E mi_X12_share c0 s0 0 [(0, .ref l0), (1, .int l1), (2, .int l2)] [] m o (f_X12_share_0 l0 l1 l2 m o) := by
  refine Mh_aload_n 0 rfl dX12_share_0 ?_
  refine Mh_iload_n 1 rfl dX12_share_1 ?_
  refine Mh_cvI (N := mi_X12_isCow) (q := l0) (ci := 11) (as := [.int l1]) (st := []) (id) cg_yX12_isCow (by decide) rfl rfl ml_RX12_217 iv_yX12_isCow pd_yX12_isCow rfl (by decide) (Nat.le_of_ble_eq_true rfl) rfl dX12_share_2 (T_X12_isCow l E _ _ _ _) rfl ?_
  exact t_X12_share_5 l E c0 s0 _ _ _ _ _ _
def F_X12_share (a0 : Nat) (a1 : Int32) (a2 : Int32) (m : Mm) (o : Prop) : Int64 × Mm × Prop := f_X12_share_0 a0 a1 a2 m o
theorem T_X12_share (l : Launch) (E : En) (a0 : Nat) (a1 : Int32) (a2 : Int32) (m : Mm) (o : Prop) : Mt wJ l E yX12_share mi_X12_share [.ref a0, .int a1, .int a2] m o (F_X12_share a0 a1 a2 m o) :=
  Mt_J (by decide) rfl rfl rfl (Nat.le_of_ble_eq_true rfl) rfl (t_X12_share_0 l E _ _ _ _ _ _ _)
def f_X12_isFull_9 (y0 : Int32) (m : Mm) (o : Prop) : Int32 × Mm × Prop := (y0, m, o ∧ (y0 = 0 ∨ y0 = 1))
set_option maxRecDepth 10000 in
theorem t_X12_isFull_9 (l : Launch) (E : En) (c0 s0 : Nat) (y0 : Int32) (m : Mm) (o : Prop) : Mh wI l E mi_X12_isFull c0 s0 9 [] [.int y0] m o (f_X12_isFull_9 y0 m o) := by
  exact Mh_retZ dX12_isFull_9 (.inl rfl) rfl
def f_X12_isFull_0 (l0 : Int32) (m : Mm) (o : Prop) : Int32 × Mm × Prop := bnd (F_X12_lies (Int32.toInt64 l0) (0 : Int64) (99 : Int64) m o) (fun v1 m1 o1 => f_X12_isFull_9 v1 m1 o1)
set_option maxRecDepth 10000 in
theorem t_X12_isFull_0 (l : Launch) (E : En) (c0 s0 : Nat) (l0 : Int32) (m : Mm) (o : Prop) : Mh wI l E mi_X12_isFull c0 s0 0 [(0, .int l0)] [] m o (f_X12_isFull_0 l0 m o) := by
  refine Mh_iload_n 0 rfl dX12_isFull_0 ?_
  refine Mh_i2l dX12_isFull_1 ?_
  refine Mh_lconst (v := 0) dX12_isFull_2 (by decide) ?_
  refine Mh_ldc2 (v := 99) gl_RX12_204 dX12_isFull_3 ?_
  refine Mh_csI (N := mi_X12_lies) (as := [.long (Int32.toInt64 l0), .long (0 : Int64), .long (99 : Int64)]) (st := []) cg_yX12_lies (.inl ml_RX12_188) sv_yX12_lies pd_yX12_lies rfl (by decide) (Nat.le_of_ble_eq_true rfl) rfl dX12_isFull_6 (T_X12_lies l E _ _ _ _ _) rfl ?_
  refine Mh_sub (lv' := []) [] rfl ?_
  exact t_X12_isFull_9 l E c0 s0 _ _ _
def F_X12_isFull (a0 : Int32) (m : Mm) (o : Prop) : Int32 × Mm × Prop := f_X12_isFull_0 a0 m o
theorem T_X12_isFull (l : Launch) (E : En) (a0 : Int32) (m : Mm) (o : Prop) : Mt wI l E yX12_isFull mi_X12_isFull [.int a0] m o (F_X12_isFull a0 m o) :=
  Mt_I (by decide) rfl rfl rfl (Nat.le_of_ble_eq_true rfl) rfl (.inr (.inl rfl)) (t_X12_isFull_0 l E _ _ _ _ _)
