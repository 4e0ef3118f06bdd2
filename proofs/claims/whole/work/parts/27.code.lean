def f_X11_cut_16 (m : Mm) (o : Prop) : Int32 × Mm × Prop := ((-1 : Int32), m, o)
set_option maxRecDepth 10000 in
theorem t_X11_cut_16 (l : Launch) (E : En) (c0 s0 : Nat) (m : Mm) (o : Prop) : Mh wI l E mi_X11_cut c0 s0 16 [] [] m o (f_X11_cut_16  m o) := by
  refine Mh_iconst (v := (-1)) dX11_cut_16 (by decide) ?_
  exact Mh_ret dX11_cut_17 rfl (fun _ => rfl) rfl
def f_X11_cut_88 (k29 : Nat → Int32 → Int32 → Int32 → Int32 → Int32 → Int32 → Mm → Prop → Int32 × Mm × Prop) (k39 : Nat → Int32 → Int32 → Int32 → Int32 → Int32 → Int32 → Int32 → Mm → Prop → Int32 × Mm × Prop) (l0 : Nat) (l1 : Int32) (l2 : Int32) (l3 : Int32) (l4 : Int32) (l5 : Int32) (l6 : Int32) (l7 : Int32) (m : Mm) (o : Prop) : Int32 × Mm × Prop := k39 l0 l1 l2 l3 l4 l5 l6 (l7 + 1) m o
set_option maxRecDepth 10000 in
theorem t_X11_cut_88 (l : Launch) (E : En) (c0 s0 : Nat) (k29 : Nat → Int32 → Int32 → Int32 → Int32 → Int32 → Int32 → Mm → Prop → Int32 × Mm × Prop) (hk29 : ∀ (l0 : Nat) (l1 : Int32) (l2 : Int32) (l3 : Int32) (l4 : Int32) (l5 : Int32) (l6 : Int32) (m : Mm) (o : Prop), Mh wI l E mi_X11_cut c0 s0 29 [(0, .ref l0), (1, .int l1), (2, .int l2), (3, .int l3), (4, .int l4), (5, .int l5), (6, .int l6)] [] m o (k29 l0 l1 l2 l3 l4 l5 l6 m o)) (k39 : Nat → Int32 → Int32 → Int32 → Int32 → Int32 → Int32 → Int32 → Mm → Prop → Int32 × Mm × Prop) (hk39 : ∀ (l0 : Nat) (l1 : Int32) (l2 : Int32) (l3 : Int32) (l4 : Int32) (l5 : Int32) (l6 : Int32) (l7 : Int32) (m : Mm) (o : Prop), Mh wI l E mi_X11_cut c0 s0 39 [(0, .ref l0), (1, .int l1), (2, .int l2), (3, .int l3), (4, .int l4), (5, .int l5), (6, .int l6), (7, .int l7)] [] m o (k39 l0 l1 l2 l3 l4 l5 l6 l7 m o)) (l0 : Nat) (l1 : Int32) (l2 : Int32) (l3 : Int32) (l4 : Int32) (l5 : Int32) (l6 : Int32) (l7 : Int32) (m : Mm) (o : Prop) : Mh wI l E mi_X11_cut c0 s0 88 [(0, .ref l0), (1, .int l1), (2, .int l2), (3, .int l3), (4, .int l4), (5, .int l5), (6, .int l6), (7, .int l7)] [] m o (f_X11_cut_88 k29 k39 l0 l1 l2 l3 l4 l5 l6 l7 m o) := by
  refine Mh_iinc (v := l7 + 1) (lv' := [(7, .int (l7 + 1)), (0, .ref l0), (1, .int l1), (2, .int l2), (3, .int l3), (4, .int l4), (5, .int l5), (6, .int l6)]) 7 dX11_cut_88 rfl rfl (Nat.le_of_ble_eq_true rfl) rfl ?_
  refine Mh_goto (tgt := 39) dX11_cut_91 (by decide) ?_
  refine Mh_sub (lv' := [(0, .ref l0), (1, .int l1), (2, .int l2), (3, .int l3), (4, .int l4), (5, .int l5), (6, .int l6), (7, .int (l7 + 1))]) [1, 2, 3, 4, 5, 6, 7, 0] rfl ?_
  exact hk39 _ _ _ _ _ _ _ _ _ _
def f_X11_cut_69 (k29 : Nat → Int32 → Int32 → Int32 → Int32 → Int32 → Int32 → Mm → Prop → Int32 × Mm × Prop) (k39 : Nat → Int32 → Int32 → Int32 → Int32 → Int32 → Int32 → Int32 → Mm → Prop → Int32 × Mm × Prop) (l0 : Nat) (l1 : Int32) (l2 : Int32) (l3 : Int32) (l4 : Int32) (l5 : Int32) (l6 : Int32) (l7 : Int32) (y0 : Int32) (m : Mm) (o : Prop) : Int32 × Mm × Prop := if y0 ≤ l3 then (f_X11_cut_88 k29 k39 l0 l1 l2 l3 l4 l5 l6 l7 m o) else (f_X11_cut_88 k29 k39 l0 l1 l2 y0 l6 l7 l6 l7 m o)
set_option maxRecDepth 10000 in
theorem t_X11_cut_69 (l : Launch) (E : En) (c0 s0 : Nat) (k29 : Nat → Int32 → Int32 → Int32 → Int32 → Int32 → Int32 → Mm → Prop → Int32 × Mm × Prop) (hk29 : ∀ (l0 : Nat) (l1 : Int32) (l2 : Int32) (l3 : Int32) (l4 : Int32) (l5 : Int32) (l6 : Int32) (m : Mm) (o : Prop), Mh wI l E mi_X11_cut c0 s0 29 [(0, .ref l0), (1, .int l1), (2, .int l2), (3, .int l3), (4, .int l4), (5, .int l5), (6, .int l6)] [] m o (k29 l0 l1 l2 l3 l4 l5 l6 m o)) (k39 : Nat → Int32 → Int32 → Int32 → Int32 → Int32 → Int32 → Int32 → Mm → Prop → Int32 × Mm × Prop) (hk39 : ∀ (l0 : Nat) (l1 : Int32) (l2 : Int32) (l3 : Int32) (l4 : Int32) (l5 : Int32) (l6 : Int32) (l7 : Int32) (m : Mm) (o : Prop), Mh wI l E mi_X11_cut c0 s0 39 [(0, .ref l0), (1, .int l1), (2, .int l2), (3, .int l3), (4, .int l4), (5, .int l5), (6, .int l6), (7, .int l7)] [] m o (k39 l0 l1 l2 l3 l4 l5 l6 l7 m o)) (l0 : Nat) (l1 : Int32) (l2 : Int32) (l3 : Int32) (l4 : Int32) (l5 : Int32) (l6 : Int32) (l7 : Int32) (y0 : Int32) (m : Mm) (o : Prop) : Mh wI l E mi_X11_cut c0 s0 69 [(0, .ref l0), (1, .int l1), (2, .int l2), (3, .int l3), (4, .int l4), (5, .int l5), (6, .int l6), (7, .int l7)] [.int y0] m o (f_X11_cut_69 k29 k39 l0 l1 l2 l3 l4 l5 l6 l7 y0 m o) := by
  refine Mh_istore (lv' := [(8, .int y0), (0, .ref l0), (1, .int l1), (2, .int l2), (3, .int l3), (4, .int l4), (5, .int l5), (6, .int l6), (7, .int l7)]) dX11_cut_69 (Nat.le_of_ble_eq_true rfl) rfl ?_
  refine Mh_iload 0 rfl dX11_cut_71 ?_
  refine Mh_iload_n 4 rfl dX11_cut_73 ?_
  refine Mh_icmp_le (tgt := 88) dX11_cut_74 (by decide) rfl (fun _ => ?_) (fun _ => ?_)
  · refine Mh_sub (lv' := [(0, .ref l0), (1, .int l1), (2, .int l2), (3, .int l3), (4, .int l4), (5, .int l5), (6, .int l6), (7, .int l7)]) [1, 2, 3, 4, 5, 6, 7, 8] rfl ?_
    exact t_X11_cut_88 l E c0 s0 k29 hk29 k39 hk39 _ _ _ _ _ _ _ _ _ _
  · refine Mh_iload 0 rfl dX11_cut_77 ?_
    refine Mh_istore_n (lv' := [(3, .int y0), (8, .int y0), (0, .ref l0), (1, .int l1), (2, .int l2), (4, .int l4), (5, .int l5), (6, .int l6), (7, .int l7)]) dX11_cut_79 (Nat.le_of_ble_eq_true rfl) rfl ?_
    refine Mh_iload 7 rfl dX11_cut_80 ?_
    refine Mh_istore (lv' := [(4, .int l6), (3, .int y0), (8, .int y0), (0, .ref l0), (1, .int l1), (2, .int l2), (5, .int l5), (6, .int l6), (7, .int l7)]) dX11_cut_82 (Nat.le_of_ble_eq_true rfl) rfl ?_
    refine Mh_iload 8 rfl dX11_cut_84 ?_
    refine Mh_istore (lv' := [(5, .int l7), (4, .int l6), (3, .int y0), (8, .int y0), (0, .ref l0), (1, .int l1), (2, .int l2), (6, .int l6), (7, .int l7)]) dX11_cut_86 (Nat.le_of_ble_eq_true rfl) rfl ?_
    refine Mh_sub (lv' := [(0, .ref l0), (1, .int l1), (2, .int l2), (3, .int y0), (4, .int l6), (5, .int l7), (6, .int l6), (7, .int l7)]) [4, 5, 6, 2, 1, 0, 7, 8] rfl ?_
    exact t_X11_cut_88 l E c0 s0 k29 hk29 k39 hk39 _ _ _ _ _ _ _ _ _ _
def f_X11_cut_61 (k29 : Nat → Int32 → Int32 → Int32 → Int32 → Int32 → Int32 → Mm → Prop → Int32 × Mm × Prop) (k39 : Nat → Int32 → Int32 → Int32 → Int32 → Int32 → Int32 → Int32 → Mm → Prop → Int32 × Mm × Prop) (l0 : Nat) (l1 : Int32) (l2 : Int32) (l3 : Int32) (l4 : Int32) (l5 : Int32) (l6 : Int32) (l7 : Int32) (m : Mm) (o : Prop) : Int32 × Mm × Prop := bnd (F_X2_seatsOf (gR m l0 7) l1 m ((o ∧ (gT m l0 = 11 ∧ gR m l0 7 ≠ 0)) ∧ gT m (gR m l0 7) = 3)) (fun v1 m1 o1 => f_X11_cut_69 k29 k39 l0 l1 l2 l3 l4 l5 l6 l7 v1 m1 o1)
set_option maxRecDepth 10000 in
theorem t_X11_cut_61 (l : Launch) (E : En) (c0 s0 : Nat) (k29 : Nat → Int32 → Int32 → Int32 → Int32 → Int32 → Int32 → Mm → Prop → Int32 × Mm × Prop) (hk29 : ∀ (l0 : Nat) (l1 : Int32) (l2 : Int32) (l3 : Int32) (l4 : Int32) (l5 : Int32) (l6 : Int32) (m : Mm) (o : Prop), Mh wI l E mi_X11_cut c0 s0 29 [(0, .ref l0), (1, .int l1), (2, .int l2), (3, .int l3), (4, .int l4), (5, .int l5), (6, .int l6)] [] m o (k29 l0 l1 l2 l3 l4 l5 l6 m o)) (k39 : Nat → Int32 → Int32 → Int32 → Int32 → Int32 → Int32 → Int32 → Mm → Prop → Int32 × Mm × Prop) (hk39 : ∀ (l0 : Nat) (l1 : Int32) (l2 : Int32) (l3 : Int32) (l4 : Int32) (l5 : Int32) (l6 : Int32) (l7 : Int32) (m : Mm) (o : Prop), Mh wI l E mi_X11_cut c0 s0 39 [(0, .ref l0), (1, .int l1), (2, .int l2), (3, .int l3), (4, .int l4), (5, .int l5), (6, .int l6), (7, .int l7)] [] m o (k39 l0 l1 l2 l3 l4 l5 l6 l7 m o)) (l0 : Nat) (l1 : Int32) (l2 : Int32) (l3 : Int32) (l4 : Int32) (l5 : Int32) (l6 : Int32) (l7 : Int32) (m : Mm) (o : Prop) : Mh wI l E mi_X11_cut c0 s0 61 [(0, .ref l0), (1, .int l1), (2, .int l2), (3, .int l3), (4, .int l4), (5, .int l5), (6, .int l6), (7, .int l7)] [] m o (f_X11_cut_61 k29 k39 l0 l1 l2 l3 l4 l5 l6 l7 m o) := by
  refine Mh_aload_n 0 rfl dX11_cut_61 ?_
  refine Mh_gR fd_10_7 fl_RX11_57 dX11_cut_62 ?_
  refine Mh_iload_n 1 rfl dX11_cut_65 ?_
  refine Mh_cvI (N := mi_X2_seatsOf) (q := gR m l0 7) (ci := 2) (as := [.int l1]) (st := []) (id) cg_yX2_seatsOf (by decide) rfl rfl ml_RX11_261 iv_yX2_seatsOf pd_yX2_seatsOf rfl (by decide) (Nat.le_of_ble_eq_true rfl) rfl dX11_cut_66 (T_X2_seatsOf l E _ _ _ _) rfl ?_
  exact t_X11_cut_69 l E c0 s0 k29 hk29 k39 hk39 _ _ _ _ _ _ _ _ _ _ _
def f_X11_cut_39b (k29 : Nat → Int32 → Int32 → Int32 → Int32 → Int32 → Int32 → Mm → Prop → Int32 × Mm × Prop) (k39 : Nat → Int32 → Int32 → Int32 → Int32 → Int32 → Int32 → Int32 → Mm → Prop → Int32 × Mm × Prop) (l0 : Nat) (l1 : Int32) (l2 : Int32) (l3 : Int32) (l4 : Int32) (l5 : Int32) (l6 : Int32) (l7 : Int32) (m : Mm) (o : Prop) : Int32 × Mm × Prop := if (10 : Int32) ≤ l7 then (k29 l0 l1 l2 l3 l4 l5 (l6 + 1) m o) else (bnd (F_X2_tally (gR m l0 7) (gR m l0 0) l6 l7 m (((o ∧ (gT m l0 = 11 ∧ gR m l0 7 ≠ 0)) ∧ (gT m l0 = 11 ∧ gR m l0 0 ≠ 0)) ∧ gT m (gR m l0 7) = 3)) (fun _ m1 o1 => f_X11_cut_61 k29 k39 l0 l1 l2 l3 l4 l5 l6 l7 m1 o1))
set_option maxRecDepth 10000 in
theorem t_X11_cut_39b (l : Launch) (E : En) (c0 s0 : Nat) (k29 : Nat → Int32 → Int32 → Int32 → Int32 → Int32 → Int32 → Mm → Prop → Int32 × Mm × Prop) (hk29 : ∀ (l0 : Nat) (l1 : Int32) (l2 : Int32) (l3 : Int32) (l4 : Int32) (l5 : Int32) (l6 : Int32) (m : Mm) (o : Prop), Mh wI l E mi_X11_cut c0 s0 29 [(0, .ref l0), (1, .int l1), (2, .int l2), (3, .int l3), (4, .int l4), (5, .int l5), (6, .int l6)] [] m o (k29 l0 l1 l2 l3 l4 l5 l6 m o)) (k39 : Nat → Int32 → Int32 → Int32 → Int32 → Int32 → Int32 → Int32 → Mm → Prop → Int32 × Mm × Prop) (hk39 : ∀ (l0 : Nat) (l1 : Int32) (l2 : Int32) (l3 : Int32) (l4 : Int32) (l5 : Int32) (l6 : Int32) (l7 : Int32) (m : Mm) (o : Prop), Mh wI l E mi_X11_cut c0 s0 39 [(0, .ref l0), (1, .int l1), (2, .int l2), (3, .int l3), (4, .int l4), (5, .int l5), (6, .int l6), (7, .int l7)] [] m o (k39 l0 l1 l2 l3 l4 l5 l6 l7 m o)) (l0 : Nat) (l1 : Int32) (l2 : Int32) (l3 : Int32) (l4 : Int32) (l5 : Int32) (l6 : Int32) (l7 : Int32) (m : Mm) (o : Prop) : Mh wI l E mi_X11_cut c0 s0 39 [(0, .ref l0), (1, .int l1), (2, .int l2), (3, .int l3), (4, .int l4), (5, .int l5), (6, .int l6), (7, .int l7)] [] m o (f_X11_cut_39b k29 k39 l0 l1 l2 l3 l4 l5 l6 l7 m o) := by
  refine Mh_iload 7 rfl dX11_cut_39 ?_
  refine Mh_bipush (v := 10) dX11_cut_41 (by decide) ?_
  refine Mh_icmp_ge (tgt := 94) dX11_cut_43 (by decide) rfl (fun _ => ?_) (fun _ => ?_)
  · refine Mh_iinc (v := l6 + 1) (lv' := [(6, .int (l6 + 1)), (0, .ref l0), (1, .int l1), (2, .int l2), (3, .int l3), (4, .int l4), (5, .int l5), (7, .int l7)]) 6 dX11_cut_94 rfl rfl (Nat.le_of_ble_eq_true rfl) rfl ?_
    refine Mh_goto (tgt := 29) dX11_cut_97 (by decide) ?_
    refine Mh_sub (lv' := [(0, .ref l0), (1, .int l1), (2, .int l2), (3, .int l3), (4, .int l4), (5, .int l5), (6, .int (l6 + 1))]) [1, 2, 3, 4, 5, 6, 0] rfl ?_
    exact hk29 _ _ _ _ _ _ _ _ _
  · refine Mh_aload_n 0 rfl dX11_cut_46 ?_
    refine Mh_gR fd_10_7 fl_RX11_57 dX11_cut_47 ?_
    refine Mh_aload_n 0 rfl dX11_cut_50 ?_
    refine Mh_gR fd_10_0 fl_RX11_10 dX11_cut_51 ?_
    refine Mh_iload 6 rfl dX11_cut_54 ?_
    refine Mh_iload 7 rfl dX11_cut_56 ?_
    refine Mh_cvU (N := mi_X2_tally) (q := gR m l0 7) (ci := 2) (as := [.ref (gR m l0 0), .int l6, .int l7]) (st := []) (id) cg_yX2_tally (by decide) rfl rfl ml_RX11_253 iv_yX2_tally pd_yX2_tally rfl (by decide) (Nat.le_of_ble_eq_true rfl) rfl dX11_cut_58 (T_X2_tally l E _ _ _ _ _ _) rfl ?_
    exact t_X11_cut_61 l E c0 s0 k29 hk29 k39 hk39 _ _ _ _ _ _ _ _ _ _
def f_X11_cut_39 (k29 : Nat → Int32 → Int32 → Int32 → Int32 → Int32 → Int32 → Mm → Prop → Int32 × Mm × Prop) : Nat → Nat → Int32 → Int32 → Int32 → Int32 → Int32 → Int32 → Int32 → Mm → Prop → Int32 × Mm × Prop
  | 0, _, _, _, _, _, _, _, _, m, _ => (0, m, False)
  | n + 1, l0, l1, l2, l3, l4, l5, l6, l7, m, o => f_X11_cut_39b k29 (f_X11_cut_39 k29 n) l0 l1 l2 l3 l4 l5 l6 l7 m o
theorem t_X11_cut_39 (l : Launch) (E : En) (c0 s0 : Nat) (k29 : Nat → Int32 → Int32 → Int32 → Int32 → Int32 → Int32 → Mm → Prop → Int32 × Mm × Prop) (hk29 : ∀ (l0 : Nat) (l1 : Int32) (l2 : Int32) (l3 : Int32) (l4 : Int32) (l5 : Int32) (l6 : Int32) (m : Mm) (o : Prop), Mh wI l E mi_X11_cut c0 s0 29 [(0, .ref l0), (1, .int l1), (2, .int l2), (3, .int l3), (4, .int l4), (5, .int l5), (6, .int l6)] [] m o (k29 l0 l1 l2 l3 l4 l5 l6 m o)) : ∀ (n : Nat) (l0 : Nat) (l1 : Int32) (l2 : Int32) (l3 : Int32) (l4 : Int32) (l5 : Int32) (l6 : Int32) (l7 : Int32) (m : Mm) (o : Prop), Mh wI l E mi_X11_cut c0 s0 39 [(0, .ref l0), (1, .int l1), (2, .int l2), (3, .int l3), (4, .int l4), (5, .int l5), (6, .int l6), (7, .int l7)] [] m o (f_X11_cut_39 k29 n l0 l1 l2 l3 l4 l5 l6 l7 m o)
  | 0, _, _, _, _, _, _, _, _, _, _ => Mh_out rfl
  | n + 1, l0, l1, l2, l3, l4, l5, l6, l7, m, o => t_X11_cut_39b l E c0 s0 k29 hk29 (f_X11_cut_39 k29 n) (t_X11_cut_39 l E c0 s0 k29 hk29 n) l0 l1 l2 l3 l4 l5 l6 l7 m o
def f_X11_cut_118 (y0 : Int32) (m : Mm) (o : Prop) : Int32 × Mm × Prop := (y0, m, o)
set_option maxRecDepth 10000 in
theorem t_X11_cut_118 (l : Launch) (E : En) (c0 s0 : Nat) (y0 : Int32) (m : Mm) (o : Prop) : Mh wI l E mi_X11_cut c0 s0 118 [] [.int y0] m o (f_X11_cut_118 y0 m o) := by
  exact Mh_ret dX11_cut_118 rfl (fun _ => rfl) rfl
def f_X11_cut_29b (k29 : Nat → Int32 → Int32 → Int32 → Int32 → Int32 → Int32 → Mm → Prop → Int32 × Mm × Prop) (l0 : Nat) (l1 : Int32) (l2 : Int32) (l3 : Int32) (l4 : Int32) (l5 : Int32) (l6 : Int32) (m : Mm) (o : Prop) : Int32 × Mm × Prop := if (10 : Int32) ≤ l6 then (if l2 = 0 then (l3, m, o) else (if l2 = (1 : Int32) then (f_X11_cut_118 l4 m o) else (f_X11_cut_118 l5 m o))) else (f_X11_cut_39 k29 1000 l0 l1 l2 l3 l4 l5 l6 (1 : Int32) m o)
set_option maxRecDepth 10000 in
theorem t_X11_cut_29b (l : Launch) (E : En) (c0 s0 : Nat) (k29 : Nat → Int32 → Int32 → Int32 → Int32 → Int32 → Int32 → Mm → Prop → Int32 × Mm × Prop) (hk29 : ∀ (l0 : Nat) (l1 : Int32) (l2 : Int32) (l3 : Int32) (l4 : Int32) (l5 : Int32) (l6 : Int32) (m : Mm) (o : Prop), Mh wI l E mi_X11_cut c0 s0 29 [(0, .ref l0), (1, .int l1), (2, .int l2), (3, .int l3), (4, .int l4), (5, .int l5), (6, .int l6)] [] m o (k29 l0 l1 l2 l3 l4 l5 l6 m o)) (l0 : Nat) (l1 : Int32) (l2 : Int32) (l3 : Int32) (l4 : Int32) (l5 : Int32) (l6 : Int32) (m : Mm) (o : Prop) : Mh wI l E mi_X11_cut c0 s0 29 [(0, .ref l0), (1, .int l1), (2, .int l2), (3, .int l3), (4, .int l4), (5, .int l5), (6, .int l6)] [] m o (f_X11_cut_29b k29 l0 l1 l2 l3 l4 l5 l6 m o) := by
  refine Mh_iload 6 rfl dX11_cut_29 ?_
  refine Mh_bipush (v := 10) dX11_cut_31 (by decide) ?_
  refine Mh_icmp_ge (tgt := 100) dX11_cut_33 (by decide) rfl (fun _ => ?_) (fun _ => ?_)
  · refine Mh_iload_n 2 rfl dX11_cut_100 ?_
    refine Mh_if_ne (tgt := 106) dX11_cut_101 (by decide) rfl (fun _ => ?_) (fun _ => ?_)
    · refine Mh_iload_n 2 rfl dX11_cut_106 ?_
      refine Mh_iconst (v := 1) dX11_cut_107 (by decide) ?_
      refine Mh_icmp_ne (tgt := 116) dX11_cut_108 (by decide) rfl (fun _ => ?_) (fun _ => ?_)
      · refine Mh_iload 5 rfl dX11_cut_116 ?_
        refine Mh_sub (lv' := []) [] rfl ?_
        exact t_X11_cut_118 l E c0 s0 _ _ _
      · refine Mh_iload 4 rfl dX11_cut_111 ?_
        refine Mh_goto (tgt := 118) dX11_cut_113 (by decide) ?_
        refine Mh_sub (lv' := []) [] rfl ?_
        exact t_X11_cut_118 l E c0 s0 _ _ _
    · refine Mh_iload_n 3 rfl dX11_cut_104 ?_
      exact Mh_ret dX11_cut_105 rfl (fun _ => rfl) rfl
  · refine Mh_iconst (v := 1) dX11_cut_36 (by decide) ?_
    refine Mh_istore (lv' := [(7, .int (1 : Int32)), (0, .ref l0), (1, .int l1), (2, .int l2), (3, .int l3), (4, .int l4), (5, .int l5), (6, .int l6)]) dX11_cut_37 (Nat.le_of_ble_eq_true rfl) rfl ?_
    refine Mh_sub (lv' := [(0, .ref l0), (1, .int l1), (2, .int l2), (3, .int l3), (4, .int l4), (5, .int l5), (6, .int l6), (7, .int (1 : Int32))]) [1, 2, 3, 4, 5, 6, 7, 0] rfl ?_
    exact t_X11_cut_39 l E c0 s0 k29 hk29 _ _ _ _ _ _ _ _ _ _ _
def f_X11_cut_29 : Nat → Nat → Int32 → Int32 → Int32 → Int32 → Int32 → Int32 → Mm → Prop → Int32 × Mm × Prop
  | 0, _, _, _, _, _, _, _, m, _ => (0, m, False)
  | n + 1, l0, l1, l2, l3, l4, l5, l6, m, o => f_X11_cut_29b (f_X11_cut_29 n) l0 l1 l2 l3 l4 l5 l6 m o
theorem t_X11_cut_29 (l : Launch) (E : En) (c0 s0 : Nat) : ∀ (n : Nat) (l0 : Nat) (l1 : Int32) (l2 : Int32) (l3 : Int32) (l4 : Int32) (l5 : Int32) (l6 : Int32) (m : Mm) (o : Prop), Mh wI l E mi_X11_cut c0 s0 29 [(0, .ref l0), (1, .int l1), (2, .int l2), (3, .int l3), (4, .int l4), (5, .int l5), (6, .int l6)] [] m o (f_X11_cut_29 n l0 l1 l2 l3 l4 l5 l6 m o)
  | 0, _, _, _, _, _, _, _, _, _ => Mh_out rfl
  | n + 1, l0, l1, l2, l3, l4, l5, l6, m, o => t_X11_cut_29b l E c0 s0 (f_X11_cut_29 n) (t_X11_cut_29 l E c0 s0 n) l0 l1 l2 l3 l4 l5 l6 m o
def f_X11_cut_13 (l0 : Nat) (l1 : Int32) (l2 : Int32) (y0 : Int32) (m : Mm) (o : Prop) : Int32 × Mm × Prop := if y0 = 0 then (f_X11_cut_16  m o) else (f_X11_cut_29 1000 l0 l1 l2 (-1 : Int32) (0 : Int32) (0 : Int32) (1 : Int32) m o)
set_option maxRecDepth 10000 in
theorem t_X11_cut_13 (l : Launch) (E : En) (c0 s0 : Nat) (l0 : Nat) (l1 : Int32) (l2 : Int32) (y0 : Int32) (m : Mm) (o : Prop) : Mh wI l E mi_X11_cut c0 s0 13 [(0, .ref l0), (1, .int l1), (2, .int l2)] [.int y0] m o (f_X11_cut_13 l0 l1 l2 y0 m o) := by
  refine Mh_if_ne (tgt := 18) dX11_cut_13 (by decide) rfl (fun _ => ?_) (fun _ => ?_)
  · refine Mh_iconst (v := (-1)) dX11_cut_18 (by decide) ?_
    refine Mh_istore_n (lv' := [(3, .int (-1 : Int32)), (0, .ref l0), (1, .int l1), (2, .int l2)]) dX11_cut_19 (Nat.le_of_ble_eq_true rfl) rfl ?_
    refine Mh_iconst (v := 0) dX11_cut_20 (by decide) ?_
    refine Mh_istore (lv' := [(4, .int (0 : Int32)), (3, .int (-1 : Int32)), (0, .ref l0), (1, .int l1), (2, .int l2)]) dX11_cut_21 (Nat.le_of_ble_eq_true rfl) rfl ?_
    refine Mh_iconst (v := 0) dX11_cut_23 (by decide) ?_
    refine Mh_istore (lv' := [(5, .int (0 : Int32)), (4, .int (0 : Int32)), (3, .int (-1 : Int32)), (0, .ref l0), (1, .int l1), (2, .int l2)]) dX11_cut_24 (Nat.le_of_ble_eq_true rfl) rfl ?_
    refine Mh_iconst (v := 1) dX11_cut_26 (by decide) ?_
    refine Mh_istore (lv' := [(6, .int (1 : Int32)), (5, .int (0 : Int32)), (4, .int (0 : Int32)), (3, .int (-1 : Int32)), (0, .ref l0), (1, .int l1), (2, .int l2)]) dX11_cut_27 (Nat.le_of_ble_eq_true rfl) rfl ?_
    refine Mh_sub (lv' := [(0, .ref l0), (1, .int l1), (2, .int l2), (3, .int (-1 : Int32)), (4, .int (0 : Int32)), (5, .int (0 : Int32)), (6, .int (1 : Int32))]) [4, 5, 6, 3, 2, 1, 0] rfl ?_
    exact t_X11_cut_29 l E c0 s0 _ _ _ _ _ _ _ _ _ _
  · refine Mh_sub (lv' := []) [] rfl ?_
    exact t_X11_cut_16 l E c0 s0  _ _
def f_X11_cut_4 (l0 : Nat) (l1 : Int32) (l2 : Int32) (y0 : Int32) (m : Mm) (o : Prop) : Int32 × Mm × Prop := if y0 = 0 then (f_X11_cut_16  m o) else (bnd (F_X11_isWithin l2 (0 : Int32) (2 : Int32) m o) (fun v1 m1 o1 => f_X11_cut_13 l0 l1 l2 v1 m1 o1))
set_option maxRecDepth 10000 in
theorem t_X11_cut_4 (l : Launch) (E : En) (c0 s0 : Nat) (l0 : Nat) (l1 : Int32) (l2 : Int32) (y0 : Int32) (m : Mm) (o : Prop) : Mh wI l E mi_X11_cut c0 s0 4 [(0, .ref l0), (1, .int l1), (2, .int l2)] [.int y0] m o (f_X11_cut_4 l0 l1 l2 y0 m o) := by
  refine Mh_if_eq (tgt := 16) dX11_cut_4 (by decide) rfl (fun _ => ?_) (fun _ => ?_)
  · refine Mh_sub (lv' := []) [] rfl ?_
    exact t_X11_cut_16 l E c0 s0  _ _
  · refine Mh_iload_n 2 rfl dX11_cut_7 ?_
    refine Mh_iconst (v := 0) dX11_cut_8 (by decide) ?_
    refine Mh_iconst (v := 2) dX11_cut_9 (by decide) ?_
    refine Mh_csI (N := mi_X11_isWithin) (as := [.int l2, .int (0 : Int32), .int (2 : Int32)]) (st := []) cg_yX11_isWithin (.inl ml_RX11_90) sv_yX11_isWithin pd_yX11_isWithin rfl (by decide) (Nat.le_of_ble_eq_true rfl) rfl dX11_cut_10 (T_X11_isWithin l E _ _ _ _ _) rfl ?_
    exact t_X11_cut_13 l E c0 s0 _ _ _ _ _ _
def f_X11_cut_0 (l0 : Nat) (l1 : Int32) (l2 : Int32) (m : Mm) (o : Prop) : Int32 × Mm × Prop := bnd (F_X11_isColour l1 m o) (fun v1 m1 o1 => f_X11_cut_4 l0 l1 l2 v1 m1 o1)
set_option maxRecDepth 10000 in
theorem t_X11_cut_0 (l : Launch) (E : En) (c0 s0 : Nat) (l0 : Nat) (l1 : Int32) (l2 : Int32) (m : Mm) (o : Prop) : Mh wI l E mi_X11_cut c0 s0 0 [(0, .ref l0), (1, .int l1), (2, .int l2)] [] m o (f_X11_cut_0 l0 l1 l2 m o) := by
  refine Mh_iload_n 1 rfl dX11_cut_0 ?_
  refine Mh_csI (N := mi_X11_isColour) (as := [.int l1]) (st := []) cg_yX11_isColour (.inl ml_RX11_86) sv_yX11_isColour pd_yX11_isColour rfl (by decide) (Nat.le_of_ble_eq_true rfl) rfl dX11_cut_1 (T_X11_isColour l E _ _ _) rfl ?_
  exact t_X11_cut_4 l E c0 s0 _ _ _ _ _ _
def F_X11_cut (a0 : Nat) (a1 : Int32) (a2 : Int32) (m : Mm) (o : Prop) : Int32 × Mm × Prop := f_X11_cut_0 a0 a1 a2 m o
theorem T_X11_cut (l : Launch) (E : En) (a0 : Nat) (a1 : Int32) (a2 : Int32) (m : Mm) (o : Prop) : Mt wI l E yX11_cut mi_X11_cut [.ref a0, .int a1, .int a2] m o (F_X11_cut a0 a1 a2 m o) :=
  Mt_I (by decide) rfl rfl rfl (Nat.le_of_ble_eq_true rfl) rfl (.inl rfl) (t_X11_cut_0 l E _ _ _ _ _ _ _)
def f_X11_days_40 (k23 : Nat → Int32 → Int32 → Int32 → Mm → Prop → Int32 × Mm × Prop) (l0 : Nat) (l1 : Int32) (l3 : Int32) (y1 : Int32) (y0 : Int32) (m : Mm) (o : Prop) : Int32 × Mm × Prop := k23 l0 l1 (y0 + y1) (l3 + 1) m o
set_option maxRecDepth 10000 in
theorem t_X11_days_40 (l : Launch) (E : En) (c0 s0 : Nat) (k23 : Nat → Int32 → Int32 → Int32 → Mm → Prop → Int32 × Mm × Prop) (hk23 : ∀ (l0 : Nat) (l1 : Int32) (l2 : Int32) (l3 : Int32) (m : Mm) (o : Prop), Mh wI l E mi_X11_days c0 s0 23 [(0, .ref l0), (1, .int l1), (2, .int l2), (3, .int l3)] [] m o (k23 l0 l1 l2 l3 m o)) (l0 : Nat) (l1 : Int32) (l3 : Int32) (y1 : Int32) (y0 : Int32) (m : Mm) (o : Prop) : Mh wI l E mi_X11_days c0 s0 40 [(0, .ref l0), (1, .int l1), (3, .int l3)] [.int y1, .int y0] m o (f_X11_days_40 k23 l0 l1 l3 y1 y0 m o) := by
  refine Mh_iadd dX11_days_40 ?_
  refine Mh_istore_n (lv' := [(2, .int (y0 + y1)), (0, .ref l0), (1, .int l1), (3, .int l3)]) dX11_days_41 (Nat.le_of_ble_eq_true rfl) rfl ?_
  refine Mh_iinc (v := l3 + 1) (lv' := [(3, .int (l3 + 1)), (2, .int (y0 + y1)), (0, .ref l0), (1, .int l1)]) 3 dX11_days_42 rfl rfl (Nat.le_of_ble_eq_true rfl) rfl ?_
  refine Mh_goto (tgt := 23) dX11_days_45 (by decide) ?_
  refine Mh_sub (lv' := [(0, .ref l0), (1, .int l1), (2, .int (y0 + y1)), (3, .int (l3 + 1))]) [2, 3, 1, 0] rfl ?_
  exact hk23 _ _ _ _ _ _
def f_X11_days_23b (k23 : Nat → Int32 → Int32 → Int32 → Mm → Prop → Int32 × Mm × Prop) (l0 : Nat) (l1 : Int32) (l2 : Int32) (l3 : Int32) (m : Mm) (o : Prop) : Int32 × Mm × Prop := if l1 ≤ l3 then (l2, m, o) else (bnd (F_X5_passDay (gR m l0 0) (gR m l0 9) m (((o ∧ (gT m l0 = 11 ∧ gR m l0 0 ≠ 0)) ∧ (gT m l0 = 11 ∧ gR m l0 9 ≠ 0)) ∧ gT m (gR m l0 0) = 6)) (fun v1 m1 o1 => f_X11_days_40 k23 l0 l1 l3 v1 l2 m1 o1))
set_option maxRecDepth 10000 in
theorem t_X11_days_23b (l : Launch) (E : En) (c0 s0 : Nat) (k23 : Nat → Int32 → Int32 → Int32 → Mm → Prop → Int32 × Mm × Prop) (hk23 : ∀ (l0 : Nat) (l1 : Int32) (l2 : Int32) (l3 : Int32) (m : Mm) (o : Prop), Mh wI l E mi_X11_days c0 s0 23 [(0, .ref l0), (1, .int l1), (2, .int l2), (3, .int l3)] [] m o (k23 l0 l1 l2 l3 m o)) (l0 : Nat) (l1 : Int32) (l2 : Int32) (l3 : Int32) (m : Mm) (o : Prop) : Mh wI l E mi_X11_days c0 s0 23 [(0, .ref l0), (1, .int l1), (2, .int l2), (3, .int l3)] [] m o (f_X11_days_23b k23 l0 l1 l2 l3 m o) := by
  refine Mh_iload_n 3 rfl dX11_days_23 ?_
  refine Mh_iload_n 1 rfl dX11_days_24 ?_
  refine Mh_icmp_ge (tgt := 48) dX11_days_25 (by decide) rfl (fun _ => ?_) (fun _ => ?_)
  · refine Mh_iload_n 2 rfl dX11_days_48 ?_
    exact Mh_ret dX11_days_49 rfl (fun _ => rfl) rfl
  · refine Mh_iload_n 2 rfl dX11_days_28 ?_
    refine Mh_aload_n 0 rfl dX11_days_29 ?_
    refine Mh_gR fd_10_0 fl_RX11_10 dX11_days_30 ?_
    refine Mh_aload_n 0 rfl dX11_days_33 ?_
    refine Mh_gR fd_10_9 fl_RX11_71 dX11_days_34 ?_
    refine Mh_cvI (N := mi_X5_passDay) (q := gR m l0 0) (ci := 5) (as := [.ref (gR m l0 9)]) (st := [.int l2]) (id) cg_yX5_passDay (by decide) rfl rfl ml_RX11_162 iv_yX5_passDay pd_yX5_passDay rfl (by decide) (Nat.le_of_ble_eq_true rfl) rfl dX11_days_37 (T_X5_passDay l E _ _ _ _) rfl ?_
    refine Mh_sub (lv' := [(0, .ref l0), (1, .int l1), (3, .int l3)]) [0, 1, 3] rfl ?_
    exact t_X11_days_40 l E c0 s0 k23 hk23 _ _ _ _ _ _ _
def f_X11_days_23 : Nat → Nat → Int32 → Int32 → Int32 → Mm → Prop → Int32 × Mm × Prop
  | 0, _, _, _, _, m, _ => (0, m, False)
  | n + 1, l0, l1, l2, l3, m, o => f_X11_days_23b (f_X11_days_23 n) l0 l1 l2 l3 m o
theorem t_X11_days_23 (l : Launch) (E : En) (c0 s0 : Nat) : ∀ (n : Nat) (l0 : Nat) (l1 : Int32) (l2 : Int32) (l3 : Int32) (m : Mm) (o : Prop), Mh wI l E mi_X11_days c0 s0 23 [(0, .ref l0), (1, .int l1), (2, .int l2), (3, .int l3)] [] m o (f_X11_days_23 n l0 l1 l2 l3 m o)
  | 0, _, _, _, _, _, _ => Mh_out rfl
  | n + 1, l0, l1, l2, l3, m, o => t_X11_days_23b l E c0 s0 (f_X11_days_23 n) (t_X11_days_23 l E c0 s0 n) l0 l1 l2 l3 m o
def f_X11_days_21 (l0 : Nat) (l1 : Int32) (l2 : Int32) (m : Mm) (o : Prop) : Int32 × Mm × Prop := f_X11_days_23 1000 l0 l1 l2 (0 : Int32) m o
set_option maxRecDepth 10000 in
theorem t_X11_days_21 (l : Launch) (E : En) (c0 s0 : Nat) (l0 : Nat) (l1 : Int32) (l2 : Int32) (m : Mm) (o : Prop) : Mh wI l E mi_X11_days c0 s0 21 [(0, .ref l0), (1, .int l1), (2, .int l2)] [] m o (f_X11_days_21 l0 l1 l2 m o) := by
  refine Mh_iconst (v := 0) dX11_days_21 (by decide) ?_
  refine Mh_istore_n (lv' := [(3, .int (0 : Int32)), (0, .ref l0), (1, .int l1), (2, .int l2)]) dX11_days_22 (Nat.le_of_ble_eq_true rfl) rfl ?_
  refine Mh_sub (lv' := [(0, .ref l0), (1, .int l1), (2, .int l2), (3, .int (0 : Int32))]) [1, 2, 3, 0] rfl ?_
  exact t_X11_days_23 l E c0 s0 _ _ _ _ _ _ _
def f_X11_days_7 (l0 : Nat) (l1 : Int32) (y0 : Int32) (m : Mm) (o : Prop) : Int32 × Mm × Prop := if y0 = 0 then ((-1 : Int32), m, o) else (bnd (F_X5_forgetAmounts (gR m l0 0) m ((o ∧ (gT m l0 = 11 ∧ gR m l0 0 ≠ 0)) ∧ gT m (gR m l0 0) = 6)) (fun _ m1 o1 => f_X11_days_21 l0 l1 (0 : Int32) m1 o1))
set_option maxRecDepth 10000 in
theorem t_X11_days_7 (l : Launch) (E : En) (c0 s0 : Nat) (l0 : Nat) (l1 : Int32) (y0 : Int32) (m : Mm) (o : Prop) : Mh wI l E mi_X11_days c0 s0 7 [(0, .ref l0), (1, .int l1)] [.int y0] m o (f_X11_days_7 l0 l1 y0 m o) := by
  refine Mh_if_ne (tgt := 12) dX11_days_7 (by decide) rfl (fun _ => ?_) (fun _ => ?_)
  · refine Mh_iconst (v := 0) dX11_days_12 (by decide) ?_
    refine Mh_istore_n (lv' := [(2, .int (0 : Int32)), (0, .ref l0), (1, .int l1)]) dX11_days_13 (Nat.le_of_ble_eq_true rfl) rfl ?_
    refine Mh_aload_n 1 rfl dX11_days_14 ?_
    refine Mh_gR fd_10_0 fl_RX11_10 dX11_days_15 ?_
    refine Mh_cvU (N := mi_X5_forgetAmounts) (q := gR m l0 0) (ci := 5) (as := []) (st := []) (id) cg_yX5_forgetAmounts (by decide) rfl rfl ml_RX11_156 iv_yX5_forgetAmounts pd_yX5_forgetAmounts rfl (by decide) (Nat.le_of_ble_eq_true rfl) rfl dX11_days_18 (T_X5_forgetAmounts l E _ _ _) rfl ?_
    refine Mh_sub (lv' := [(0, .ref l0), (1, .int l1), (2, .int (0 : Int32))]) [1, 2, 0] rfl ?_
    exact t_X11_days_21 l E c0 s0 _ _ _ _ _
  · refine Mh_iconst (v := (-1)) dX11_days_10 (by decide) ?_
    exact Mh_ret dX11_days_11 rfl (fun _ => rfl) rfl
def f_X11_days_0 (l0 : Nat) (l1 : Int32) (m : Mm) (o : Prop) : Int32 × Mm × Prop := bnd (F_X11_isWithin l1 (1 : Int32) (20 : Int32) m o) (fun v1 m1 o1 => f_X11_days_7 l0 l1 v1 m1 o1)
set_option maxRecDepth 10000 in
theorem t_X11_days_0 (l : Launch) (E : En) (c0 s0 : Nat) (l0 : Nat) (l1 : Int32) (m : Mm) (o : Prop) : Mh wI l E mi_X11_days c0 s0 0 [(0, .ref l0), (1, .int l1)] [] m o (f_X11_days_0 l0 l1 m o) := by
  refine Mh_iload_n 1 rfl dX11_days_0 ?_
  refine Mh_iconst (v := 1) dX11_days_1 (by decide) ?_
  refine Mh_bipush (v := 20) dX11_days_2 (by decide) ?_
  refine Mh_csI (N := mi_X11_isWithin) (as := [.int l1, .int (1 : Int32), .int (20 : Int32)]) (st := []) cg_yX11_isWithin (.inl ml_RX11_90) sv_yX11_isWithin pd_yX11_isWithin rfl (by decide) (Nat.le_of_ble_eq_true rfl) rfl dX11_days_4 (T_X11_isWithin l E _ _ _ _ _) rfl ?_
  exact t_X11_days_7 l E c0 s0 _ _ _ _ _
def F_X11_days (a0 : Nat) (a1 : Int32) (m : Mm) (o : Prop) : Int32 × Mm × Prop := f_X11_days_0 a0 a1 m o
theorem T_X11_days (l : Launch) (E : En) (a0 : Nat) (a1 : Int32) (m : Mm) (o : Prop) : Mt wI l E yX11_days mi_X11_days [.ref a0, .int a1] m o (F_X11_days a0 a1 m o) :=
  Mt_I (by decide) rfl rfl rfl (Nat.le_of_ble_eq_true rfl) rfl (.inl rfl) (t_X11_days_0 l E _ _ _ _ _ _)
def f_X1_step_81 (m : Mm) (o : Prop) : Unit × Mm × Prop := ((), m, o)
set_option maxRecDepth 10000 in
theorem t_X1_step_81 (l : Launch) (E : En) (c0 s0 : Nat) (m : Mm) (o : Prop) : Mh wU l E mi_X1_step c0 s0 81 [] [] m o (f_X1_step_81  m o) := by
  exact Mh_ret dX1_step_81 rfl (fun _ => trivial) rfl
def f_X1_step_19 (m : Mm) (o : Prop) : Unit × Mm × Prop := f_X1_step_81  m o
set_option maxRecDepth 10000 in
theorem t_X1_step_19 (l : Launch) (E : En) (c0 s0 : Nat) (m : Mm) (o : Prop) : Mh wU l E mi_X1_step c0 s0 19 [] [] m o (f_X1_step_19  m o) := by
  refine Mh_goto (tgt := 81) dX1_step_19 (by decide) ?_
  exact t_X1_step_81 l E c0 s0  _ _
def f_X1_step_42 (m : Mm) (o : Prop) : Unit × Mm × Prop := f_X1_step_81  m o
set_option maxRecDepth 10000 in
theorem t_X1_step_42 (l : Launch) (E : En) (c0 s0 : Nat) (m : Mm) (o : Prop) : Mh wU l E mi_X1_step c0 s0 42 [] [] m o (f_X1_step_42  m o) := by
  refine Mh_goto (tgt := 81) dX1_step_42 (by decide) ?_
  exact t_X1_step_81 l E c0 s0  _ _
def f_X1_step_64 (m : Mm) (o : Prop) : Unit × Mm × Prop := f_X1_step_81  m o
set_option maxRecDepth 10000 in
theorem t_X1_step_64 (l : Launch) (E : En) (c0 s0 : Nat) (m : Mm) (o : Prop) : Mh wU l E mi_X1_step c0 s0 64 [] [] m o (f_X1_step_64  m o) := by
  refine Mh_goto (tgt := 81) dX1_step_64 (by decide) ?_
  exact t_X1_step_81 l E c0 s0  _ _
def f_X1_step_0 (l0 : Nat) (l1 : Int32) (m : Mm) (o : Prop) : Unit × Mm × Prop := if l1 = 0 then (f_X1_step_19  (sI m l0 1 (if ((gI m l0 1) + (1 : Int32)) < (9 : Int32) then ((gI m l0 1) + (1 : Int32)) else (9 : Int32))) (o ∧ gT m l0 = 2)) else (if l1 = (1 : Int32) then (f_X1_step_42  (sI m l0 0 (if ((gI m l0 0) + (1 : Int32)) < (9 : Int32) then ((gI m l0 0) + (1 : Int32)) else (9 : Int32))) (o ∧ gT m l0 = 2)) else (if l1 = (2 : Int32) then (f_X1_step_64  (sI m l0 1 (if (0 : Int32) < ((gI m l0 1) - (1 : Int32)) then ((gI m l0 1) - (1 : Int32)) else (0 : Int32))) (o ∧ gT m l0 = 2)) else (f_X1_step_81  (sI m l0 0 (if (0 : Int32) < ((gI m l0 0) - (1 : Int32)) then ((gI m l0 0) - (1 : Int32)) else (0 : Int32))) (o ∧ gT m l0 = 2))))
set_option maxRecDepth 10000 in
theorem t_X1_step_0 (l : Launch) (E : En) (c0 s0 : Nat) (l0 : Nat) (l1 : Int32) (m : Mm) (o : Prop) : Mh wU l E mi_X1_step c0 s0 0 [(0, .ref l0), (1, .int l1)] [] m o (f_X1_step_0 l0 l1 m o) := by
  refine Mh_iload_n 1 rfl dX1_step_0 ?_
  refine Mh_if_ne (tgt := 22) dX1_step_1 (by decide) rfl (fun _ => ?_) (fun _ => ?_)
  · refine Mh_iload_n 1 rfl dX1_step_22 ?_
    refine Mh_iconst (v := 1) dX1_step_23 (by decide) ?_
    refine Mh_icmp_ne (tgt := 45) dX1_step_24 (by decide) rfl (fun _ => ?_) (fun _ => ?_)
    · refine Mh_iload_n 1 rfl dX1_step_45 ?_
      refine Mh_iconst (v := 2) dX1_step_46 (by decide) ?_
      refine Mh_icmp_ne (tgt := 67) dX1_step_47 (by decide) rfl (fun _ => ?_) (fun _ => ?_)
      · refine Mh_aload_n 0 rfl dX1_step_67 ?_
        refine Mh_iconst (v := 0) dX1_step_68 (by decide) ?_
        refine Mh_aload_n 0 rfl dX1_step_69 ?_
        refine Mh_gI fd_1_0 fl_RX1_15 dX1_step_70 ?_
        refine Mh_iconst (v := 1) dX1_step_73 (by decide) ?_
        refine Mh_isub dX1_step_74 ?_
        refine Mh_max (by decide) ml_RX1_41 ma_max_1 ma_2 ma_max_3 (Nat.le_of_ble_eq_true rfl) dX1_step_75 ?_
        refine Mh_pI fd_1_0 ft_1 rfl fl_RX1_15 rfl dX1_step_78 ?_
        refine Mh_ok (fun h => h.2) ?_
        refine Mh_sub (lv' := []) [] rfl ?_
        exact t_X1_step_81 l E c0 s0  _ _
      · refine Mh_aload_n 0 rfl dX1_step_50 ?_
        refine Mh_iconst (v := 0) dX1_step_51 (by decide) ?_
        refine Mh_aload_n 0 rfl dX1_step_52 ?_
        refine Mh_gI fd_1_1 fl_RX1_19 dX1_step_53 ?_
        refine Mh_iconst (v := 1) dX1_step_56 (by decide) ?_
        refine Mh_isub dX1_step_57 ?_
        refine Mh_max (by decide) ml_RX1_41 ma_max_1 ma_2 ma_max_3 (Nat.le_of_ble_eq_true rfl) dX1_step_58 ?_
        refine Mh_pI fd_1_1 ft_1 rfl fl_RX1_19 rfl dX1_step_61 ?_
        refine Mh_ok (fun h => h.2) ?_
        refine Mh_sub (lv' := []) [] rfl ?_
        exact t_X1_step_64 l E c0 s0  _ _
    · refine Mh_aload_n 0 rfl dX1_step_27 ?_
      refine Mh_bipush (v := 9) dX1_step_28 (by decide) ?_
      refine Mh_aload_n 0 rfl dX1_step_30 ?_
      refine Mh_gI fd_1_0 fl_RX1_15 dX1_step_31 ?_
      refine Mh_iconst (v := 1) dX1_step_34 (by decide) ?_
      refine Mh_iadd dX1_step_35 ?_
      refine Mh_min (by decide) ml_RX1_37 ma_min_1 ma_2 ma_min_3 (Nat.le_of_ble_eq_true rfl) dX1_step_36 ?_
      refine Mh_pI fd_1_0 ft_1 rfl fl_RX1_15 rfl dX1_step_39 ?_
      refine Mh_ok (fun h => h.2) ?_
      refine Mh_sub (lv' := []) [] rfl ?_
      exact t_X1_step_42 l E c0 s0  _ _
  · refine Mh_aload_n 0 rfl dX1_step_4 ?_
    refine Mh_bipush (v := 9) dX1_step_5 (by decide) ?_
    refine Mh_aload_n 0 rfl dX1_step_7 ?_
    refine Mh_gI fd_1_1 fl_RX1_19 dX1_step_8 ?_
    refine Mh_iconst (v := 1) dX1_step_11 (by decide) ?_
    refine Mh_iadd dX1_step_12 ?_
    refine Mh_min (by decide) ml_RX1_37 ma_min_1 ma_2 ma_min_3 (Nat.le_of_ble_eq_true rfl) dX1_step_13 ?_
    refine Mh_pI fd_1_1 ft_1 rfl fl_RX1_19 rfl dX1_step_16 ?_
    refine Mh_ok (fun h => h.2) ?_
    refine Mh_sub (lv' := []) [] rfl ?_
    exact t_X1_step_19 l E c0 s0  _ _
def F_X1_step (a0 : Nat) (a1 : Int32) (m : Mm) (o : Prop) : Unit × Mm × Prop := f_X1_step_0 a0 a1 m o
theorem T_X1_step (l : Launch) (E : En) (a0 : Nat) (a1 : Int32) (m : Mm) (o : Prop) : Mt wU l E yX1_step mi_X1_step [.ref a0, .int a1] m o (F_X1_step a0 a1 m o) :=
  Mt_U (by decide) rfl (fun h => by cases h) rfl (Nat.le_of_ble_eq_true rfl) rfl (t_X1_step_0 l E _ _ _ _ _ _)
def f_X5_moveByChance_53 (m : Mm) (o : Prop) : Unit × Mm × Prop := ((), m, o)
set_option maxRecDepth 10000 in
theorem t_X5_moveByChance_53 (l : Launch) (E : En) (c0 s0 : Nat) (m : Mm) (o : Prop) : Mh wU l E mi_X5_moveByChance c0 s0 53 [] [] m o (f_X5_moveByChance_53  m o) := by
  exact Mh_ret dX5_moveByChance_53 rfl (fun _ => trivial) rfl
def f_X5_moveByChance_19 (l0 : Nat) (m : Mm) (o : Prop) : Unit × Mm × Prop := if (gI m l0 7) ≤ (irm (gI m l0 11) (16 : Int32)) then (f_X5_moveByChance_53  m (o ∧ gT m l0 = 6)) else (bnd (F_X1_step (gR m (gR m l0 1) (ix (irm (gI m l0 11) (16 : Int32)))) (irm ((gI m l0 11) / (16 : Int32)) (4 : Int32)) m ((((o ∧ gT m l0 = 6) ∧ (gT m l0 = 6 ∧ gR m l0 1 ≠ 0)) ∧ (gT m (gR m l0 1) = 25 ∧ vp_in (irm (gI m l0 11) (16 : Int32)) (gN m (gR m l0 1)) ∧ gR m (gR m l0 1) (ix (irm (gI m l0 11) (16 : Int32))) ≠ 0)) ∧ gT m (gR m (gR m l0 1) (ix (irm (gI m l0 11) (16 : Int32)))) = 2)) (fun _ m1 o1 => f_X5_moveByChance_53  m1 o1))
set_option maxRecDepth 10000 in
theorem t_X5_moveByChance_19 (l : Launch) (E : En) (c0 s0 : Nat) (l0 : Nat) (m : Mm) (o : Prop) : Mh wU l E mi_X5_moveByChance c0 s0 19 [(0, .ref l0)] [] m o (f_X5_moveByChance_19 l0 m o) := by
  refine Mh_aload_n 0 rfl dX5_moveByChance_19 ?_
  refine Mh_gI fd_5_11 fl_RX5_43 dX5_moveByChance_20 ?_
  refine Mh_bipush (v := 16) dX5_moveByChance_23 (by decide) ?_
  refine Mh_irem dX5_moveByChance_25 ?_
  refine Mh_ok (fun _ => by decide) ?_
  refine Mh_istore_n (lv' := [(1, .int (irm (gI m l0 11) (16 : Int32))), (0, .ref l0)]) dX5_moveByChance_26 (Nat.le_of_ble_eq_true rfl) rfl ?_
  refine Mh_iload_n 0 rfl dX5_moveByChance_27 ?_
  refine Mh_aload_n 1 rfl dX5_moveByChance_28 ?_
  refine Mh_gI fd_5_7 fl_RX5_51 dX5_moveByChance_29 ?_
  refine Mh_ok (fun h => h.2) ?_
  refine Mh_icmp_ge (tgt := 53) dX5_moveByChance_32 (by decide) rfl (fun _ => ?_) (fun _ => ?_)
  · refine Mh_sub (lv' := []) [] rfl ?_
    exact t_X5_moveByChance_53 l E c0 s0  _ _
  · refine Mh_aload_n 1 rfl dX5_moveByChance_35 ?_
    refine Mh_gR fd_5_1 fl_RX5_19 dX5_moveByChance_36 ?_
    refine Mh_iload_n 0 rfl dX5_moveByChance_39 ?_
    refine Mh_aal 25 (.inr rfl) dX5_moveByChance_40 ?_
    refine Mh_aload_n 1 rfl dX5_moveByChance_41 ?_
    refine Mh_gI fd_5_11 fl_RX5_43 dX5_moveByChance_42 ?_
    refine Mh_ok (fun h => h.1.1.2) ?_
    refine Mh_bipush (v := 16) dX5_moveByChance_45 (by decide) ?_
    refine Mh_idiv dX5_moveByChance_47 ?_
    refine Mh_ok (fun _ => by decide) ?_
    refine Mh_iconst (v := 4) dX5_moveByChance_48 (by decide) ?_
    refine Mh_irem dX5_moveByChance_49 ?_
    refine Mh_ok (fun _ => by decide) ?_
    refine Mh_cvU (N := mi_X1_step) (q := gR m (gR m l0 1) (ix (irm (gI m l0 11) (16 : Int32)))) (ci := 1) (as := [.int (irm ((gI m l0 11) / (16 : Int32)) (4 : Int32))]) (st := []) (id) cg_yX1_step (by decide) rfl rfl ml_RX5_144 iv_yX1_step pd_yX1_step rfl (by decide) (Nat.le_of_ble_eq_true rfl) rfl dX5_moveByChance_50 (T_X1_step l E _ _ _ _) rfl ?_
    refine Mh_sub (lv' := []) [] rfl ?_
    exact t_X5_moveByChance_53 l E c0 s0  _ _
def f_X5_moveByChance_0 (l0 : Nat) (m : Mm) (o : Prop) : Unit × Mm × Prop := f_X5_moveByChance_19 l0 (sI m l0 11 (irm (((25173 : Int32) * (gI m l0 11)) + (13849 : Int32)) (65536 : Int32))) (o ∧ gT m l0 = 6)
set_option maxRecDepth 10000 in
theorem t_X5_moveByChance_0 (l : Launch) (E : En) (c0 s0 : Nat) (l0 : Nat) (m : Mm) (o : Prop) : Mh wU l E mi_X5_moveByChance c0 s0 0 [(0, .ref l0)] [] m o (f_X5_moveByChance_0 l0 m o) := by
  refine Mh_aload_n 0 rfl dX5_moveByChance_0 ?_
  refine Mh_sipush (v := 25173) dX5_moveByChance_1 (by decide) ?_
  refine Mh_aload_n 0 rfl dX5_moveByChance_4 ?_
  refine Mh_gI fd_5_11 fl_RX5_43 dX5_moveByChance_5 ?_
  refine Mh_imul dX5_moveByChance_8 ?_
  refine Mh_sipush (v := 13849) dX5_moveByChance_9 (by decide) ?_
  refine Mh_iadd dX5_moveByChance_12 ?_
  refine Mh_ldc (v := 65536) gc_RX5_143 dX5_moveByChance_13 ?_
  refine Mh_irem dX5_moveByChance_15 ?_
  refine Mh_ok (fun _ => by decide) ?_
  refine Mh_pI fd_5_11 ft_5 rfl fl_RX5_43 rfl dX5_moveByChance_16 ?_
  refine Mh_ok (fun h => h.2) ?_
  exact t_X5_moveByChance_19 l E c0 s0 _ _ _
def F_X5_moveByChance (a0 : Nat) (m : Mm) (o : Prop) : Unit × Mm × Prop := f_X5_moveByChance_0 a0 m o
theorem T_X5_moveByChance (l : Launch) (E : En) (a0 : Nat) (m : Mm) (o : Prop) : Mt wU l E yX5_moveByChance mi_X5_moveByChance [.ref a0] m o (F_X5_moveByChance a0 m o) :=
  Mt_U (by decide) rfl (fun h => by cases h) rfl (Nat.le_of_ble_eq_true rfl) rfl (t_X5_moveByChance_0 l E _ _ _ _ _)
def f_X11_draw_47 (k16 : Nat → Int32 → Int32 → Int32 → Mm → Prop → Int32 × Mm × Prop) (l0 : Nat) (l1 : Int32) (l3 : Int32) (y1 : Int32) (y0 : Int32) (m : Mm) (o : Prop) : Int32 × Mm × Prop := k16 l0 l1 (y0 + y1) (l3 + 1) m o
set_option maxRecDepth 10000 in
theorem t_X11_draw_47 (l : Launch) (E : En) (c0 s0 : Nat) (k16 : Nat → Int32 → Int32 → Int32 → Mm → Prop → Int32 × Mm × Prop) (hk16 : ∀ (l0 : Nat) (l1 : Int32) (l2 : Int32) (l3 : Int32) (m : Mm) (o : Prop), Mh wI l E mi_X11_draw c0 s0 16 [(0, .ref l0), (1, .int l1), (2, .int l2), (3, .int l3)] [] m o (k16 l0 l1 l2 l3 m o)) (l0 : Nat) (l1 : Int32) (l3 : Int32) (y1 : Int32) (y0 : Int32) (m : Mm) (o : Prop) : Mh wI l E mi_X11_draw c0 s0 47 [(0, .ref l0), (1, .int l1), (3, .int l3)] [.int y1, .int y0] m o (f_X11_draw_47 k16 l0 l1 l3 y1 y0 m o) := by
  refine Mh_iadd dX11_draw_47 ?_
  refine Mh_istore_n (lv' := [(2, .int (y0 + y1)), (0, .ref l0), (1, .int l1), (3, .int l3)]) dX11_draw_48 (Nat.le_of_ble_eq_true rfl) rfl ?_
  refine Mh_iinc (v := l3 + 1) (lv' := [(3, .int (l3 + 1)), (2, .int (y0 + y1)), (0, .ref l0), (1, .int l1)]) 3 dX11_draw_49 rfl rfl (Nat.le_of_ble_eq_true rfl) rfl ?_
  refine Mh_goto (tgt := 16) dX11_draw_52 (by decide) ?_
  refine Mh_sub (lv' := [(0, .ref l0), (1, .int l1), (2, .int (y0 + y1)), (3, .int (l3 + 1))]) [2, 3, 1, 0] rfl ?_
  exact hk16 _ _ _ _ _ _
def f_X11_draw_35 (k16 : Nat → Int32 → Int32 → Int32 → Mm → Prop → Int32 × Mm × Prop) (l0 : Nat) (l1 : Int32) (l2 : Int32) (l3 : Int32) (m : Mm) (o : Prop) : Int32 × Mm × Prop := bnd (F_X5_passDay (gR m l0 0) (gR m l0 9) m (((o ∧ (gT m l0 = 11 ∧ gR m l0 0 ≠ 0)) ∧ (gT m l0 = 11 ∧ gR m l0 9 ≠ 0)) ∧ gT m (gR m l0 0) = 6)) (fun v1 m1 o1 => f_X11_draw_47 k16 l0 l1 l3 v1 l2 m1 o1)
set_option maxRecDepth 10000 in
theorem t_X11_draw_35 (l : Launch) (E : En) (c0 s0 : Nat) (k16 : Nat → Int32 → Int32 → Int32 → Mm → Prop → Int32 × Mm × Prop) (hk16 : ∀ (l0 : Nat) (l1 : Int32) (l2 : Int32) (l3 : Int32) (m : Mm) (o : Prop), Mh wI l E mi_X11_draw c0 s0 16 [(0, .ref l0), (1, .int l1), (2, .int l2), (3, .int l3)] [] m o (k16 l0 l1 l2 l3 m o)) (l0 : Nat) (l1 : Int32) (l2 : Int32) (l3 : Int32) (m : Mm) (o : Prop) : Mh wI l E mi_X11_draw c0 s0 35 [(0, .ref l0), (1, .int l1), (2, .int l2), (3, .int l3)] [] m o (f_X11_draw_35 k16 l0 l1 l2 l3 m o) := by
  refine Mh_iload_n 2 rfl dX11_draw_35 ?_
  refine Mh_aload_n 0 rfl dX11_draw_36 ?_
  refine Mh_gR fd_10_0 fl_RX11_10 dX11_draw_37 ?_
  refine Mh_aload_n 0 rfl dX11_draw_40 ?_
  refine Mh_gR fd_10_9 fl_RX11_71 dX11_draw_41 ?_
  refine Mh_cvI (N := mi_X5_passDay) (q := gR m l0 0) (ci := 5) (as := [.ref (gR m l0 9)]) (st := [.int l2]) (id) cg_yX5_passDay (by decide) rfl rfl ml_RX11_162 iv_yX5_passDay pd_yX5_passDay rfl (by decide) (Nat.le_of_ble_eq_true rfl) rfl dX11_draw_44 (T_X5_passDay l E _ _ _ _) rfl ?_
  refine Mh_sub (lv' := [(0, .ref l0), (1, .int l1), (3, .int l3)]) [0, 1, 3] rfl ?_
  exact t_X11_draw_47 l E c0 s0 k16 hk16 _ _ _ _ _ _ _
def f_X11_draw_28 (k16 : Nat → Int32 → Int32 → Int32 → Mm → Prop → Int32 × Mm × Prop) (l0 : Nat) (l1 : Int32) (l2 : Int32) (l3 : Int32) (m : Mm) (o : Prop) : Int32 × Mm × Prop := bnd (F_X5_forgetAmounts (gR m l0 0) m ((o ∧ (gT m l0 = 11 ∧ gR m l0 0 ≠ 0)) ∧ gT m (gR m l0 0) = 6)) (fun _ m1 o1 => f_X11_draw_35 k16 l0 l1 l2 l3 m1 o1)
set_option maxRecDepth 10000 in
theorem t_X11_draw_28 (l : Launch) (E : En) (c0 s0 : Nat) (k16 : Nat → Int32 → Int32 → Int32 → Mm → Prop → Int32 × Mm × Prop) (hk16 : ∀ (l0 : Nat) (l1 : Int32) (l2 : Int32) (l3 : Int32) (m : Mm) (o : Prop), Mh wI l E mi_X11_draw c0 s0 16 [(0, .ref l0), (1, .int l1), (2, .int l2), (3, .int l3)] [] m o (k16 l0 l1 l2 l3 m o)) (l0 : Nat) (l1 : Int32) (l2 : Int32) (l3 : Int32) (m : Mm) (o : Prop) : Mh wI l E mi_X11_draw c0 s0 28 [(0, .ref l0), (1, .int l1), (2, .int l2), (3, .int l3)] [] m o (f_X11_draw_28 k16 l0 l1 l2 l3 m o) := by
  refine Mh_aload_n 0 rfl dX11_draw_28 ?_
  refine Mh_gR fd_10_0 fl_RX11_10 dX11_draw_29 ?_
  refine Mh_cvU (N := mi_X5_forgetAmounts) (q := gR m l0 0) (ci := 5) (as := []) (st := []) (id) cg_yX5_forgetAmounts (by decide) rfl rfl ml_RX11_156 iv_yX5_forgetAmounts pd_yX5_forgetAmounts rfl (by decide) (Nat.le_of_ble_eq_true rfl) rfl dX11_draw_32 (T_X5_forgetAmounts l E _ _ _) rfl ?_
  exact t_X11_draw_35 l E c0 s0 k16 hk16 _ _ _ _ _ _
def f_X11_draw_16b (k16 : Nat → Int32 → Int32 → Int32 → Mm → Prop → Int32 × Mm × Prop) (l0 : Nat) (l1 : Int32) (l2 : Int32) (l3 : Int32) (m : Mm) (o : Prop) : Int32 × Mm × Prop := if l1 ≤ l3 then (l2, m, o) else (bnd (F_X5_moveByChance (gR m l0 0) m ((o ∧ (gT m l0 = 11 ∧ gR m l0 0 ≠ 0)) ∧ gT m (gR m l0 0) = 6)) (fun _ m1 o1 => f_X11_draw_28 k16 l0 l1 l2 l3 m1 o1))
set_option maxRecDepth 10000 in
theorem t_X11_draw_16b (l : Launch) (E : En) (c0 s0 : Nat) (k16 : Nat → Int32 → Int32 → Int32 → Mm → Prop → Int32 × Mm × Prop) (hk16 : ∀ (l0 : Nat) (l1 : Int32) (l2 : Int32) (l3 : Int32) (m : Mm) (o : Prop), Mh wI l E mi_X11_draw c0 s0 16 [(0, .ref l0), (1, .int l1), (2, .int l2), (3, .int l3)] [] m o (k16 l0 l1 l2 l3 m o)) (l0 : Nat) (l1 : Int32) (l2 : Int32) (l3 : Int32) (m : Mm) (o : Prop) : Mh wI l E mi_X11_draw c0 s0 16 [(0, .ref l0), (1, .int l1), (2, .int l2), (3, .int l3)] [] m o (f_X11_draw_16b k16 l0 l1 l2 l3 m o) := by
  refine Mh_iload_n 3 rfl dX11_draw_16 ?_
  refine Mh_iload_n 1 rfl dX11_draw_17 ?_
  refine Mh_icmp_ge (tgt := 55) dX11_draw_18 (by decide) rfl (fun _ => ?_) (fun _ => ?_)
  · refine Mh_iload_n 2 rfl dX11_draw_55 ?_
    exact Mh_ret dX11_draw_56 rfl (fun _ => rfl) rfl
  · refine Mh_aload_n 0 rfl dX11_draw_21 ?_
    refine Mh_gR fd_10_0 fl_RX11_10 dX11_draw_22 ?_
    refine Mh_cvU (N := mi_X5_moveByChance) (q := gR m l0 0) (ci := 5) (as := []) (st := []) (id) cg_yX5_moveByChance (by decide) rfl rfl ml_RX11_302 iv_yX5_moveByChance pd_yX5_moveByChance rfl (by decide) (Nat.le_of_ble_eq_true rfl) rfl dX11_draw_25 (T_X5_moveByChance l E _ _ _) rfl ?_
    exact t_X11_draw_28 l E c0 s0 k16 hk16 _ _ _ _ _ _
def f_X11_draw_16 : Nat → Nat → Int32 → Int32 → Int32 → Mm → Prop → Int32 × Mm × Prop
  | 0, _, _, _, _, m, _ => (0, m, False)
  | n + 1, l0, l1, l2, l3, m, o => f_X11_draw_16b (f_X11_draw_16 n) l0 l1 l2 l3 m o
theorem t_X11_draw_16 (l : Launch) (E : En) (c0 s0 : Nat) : ∀ (n : Nat) (l0 : Nat) (l1 : Int32) (l2 : Int32) (l3 : Int32) (m : Mm) (o : Prop), Mh wI l E mi_X11_draw c0 s0 16 [(0, .ref l0), (1, .int l1), (2, .int l2), (3, .int l3)] [] m o (f_X11_draw_16 n l0 l1 l2 l3 m o)
  | 0, _, _, _, _, _, _ => Mh_out rfl
  | n + 1, l0, l1, l2, l3, m, o => t_X11_draw_16b l E c0 s0 (f_X11_draw_16 n) (t_X11_draw_16 l E c0 s0 n) l0 l1 l2 l3 m o
def f_X11_draw_7 (l0 : Nat) (l1 : Int32) (y0 : Int32) (m : Mm) (o : Prop) : Int32 × Mm × Prop := if y0 = 0 then ((-1 : Int32), m, o) else (f_X11_draw_16 1000 l0 l1 (0 : Int32) (0 : Int32) m o)
set_option maxRecDepth 10000 in
theorem t_X11_draw_7 (l : Launch) (E : En) (c0 s0 : Nat) (l0 : Nat) (l1 : Int32) (y0 : Int32) (m : Mm) (o : Prop) : Mh wI l E mi_X11_draw c0 s0 7 [(0, .ref l0), (1, .int l1)] [.int y0] m o (f_X11_draw_7 l0 l1 y0 m o) := by
  refine Mh_if_ne (tgt := 12) dX11_draw_7 (by decide) rfl (fun _ => ?_) (fun _ => ?_)
  · refine Mh_iconst (v := 0) dX11_draw_12 (by decide) ?_
    refine Mh_istore_n (lv' := [(2, .int (0 : Int32)), (0, .ref l0), (1, .int l1)]) dX11_draw_13 (Nat.le_of_ble_eq_true rfl) rfl ?_
    refine Mh_iconst (v := 0) dX11_draw_14 (by decide) ?_
    refine Mh_istore_n (lv' := [(3, .int (0 : Int32)), (2, .int (0 : Int32)), (0, .ref l0), (1, .int l1)]) dX11_draw_15 (Nat.le_of_ble_eq_true rfl) rfl ?_
    refine Mh_sub (lv' := [(0, .ref l0), (1, .int l1), (2, .int (0 : Int32)), (3, .int (0 : Int32))]) [2, 3, 1, 0] rfl ?_
    exact t_X11_draw_16 l E c0 s0 _ _ _ _ _ _ _
  · refine Mh_iconst (v := (-1)) dX11_draw_10 (by decide) ?_
    exact Mh_ret dX11_draw_11 rfl (fun _ => rfl) rfl
def f_X11_draw_0 (l0 : Nat) (l1 : Int32) (m : Mm) (o : Prop) : Int32 × Mm × Prop := bnd (F_X11_isWithin l1 (1 : Int32) (20 : Int32) m o) (fun v1 m1 o1 => f_X11_draw_7 l0 l1 v1 m1 o1)
set_option maxRecDepth 10000 in
theorem t_X11_draw_0 (l : Launch) (E : En) (c0 s0 : Nat) (l0 : Nat) (l1 : Int32) (m : Mm) (o : Prop) : Mh wI l E mi_X11_draw c0 s0 0 [(0, .ref l0), (1, .int l1)] [] m o (f_X11_draw_0 l0 l1 m o) := by
  refine Mh_iload_n 1 rfl dX11_draw_0 ?_
  refine Mh_iconst (v := 1) dX11_draw_1 (by decide) ?_
  refine Mh_bipush (v := 20) dX11_draw_2 (by decide) ?_
  refine Mh_csI (N := mi_X11_isWithin) (as := [.int l1, .int (1 : Int32), .int (20 : Int32)]) (st := []) cg_yX11_isWithin (.inl ml_RX11_90) sv_yX11_isWithin pd_yX11_isWithin rfl (by decide) (Nat.le_of_ble_eq_true rfl) rfl dX11_draw_4 (T_X11_isWithin l E _ _ _ _ _) rfl ?_
  exact t_X11_draw_7 l E c0 s0 _ _ _ _ _
def F_X11_draw (a0 : Nat) (a1 : Int32) (m : Mm) (o : Prop) : Int32 × Mm × Prop := f_X11_draw_0 a0 a1 m o
theorem T_X11_draw (l : Launch) (E : En) (a0 : Nat) (a1 : Int32) (m : Mm) (o : Prop) : Mt wI l E yX11_draw mi_X11_draw [.ref a0, .int a1] m o (F_X11_draw a0 a1 m o) :=
  Mt_I (by decide) rfl rfl rfl (Nat.le_of_ble_eq_true rfl) rfl (.inl rfl) (t_X11_draw_0 l E _ _ _ _ _ _)
def f_X11_eaten_26 (m : Mm) (o : Prop) : Int32 × Mm × Prop := ((-2 : Int32), m, o)
set_option maxRecDepth 10000 in
theorem t_X11_eaten_26 (l : Launch) (E : En) (c0 s0 : Nat) (m : Mm) (o : Prop) : Mh wI l E mi_X11_eaten c0 s0 26 [] [] m o (f_X11_eaten_26  m o) := by
  refine Mh_bipush (v := (-2)) dX11_eaten_26 (by decide) ?_
  exact Mh_ret dX11_eaten_28 rfl (fun _ => rfl) rfl
def f_X11_eaten_109b (k98 : Nat → Int32 → Int32 → Int32 → Int32 → Int32 → Mm → Prop → Int32 × Mm × Prop) (k109 : Nat → Int32 → Int32 → Int32 → Int32 → Int32 → Int32 → Mm → Prop → Int32 × Mm × Prop) (l0 : Nat) (l4 : Int32) (l5 : Int32) (l6 : Int32) (l7 : Int32) (l8 : Int32) (l9 : Int32) (m : Mm) (o : Prop) : Int32 × Mm × Prop := if l6 < l9 then (k98 l0 l4 l5 l6 l7 (l8 + 1) m o) else (k109 l0 l4 l5 l6 (l7 + (gI m (gR m (gR m (gR m (gR m l0 0) 0) (ix l8)) 8) (ix l9))) l8 (l9 + 1) m (((((o ∧ (gT m l0 = 11 ∧ gR m l0 0 ≠ 0)) ∧ (gT m (gR m l0 0) = 6 ∧ gR m (gR m l0 0) 0 ≠ 0)) ∧ (gT m (gR m (gR m l0 0) 0) = 24 ∧ vp_in l8 (gN m (gR m (gR m l0 0) 0)) ∧ gR m (gR m (gR m l0 0) 0) (ix l8) ≠ 0)) ∧ (gT m (gR m (gR m (gR m l0 0) 0) (ix l8)) = 8 ∧ gR m (gR m (gR m (gR m l0 0) 0) (ix l8)) 8 ≠ 0)) ∧ (gT m (gR m (gR m (gR m (gR m l0 0) 0) (ix l8)) 8) = 20 ∧ vp_in l9 (gN m (gR m (gR m (gR m (gR m l0 0) 0) (ix l8)) 8)))))
set_option maxRecDepth 10000 in
theorem t_X11_eaten_109b (l : Launch) (E : En) (c0 s0 : Nat) (k98 : Nat → Int32 → Int32 → Int32 → Int32 → Int32 → Mm → Prop → Int32 × Mm × Prop) (hk98 : ∀ (l0 : Nat) (l4 : Int32) (l5 : Int32) (l6 : Int32) (l7 : Int32) (l8 : Int32) (m : Mm) (o : Prop), Mh wI l E mi_X11_eaten c0 s0 98 [(0, .ref l0), (4, .int l4), (5, .int l5), (6, .int l6), (7, .int l7), (8, .int l8)] [] m o (k98 l0 l4 l5 l6 l7 l8 m o)) (k109 : Nat → Int32 → Int32 → Int32 → Int32 → Int32 → Int32 → Mm → Prop → Int32 × Mm × Prop) (hk109 : ∀ (l0 : Nat) (l4 : Int32) (l5 : Int32) (l6 : Int32) (l7 : Int32) (l8 : Int32) (l9 : Int32) (m : Mm) (o : Prop), Mh wI l E mi_X11_eaten c0 s0 109 [(0, .ref l0), (4, .int l4), (5, .int l5), (6, .int l6), (7, .int l7), (8, .int l8), (9, .int l9)] [] m o (k109 l0 l4 l5 l6 l7 l8 l9 m o)) (l0 : Nat) (l4 : Int32) (l5 : Int32) (l6 : Int32) (l7 : Int32) (l8 : Int32) (l9 : Int32) (m : Mm) (o : Prop) : Mh wI l E mi_X11_eaten c0 s0 109 [(0, .ref l0), (4, .int l4), (5, .int l5), (6, .int l6), (7, .int l7), (8, .int l8), (9, .int l9)] [] m o (f_X11_eaten_109b k98 k109 l0 l4 l5 l6 l7 l8 l9 m o) := by
  refine Mh_iload 6 rfl dX11_eaten_109 ?_
  refine Mh_iload 3 rfl dX11_eaten_111 ?_
  refine Mh_icmp_gt (tgt := 143) dX11_eaten_113 (by decide) rfl (fun _ => ?_) (fun _ => ?_)
  · refine Mh_iinc (v := l8 + 1) (lv' := [(8, .int (l8 + 1)), (0, .ref l0), (4, .int l4), (5, .int l5), (6, .int l6), (7, .int l7), (9, .int l9)]) 5 dX11_eaten_143 rfl rfl (Nat.le_of_ble_eq_true rfl) rfl ?_
    refine Mh_goto (tgt := 98) dX11_eaten_146 (by decide) ?_
    refine Mh_sub (lv' := [(0, .ref l0), (4, .int l4), (5, .int l5), (6, .int l6), (7, .int l7), (8, .int (l8 + 1))]) [1, 2, 3, 4, 5, 0] rfl ?_
    exact hk98 _ _ _ _ _ _ _ _
  · refine Mh_iload 4 rfl dX11_eaten_116 ?_
    refine Mh_aload_n 0 rfl dX11_eaten_118 ?_
    refine Mh_gR fd_10_0 fl_RX11_10 dX11_eaten_119 ?_
    refine Mh_gR fd_5_0 fl_RX11_101 dX11_eaten_122 ?_
    refine Mh_iload 5 rfl dX11_eaten_125 ?_
    refine Mh_aal 24 (.inl rfl) dX11_eaten_127 ?_
    refine Mh_gR fd_7_8 fl_RX11_217 dX11_eaten_128 ?_
    refine Mh_iload 6 rfl dX11_eaten_131 ?_
    refine Mh_ial dX11_eaten_133 ?_
    refine Mh_iadd dX11_eaten_134 ?_
    refine Mh_istore (lv' := [(7, .int (l7 + (gI m (gR m (gR m (gR m (gR m l0 0) 0) (ix l8)) 8) (ix l9)))), (0, .ref l0), (4, .int l4), (5, .int l5), (6, .int l6), (8, .int l8), (9, .int l9)]) dX11_eaten_135 (Nat.le_of_ble_eq_true rfl) rfl ?_
    refine Mh_iinc (v := l9 + 1) (lv' := [(9, .int (l9 + 1)), (7, .int (l7 + (gI m (gR m (gR m (gR m (gR m l0 0) 0) (ix l8)) 8) (ix l9)))), (0, .ref l0), (4, .int l4), (5, .int l5), (6, .int l6), (8, .int l8)]) 6 dX11_eaten_137 rfl rfl (Nat.le_of_ble_eq_true rfl) rfl ?_
    refine Mh_goto (tgt := 109) dX11_eaten_140 (by decide) ?_
    refine Mh_sub (lv' := [(0, .ref l0), (4, .int l4), (5, .int l5), (6, .int l6), (7, .int (l7 + (gI m (gR m (gR m (gR m (gR m l0 0) 0) (ix l8)) 8) (ix l9)))), (8, .int l8), (9, .int (l9 + 1))]) [2, 3, 4, 5, 1, 6, 0] rfl ?_
    exact hk109 _ _ _ _ _ _ _ _ _
def f_X11_eaten_109 (k98 : Nat → Int32 → Int32 → Int32 → Int32 → Int32 → Mm → Prop → Int32 × Mm × Prop) : Nat → Nat → Int32 → Int32 → Int32 → Int32 → Int32 → Int32 → Mm → Prop → Int32 × Mm × Prop
  | 0, _, _, _, _, _, _, _, m, _ => (0, m, False)
  | n + 1, l0, l4, l5, l6, l7, l8, l9, m, o => f_X11_eaten_109b k98 (f_X11_eaten_109 k98 n) l0 l4 l5 l6 l7 l8 l9 m o
theorem t_X11_eaten_109 (l : Launch) (E : En) (c0 s0 : Nat) (k98 : Nat → Int32 → Int32 → Int32 → Int32 → Int32 → Mm → Prop → Int32 × Mm × Prop) (hk98 : ∀ (l0 : Nat) (l4 : Int32) (l5 : Int32) (l6 : Int32) (l7 : Int32) (l8 : Int32) (m : Mm) (o : Prop), Mh wI l E mi_X11_eaten c0 s0 98 [(0, .ref l0), (4, .int l4), (5, .int l5), (6, .int l6), (7, .int l7), (8, .int l8)] [] m o (k98 l0 l4 l5 l6 l7 l8 m o)) : ∀ (n : Nat) (l0 : Nat) (l4 : Int32) (l5 : Int32) (l6 : Int32) (l7 : Int32) (l8 : Int32) (l9 : Int32) (m : Mm) (o : Prop), Mh wI l E mi_X11_eaten c0 s0 109 [(0, .ref l0), (4, .int l4), (5, .int l5), (6, .int l6), (7, .int l7), (8, .int l8), (9, .int l9)] [] m o (f_X11_eaten_109 k98 n l0 l4 l5 l6 l7 l8 l9 m o)
  | 0, _, _, _, _, _, _, _, _, _ => Mh_out rfl
  | n + 1, l0, l4, l5, l6, l7, l8, l9, m, o => t_X11_eaten_109b l E c0 s0 k98 hk98 (f_X11_eaten_109 k98 n) (t_X11_eaten_109 l E c0 s0 k98 hk98 n) l0 l4 l5 l6 l7 l8 l9 m o
def f_X11_eaten_98b (k98 : Nat → Int32 → Int32 → Int32 → Int32 → Int32 → Mm → Prop → Int32 × Mm × Prop) (l0 : Nat) (l4 : Int32) (l5 : Int32) (l6 : Int32) (l7 : Int32) (l8 : Int32) (m : Mm) (o : Prop) : Int32 × Mm × Prop := if l4 < l8 then (l7, m, o) else (f_X11_eaten_109 k98 1000 l0 l4 l5 l6 l7 l8 l5 m o)
set_option maxRecDepth 10000 in
theorem t_X11_eaten_98b (l : Launch) (E : En) (c0 s0 : Nat) (k98 : Nat → Int32 → Int32 → Int32 → Int32 → Int32 → Mm → Prop → Int32 × Mm × Prop) (hk98 : ∀ (l0 : Nat) (l4 : Int32) (l5 : Int32) (l6 : Int32) (l7 : Int32) (l8 : Int32) (m : Mm) (o : Prop), Mh wI l E mi_X11_eaten c0 s0 98 [(0, .ref l0), (4, .int l4), (5, .int l5), (6, .int l6), (7, .int l7), (8, .int l8)] [] m o (k98 l0 l4 l5 l6 l7 l8 m o)) (l0 : Nat) (l4 : Int32) (l5 : Int32) (l6 : Int32) (l7 : Int32) (l8 : Int32) (m : Mm) (o : Prop) : Mh wI l E mi_X11_eaten c0 s0 98 [(0, .ref l0), (4, .int l4), (5, .int l5), (6, .int l6), (7, .int l7), (8, .int l8)] [] m o (f_X11_eaten_98b k98 l0 l4 l5 l6 l7 l8 m o) := by
  refine Mh_iload 5 rfl dX11_eaten_98 ?_
  refine Mh_iload 1 rfl dX11_eaten_100 ?_
  refine Mh_icmp_gt (tgt := 149) dX11_eaten_102 (by decide) rfl (fun _ => ?_) (fun _ => ?_)
  · refine Mh_iload 4 rfl dX11_eaten_149 ?_
    exact Mh_ret dX11_eaten_151 rfl (fun _ => rfl) rfl
  · refine Mh_iload 2 rfl dX11_eaten_105 ?_
    refine Mh_istore (lv' := [(9, .int l5), (0, .ref l0), (4, .int l4), (5, .int l5), (6, .int l6), (7, .int l7), (8, .int l8)]) dX11_eaten_107 (Nat.le_of_ble_eq_true rfl) rfl ?_
    refine Mh_sub (lv' := [(0, .ref l0), (4, .int l4), (5, .int l5), (6, .int l6), (7, .int l7), (8, .int l8), (9, .int l5)]) [1, 2, 3, 4, 5, 6, 0] rfl ?_
    exact t_X11_eaten_109 l E c0 s0 k98 hk98 _ _ _ _ _ _ _ _ _ _
def f_X11_eaten_98 : Nat → Nat → Int32 → Int32 → Int32 → Int32 → Int32 → Mm → Prop → Int32 × Mm × Prop
  | 0, _, _, _, _, _, _, m, _ => (0, m, False)
  | n + 1, l0, l4, l5, l6, l7, l8, m, o => f_X11_eaten_98b (f_X11_eaten_98 n) l0 l4 l5 l6 l7 l8 m o
theorem t_X11_eaten_98 (l : Launch) (E : En) (c0 s0 : Nat) : ∀ (n : Nat) (l0 : Nat) (l4 : Int32) (l5 : Int32) (l6 : Int32) (l7 : Int32) (l8 : Int32) (m : Mm) (o : Prop), Mh wI l E mi_X11_eaten c0 s0 98 [(0, .ref l0), (4, .int l4), (5, .int l5), (6, .int l6), (7, .int l7), (8, .int l8)] [] m o (f_X11_eaten_98 n l0 l4 l5 l6 l7 l8 m o)
  | 0, _, _, _, _, _, _, _, _ => Mh_out rfl
  | n + 1, l0, l4, l5, l6, l7, l8, m, o => t_X11_eaten_98b l E c0 s0 (f_X11_eaten_98 n) (t_X11_eaten_98 l E c0 s0 n) l0 l4 l5 l6 l7 l8 m o
def f_X11_eaten_90 (l0 : Nat) (l3 : Int32) (l4 : Int32) (l5 : Int32) (y0 : Int32) (m : Mm) (o : Prop) : Int32 × Mm × Prop := f_X11_eaten_98 1000 l0 l4 l5 y0 (0 : Int32) l3 m o
set_option maxRecDepth 10000 in
theorem t_X11_eaten_90 (l : Launch) (E : En) (c0 s0 : Nat) (l0 : Nat) (l3 : Int32) (l4 : Int32) (l5 : Int32) (y0 : Int32) (m : Mm) (o : Prop) : Mh wI l E mi_X11_eaten c0 s0 90 [(0, .ref l0), (3, .int l3), (4, .int l4), (5, .int l5)] [.int y0] m o (f_X11_eaten_90 l0 l3 l4 l5 y0 m o) := by
  refine Mh_istore (lv' := [(6, .int y0), (0, .ref l0), (3, .int l3), (4, .int l4), (5, .int l5)]) dX11_eaten_90 (Nat.le_of_ble_eq_true rfl) rfl ?_
  refine Mh_iconst (v := 0) dX11_eaten_92 (by decide) ?_
  refine Mh_istore (lv' := [(7, .int (0 : Int32)), (6, .int y0), (0, .ref l0), (3, .int l3), (4, .int l4), (5, .int l5)]) dX11_eaten_93 (Nat.le_of_ble_eq_true rfl) rfl ?_
  refine Mh_iload_n 3 rfl dX11_eaten_95 ?_
  refine Mh_istore (lv' := [(8, .int l3), (7, .int (0 : Int32)), (6, .int y0), (0, .ref l0), (3, .int l3), (4, .int l4), (5, .int l5)]) dX11_eaten_96 (Nat.le_of_ble_eq_true rfl) rfl ?_
  refine Mh_sub (lv' := [(0, .ref l0), (4, .int l4), (5, .int l5), (6, .int y0), (7, .int (0 : Int32)), (8, .int l3)]) [3, 5, 6, 2, 1, 0] rfl ?_
  exact t_X11_eaten_98 l E c0 s0 _ _ _ _ _ _ _ _ _
def f_X11_eaten_70 (l0 : Nat) (l2 : Int32) (l3 : Int32) (l4 : Int32) (y0 : Int32) (m : Mm) (o : Prop) : Int32 × Mm × Prop := if l2 = (-1 : Int32) then (f_X11_eaten_90 l0 l3 l4 y0 ((gI m (gR m l0 0) 7) - (1 : Int32)) m ((o ∧ (gT m l0 = 11 ∧ gR m l0 0 ≠ 0)) ∧ gT m (gR m l0 0) = 6)) else (f_X11_eaten_90 l0 l3 l4 y0 l2 m o)
set_option maxRecDepth 10000 in
theorem t_X11_eaten_70 (l : Launch) (E : En) (c0 s0 : Nat) (l0 : Nat) (l2 : Int32) (l3 : Int32) (l4 : Int32) (y0 : Int32) (m : Mm) (o : Prop) : Mh wI l E mi_X11_eaten c0 s0 70 [(0, .ref l0), (2, .int l2), (3, .int l3), (4, .int l4)] [.int y0] m o (f_X11_eaten_70 l0 l2 l3 l4 y0 m o) := by
  refine Mh_istore (lv' := [(5, .int y0), (0, .ref l0), (2, .int l2), (3, .int l3), (4, .int l4)]) dX11_eaten_70 (Nat.le_of_ble_eq_true rfl) rfl ?_
  refine Mh_iload_n 2 rfl dX11_eaten_72 ?_
  refine Mh_iconst (v := (-1)) dX11_eaten_73 (by decide) ?_
  refine Mh_icmp_ne (tgt := 89) dX11_eaten_74 (by decide) rfl (fun _ => ?_) (fun _ => ?_)
  · refine Mh_iload_n 2 rfl dX11_eaten_89 ?_
    refine Mh_sub (lv' := [(0, .ref l0), (3, .int l3), (4, .int l4), (5, .int y0)]) [1, 3, 4, 0] rfl ?_
    exact t_X11_eaten_90 l E c0 s0 _ _ _ _ _ _ _
  · refine Mh_aload_n 1 rfl dX11_eaten_77 ?_
    refine Mh_gR fd_10_0 fl_RX11_10 dX11_eaten_78 ?_
    refine Mh_gI fd_5_7 fl_RX11_111 dX11_eaten_81 ?_
    refine Mh_iconst (v := 1) dX11_eaten_84 (by decide) ?_
    refine Mh_isub dX11_eaten_85 ?_
    refine Mh_goto (tgt := 90) dX11_eaten_86 (by decide) ?_
    refine Mh_sub (lv' := [(0, .ref l0), (3, .int l3), (4, .int l4), (5, .int y0)]) [1, 3, 4, 0] rfl ?_
    exact t_X11_eaten_90 l E c0 s0 _ _ _ _ _ _ _
def f_X11_eaten_58 (l0 : Nat) (l2 : Int32) (l3 : Int32) (y0 : Int32) (m : Mm) (o : Prop) : Int32 × Mm × Prop := if l2 = (-1 : Int32) then (f_X11_eaten_70 l0 l2 l3 y0 (0 : Int32) m o) else (f_X11_eaten_70 l0 l2 l3 y0 l2 m o)
set_option maxRecDepth 10000 in
theorem t_X11_eaten_58 (l : Launch) (E : En) (c0 s0 : Nat) (l0 : Nat) (l2 : Int32) (l3 : Int32) (y0 : Int32) (m : Mm) (o : Prop) : Mh wI l E mi_X11_eaten c0 s0 58 [(0, .ref l0), (2, .int l2), (3, .int l3)] [.int y0] m o (f_X11_eaten_58 l0 l2 l3 y0 m o) := by
  refine Mh_istore (lv' := [(4, .int y0), (0, .ref l0), (2, .int l2), (3, .int l3)]) dX11_eaten_58 (Nat.le_of_ble_eq_true rfl) rfl ?_
  refine Mh_iload_n 2 rfl dX11_eaten_60 ?_
  refine Mh_iconst (v := (-1)) dX11_eaten_61 (by decide) ?_
  refine Mh_icmp_ne (tgt := 69) dX11_eaten_62 (by decide) rfl (fun _ => ?_) (fun _ => ?_)
  · refine Mh_iload_n 2 rfl dX11_eaten_69 ?_
    refine Mh_sub (lv' := [(0, .ref l0), (2, .int l2), (3, .int l3), (4, .int y0)]) [1, 2, 3, 0] rfl ?_
    exact t_X11_eaten_70 l E c0 s0 _ _ _ _ _ _ _
  · refine Mh_iconst (v := 0) dX11_eaten_65 (by decide) ?_
    refine Mh_goto (tgt := 70) dX11_eaten_66 (by decide) ?_
    refine Mh_sub (lv' := [(0, .ref l0), (2, .int l2), (3, .int l3), (4, .int y0)]) [1, 2, 3, 0] rfl ?_
    exact t_X11_eaten_70 l E c0 s0 _ _ _ _ _ _ _
def f_X11_eaten_39 (l0 : Nat) (l1 : Int32) (l2 : Int32) (y0 : Int32) (m : Mm) (o : Prop) : Int32 × Mm × Prop := if l1 = (-1 : Int32) then (f_X11_eaten_58 l0 l2 y0 ((gI m (gR m l0 0) 6) - (1 : Int32)) m ((o ∧ (gT m l0 = 11 ∧ gR m l0 0 ≠ 0)) ∧ gT m (gR m l0 0) = 6)) else (f_X11_eaten_58 l0 l2 y0 l1 m o)
set_option maxRecDepth 10000 in
theorem t_X11_eaten_39 (l : Launch) (E : En) (c0 s0 : Nat) (l0 : Nat) (l1 : Int32) (l2 : Int32) (y0 : Int32) (m : Mm) (o : Prop) : Mh wI l E mi_X11_eaten c0 s0 39 [(0, .ref l0), (1, .int l1), (2, .int l2)] [.int y0] m o (f_X11_eaten_39 l0 l1 l2 y0 m o) := by
  refine Mh_istore_n (lv' := [(3, .int y0), (0, .ref l0), (1, .int l1), (2, .int l2)]) dX11_eaten_39 (Nat.le_of_ble_eq_true rfl) rfl ?_
  refine Mh_iload_n 2 rfl dX11_eaten_40 ?_
  refine Mh_iconst (v := (-1)) dX11_eaten_41 (by decide) ?_
  refine Mh_icmp_ne (tgt := 57) dX11_eaten_42 (by decide) rfl (fun _ => ?_) (fun _ => ?_)
  · refine Mh_iload_n 2 rfl dX11_eaten_57 ?_
    refine Mh_sub (lv' := [(0, .ref l0), (2, .int l2), (3, .int y0)]) [1, 3, 0] rfl ?_
    exact t_X11_eaten_58 l E c0 s0 _ _ _ _ _ _
  · refine Mh_aload_n 1 rfl dX11_eaten_45 ?_
    refine Mh_gR fd_10_0 fl_RX11_10 dX11_eaten_46 ?_
    refine Mh_gI fd_5_6 fl_RX11_94 dX11_eaten_49 ?_
    refine Mh_iconst (v := 1) dX11_eaten_52 (by decide) ?_
    refine Mh_isub dX11_eaten_53 ?_
    refine Mh_goto (tgt := 58) dX11_eaten_54 (by decide) ?_
    refine Mh_sub (lv' := [(0, .ref l0), (2, .int l2), (3, .int y0)]) [1, 3, 0] rfl ?_
    exact t_X11_eaten_58 l E c0 s0 _ _ _ _ _ _
def f_X11_eaten_29 (l0 : Nat) (l1 : Int32) (l2 : Int32) (m : Mm) (o : Prop) : Int32 × Mm × Prop := if l1 = (-1 : Int32) then (f_X11_eaten_39 l0 l1 l2 (0 : Int32) m o) else (f_X11_eaten_39 l0 l1 l2 l1 m o)
set_option maxRecDepth 10000 in
theorem t_X11_eaten_29 (l : Launch) (E : En) (c0 s0 : Nat) (l0 : Nat) (l1 : Int32) (l2 : Int32) (m : Mm) (o : Prop) : Mh wI l E mi_X11_eaten c0 s0 29 [(0, .ref l0), (1, .int l1), (2, .int l2)] [] m o (f_X11_eaten_29 l0 l1 l2 m o) := by
  refine Mh_iload_n 1 rfl dX11_eaten_29 ?_
  refine Mh_iconst (v := (-1)) dX11_eaten_30 (by decide) ?_
  refine Mh_icmp_ne (tgt := 38) dX11_eaten_31 (by decide) rfl (fun _ => ?_) (fun _ => ?_)
  · refine Mh_iload_n 1 rfl dX11_eaten_38 ?_
    exact t_X11_eaten_39 l E c0 s0 _ _ _ _ _ _
  · refine Mh_iconst (v := 0) dX11_eaten_34 (by decide) ?_
    refine Mh_goto (tgt := 39) dX11_eaten_35 (by decide) ?_
    exact t_X11_eaten_39 l E c0 s0 _ _ _ _ _ _
def f_X11_eaten_23 (l0 : Nat) (l1 : Int32) (l2 : Int32) (y0 : Int32) (m : Mm) (o : Prop) : Int32 × Mm × Prop := if y0 = 0 then (f_X11_eaten_26  m o) else (f_X11_eaten_29 l0 l1 l2 m o)
set_option maxRecDepth 10000 in
theorem t_X11_eaten_23 (l : Launch) (E : En) (c0 s0 : Nat) (l0 : Nat) (l1 : Int32) (l2 : Int32) (y0 : Int32) (m : Mm) (o : Prop) : Mh wI l E mi_X11_eaten c0 s0 23 [(0, .ref l0), (1, .int l1), (2, .int l2)] [.int y0] m o (f_X11_eaten_23 l0 l1 l2 y0 m o) := by
  refine Mh_if_ne (tgt := 29) dX11_eaten_23 (by decide) rfl (fun _ => ?_) (fun _ => ?_)
  · exact t_X11_eaten_29 l E c0 s0 _ _ _ _ _
  · refine Mh_sub (lv' := []) [] rfl ?_
    exact t_X11_eaten_26 l E c0 s0  _ _
def f_X11_eaten_13 (l0 : Nat) (l1 : Int32) (l2 : Int32) (m : Mm) (o : Prop) : Int32 × Mm × Prop := if l2 = (-1 : Int32) then (f_X11_eaten_29 l0 l1 l2 m o) else (bnd (F_X11_hasCow l0 l2 m (o ∧ gT m l0 = 11)) (fun v1 m1 o1 => f_X11_eaten_23 l0 l1 l2 v1 m1 o1))
set_option maxRecDepth 10000 in
theorem t_X11_eaten_13 (l : Launch) (E : En) (c0 s0 : Nat) (l0 : Nat) (l1 : Int32) (l2 : Int32) (m : Mm) (o : Prop) : Mh wI l E mi_X11_eaten c0 s0 13 [(0, .ref l0), (1, .int l1), (2, .int l2)] [] m o (f_X11_eaten_13 l0 l1 l2 m o) := by
  refine Mh_iload_n 2 rfl dX11_eaten_13 ?_
  refine Mh_iconst (v := (-1)) dX11_eaten_14 (by decide) ?_
  refine Mh_icmp_eq (tgt := 29) dX11_eaten_15 (by decide) rfl (fun _ => ?_) (fun _ => ?_)
  · exact t_X11_eaten_29 l E c0 s0 _ _ _ _ _
  · refine Mh_aload_n 0 rfl dX11_eaten_18 ?_
    refine Mh_iload_n 2 rfl dX11_eaten_19 ?_
    refine Mh_cvI (N := mi_X11_hasCow) (q := l0) (ci := 10) (as := [.int l2]) (st := []) (id) cg_yX11_hasCow (by decide) rfl rfl ml_RX11_124 iv_yX11_hasCow pd_yX11_hasCow rfl (by decide) (Nat.le_of_ble_eq_true rfl) rfl dX11_eaten_20 (T_X11_hasCow l E _ _ _ _) rfl ?_
    exact t_X11_eaten_23 l E c0 s0 _ _ _ _ _ _
def f_X11_eaten_10 (l0 : Nat) (l1 : Int32) (l2 : Int32) (y0 : Int32) (m : Mm) (o : Prop) : Int32 × Mm × Prop := if y0 = 0 then (f_X11_eaten_26  m o) else (f_X11_eaten_13 l0 l1 l2 m o)
set_option maxRecDepth 10000 in
theorem t_X11_eaten_10 (l : Launch) (E : En) (c0 s0 : Nat) (l0 : Nat) (l1 : Int32) (l2 : Int32) (y0 : Int32) (m : Mm) (o : Prop) : Mh wI l E mi_X11_eaten c0 s0 10 [(0, .ref l0), (1, .int l1), (2, .int l2)] [.int y0] m o (f_X11_eaten_10 l0 l1 l2 y0 m o) := by
  refine Mh_if_eq (tgt := 26) dX11_eaten_10 (by decide) rfl (fun _ => ?_) (fun _ => ?_)
  · refine Mh_sub (lv' := []) [] rfl ?_
    exact t_X11_eaten_26 l E c0 s0  _ _
  · exact t_X11_eaten_13 l E c0 s0 _ _ _ _ _
def f_X11_eaten_0 (l0 : Nat) (l1 : Int32) (l2 : Int32) (m : Mm) (o : Prop) : Int32 × Mm × Prop := if l1 = (-1 : Int32) then (f_X11_eaten_13 l0 l1 l2 m o) else (bnd (F_X11_hasStack l0 l1 m (o ∧ gT m l0 = 11)) (fun v1 m1 o1 => f_X11_eaten_10 l0 l1 l2 v1 m1 o1))
set_option maxRecDepth 10000 in
theorem t_X11_eaten_0 (l : Launch) (E : En) (c0 s0 : Nat) (l0 : Nat) (l1 : Int32) (l2 : Int32) (m : Mm) (o : Prop) : Mh wI l E mi_X11_eaten c0 s0 0 [(0, .ref l0), (1, .int l1), (2, .int l2)] [] m o (f_X11_eaten_0 l0 l1 l2 m o) := by
  refine Mh_iload_n 1 rfl dX11_eaten_0 ?_
  refine Mh_iconst (v := (-1)) dX11_eaten_1 (by decide) ?_
  refine Mh_icmp_eq (tgt := 13) dX11_eaten_2 (by decide) rfl (fun _ => ?_) (fun _ => ?_)
  · exact t_X11_eaten_13 l E c0 s0 _ _ _ _ _
  · refine Mh_aload_n 0 rfl dX11_eaten_5 ?_
    refine Mh_iload_n 1 rfl dX11_eaten_6 ?_
    refine Mh_cvI (N := mi_X11_hasStack) (q := l0) (ci := 10) (as := [.int l1]) (st := []) (id) cg_yX11_hasStack (by decide) rfl rfl ml_RX11_166 iv_yX11_hasStack pd_yX11_hasStack rfl (by decide) (Nat.le_of_ble_eq_true rfl) rfl dX11_eaten_7 (T_X11_hasStack l E _ _ _ _) rfl ?_
    exact t_X11_eaten_10 l E c0 s0 _ _ _ _ _ _
def F_X11_eaten (a0 : Nat) (a1 : Int32) (a2 : Int32) (m : Mm) (o : Prop) : Int32 × Mm × Prop := f_X11_eaten_0 a0 a1 a2 m o
theorem T_X11_eaten (l : Launch) (E : En) (a0 : Nat) (a1 : Int32) (a2 : Int32) (m : Mm) (o : Prop) : Mt wI l E yX11_eaten mi_X11_eaten [.ref a0, .int a1, .int a2] m o (F_X11_eaten a0 a1 a2 m o) :=
  Mt_I (by decide) rfl rfl rfl (Nat.le_of_ble_eq_true rfl) rfl (.inl rfl) (t_X11_eaten_0 l E _ _ _ _ _ _ _)
def f_X9_putInt_43 (k3 : Nat → Int32 → Int32 → Mm → Prop → Unit × Mm × Prop) (l0 : Nat) (l1 : Int32) (l2 : Int32) (m : Mm) (o : Prop) : Unit × Mm × Prop := k3 l0 l1 (l2 + (-8)) m o
set_option maxRecDepth 10000 in
theorem t_X9_putInt_43 (l : Launch) (E : En) (c0 s0 : Nat) (k3 : Nat → Int32 → Int32 → Mm → Prop → Unit × Mm × Prop) (hk3 : ∀ (l0 : Nat) (l1 : Int32) (l2 : Int32) (m : Mm) (o : Prop), Mh wU l E mi_X9_putInt c0 s0 3 [(0, .ref l0), (1, .int l1), (2, .int l2)] [] m o (k3 l0 l1 l2 m o)) (l0 : Nat) (l1 : Int32) (l2 : Int32) (m : Mm) (o : Prop) : Mh wU l E mi_X9_putInt c0 s0 43 [(0, .ref l0), (1, .int l1), (2, .int l2)] [] m o (f_X9_putInt_43 k3 l0 l1 l2 m o) := by
  refine Mh_iinc (v := l2 + (-8)) (lv' := [(2, .int (l2 + (-8))), (0, .ref l0), (1, .int l1)]) 2 dX9_putInt_43 rfl rfl (Nat.le_of_ble_eq_true rfl) rfl ?_
  refine Mh_goto (tgt := 3) dX9_putInt_46 (by decide) ?_
  refine Mh_sub (lv' := [(0, .ref l0), (1, .int l1), (2, .int (l2 + (-8)))]) [1, 2, 0] rfl ?_
  exact hk3 _ _ _ _ _
def f_X9_putInt_33 (k3 : Nat → Int32 → Int32 → Mm → Prop → Unit × Mm × Prop) (l0 : Nat) (l1 : Int32) (l2 : Int32) (m : Mm) (o : Prop) : Unit × Mm × Prop := f_X9_putInt_43 k3 l0 l1 l2 (sI m l0 1 ((gI m l0 1) + (1 : Int32))) (o ∧ gT m l0 = 9)
set_option maxRecDepth 10000 in
theorem t_X9_putInt_33 (l : Launch) (E : En) (c0 s0 : Nat) (k3 : Nat → Int32 → Int32 → Mm → Prop → Unit × Mm × Prop) (hk3 : ∀ (l0 : Nat) (l1 : Int32) (l2 : Int32) (m : Mm) (o : Prop), Mh wU l E mi_X9_putInt c0 s0 3 [(0, .ref l0), (1, .int l1), (2, .int l2)] [] m o (k3 l0 l1 l2 m o)) (l0 : Nat) (l1 : Int32) (l2 : Int32) (m : Mm) (o : Prop) : Mh wU l E mi_X9_putInt c0 s0 33 [(0, .ref l0), (1, .int l1), (2, .int l2)] [] m o (f_X9_putInt_33 k3 l0 l1 l2 m o) := by
  refine Mh_aload_n 0 rfl dX9_putInt_33 ?_
  refine Mh_dup dX9_putInt_34 rfl ?_
  refine Mh_gI fd_8_1 fl_RX9_15 dX9_putInt_35 ?_
  refine Mh_iconst (v := 1) dX9_putInt_38 (by decide) ?_
  refine Mh_iadd dX9_putInt_39 ?_
  refine Mh_pI fd_8_1 ft_8 rfl fl_RX9_15 rfl dX9_putInt_40 ?_
  refine Mh_ok (fun h => h.2) ?_
  exact t_X9_putInt_43 l E c0 s0 k3 hk3 _ _ _ _ _
def f_X9_putInt_49 (m : Mm) (o : Prop) : Unit × Mm × Prop := ((), m, o)
set_option maxRecDepth 10000 in
theorem t_X9_putInt_49 (l : Launch) (E : En) (c0 s0 : Nat) (m : Mm) (o : Prop) : Mh wU l E mi_X9_putInt c0 s0 49 [] [] m o (f_X9_putInt_49  m o) := by
  exact Mh_ret dX9_putInt_49 rfl (fun _ => trivial) rfl
def f_X9_putInt_3b (k3 : Nat → Int32 → Int32 → Mm → Prop → Unit × Mm × Prop) (l0 : Nat) (l1 : Int32) (l2 : Int32) (m : Mm) (o : Prop) : Unit × Mm × Prop := if l2 < 0 then (f_X9_putInt_49  m o) else (if (220 : Int32) ≤ (gI m l0 1) then (f_X9_putInt_49  m (o ∧ gT m l0 = 9)) else (f_X9_putInt_33 k3 l0 l1 l2 (sI m (gR m l0 0) (ix (gI m l0 1)) ((((l1 : Int32).toUInt32 >>> ((l2 : Int32).toUInt32 &&& Int32.toUInt32 31)).toInt32) &&& (255 : Int32))) (((o ∧ gT m l0 = 9) ∧ (gT m l0 = 9 ∧ gR m l0 0 ≠ 0)) ∧ (gT m (gR m l0 0) = 20 ∧ vp_in (gI m l0 1) (gN m (gR m l0 0))))))
set_option maxRecDepth 10000 in
theorem t_X9_putInt_3b (l : Launch) (E : En) (c0 s0 : Nat) (k3 : Nat → Int32 → Int32 → Mm → Prop → Unit × Mm × Prop) (hk3 : ∀ (l0 : Nat) (l1 : Int32) (l2 : Int32) (m : Mm) (o : Prop), Mh wU l E mi_X9_putInt c0 s0 3 [(0, .ref l0), (1, .int l1), (2, .int l2)] [] m o (k3 l0 l1 l2 m o)) (l0 : Nat) (l1 : Int32) (l2 : Int32) (m : Mm) (o : Prop) : Mh wU l E mi_X9_putInt c0 s0 3 [(0, .ref l0), (1, .int l1), (2, .int l2)] [] m o (f_X9_putInt_3b k3 l0 l1 l2 m o) := by
  refine Mh_iload_n 2 rfl dX9_putInt_3 ?_
  refine Mh_if_lt (tgt := 49) dX9_putInt_4 (by decide) rfl (fun _ => ?_) (fun _ => ?_)
  · refine Mh_sub (lv' := []) [] rfl ?_
    exact t_X9_putInt_49 l E c0 s0  _ _
  · refine Mh_aload_n 0 rfl dX9_putInt_7 ?_
    refine Mh_gI fd_8_1 fl_RX9_15 dX9_putInt_8 ?_
    refine Mh_sipush (v := 220) dX9_putInt_11 (by decide) ?_
    refine Mh_icmp_ge (tgt := 49) dX9_putInt_14 (by decide) rfl (fun _ => ?_) (fun _ => ?_)
    · refine Mh_sub (lv' := []) [] rfl ?_
      exact t_X9_putInt_49 l E c0 s0  _ _
    · refine Mh_aload_n 0 rfl dX9_putInt_17 ?_
      refine Mh_gR fd_8_0 fl_RX9_11 dX9_putInt_18 ?_
      refine Mh_aload_n 0 rfl dX9_putInt_21 ?_
      refine Mh_gI fd_8_1 fl_RX9_15 dX9_putInt_22 ?_
      refine Mh_ok (fun h => h.1.2) ?_
      refine Mh_iload_n 1 rfl dX9_putInt_25 ?_
      refine Mh_iload_n 2 rfl dX9_putInt_26 ?_
      refine Mh_iushr dX9_putInt_27 ?_
      refine Mh_sipush (v := 255) dX9_putInt_28 (by decide) ?_
      refine Mh_iand dX9_putInt_31 ?_
      refine Mh_ias dX9_putInt_32 ?_
      exact t_X9_putInt_33 l E c0 s0 k3 hk3 _ _ _ _ _
def f_X9_putInt_3 : Nat → Nat → Int32 → Int32 → Mm → Prop → Unit × Mm × Prop
  | 0, _, _, _, m, _ => ((), m, False)
  | n + 1, l0, l1, l2, m, o => f_X9_putInt_3b (f_X9_putInt_3 n) l0 l1 l2 m o
theorem t_X9_putInt_3 (l : Launch) (E : En) (c0 s0 : Nat) : ∀ (n : Nat) (l0 : Nat) (l1 : Int32) (l2 : Int32) (m : Mm) (o : Prop), Mh wU l E mi_X9_putInt c0 s0 3 [(0, .ref l0), (1, .int l1), (2, .int l2)] [] m o (f_X9_putInt_3 n l0 l1 l2 m o)
  | 0, _, _, _, _, _ => Mh_out rfl
  | n + 1, l0, l1, l2, m, o => t_X9_putInt_3b l E c0 s0 (f_X9_putInt_3 n) (t_X9_putInt_3 l E c0 s0 n) l0 l1 l2 m o
def f_X9_putInt_0 (l0 : Nat) (l1 : Int32) (m : Mm) (o : Prop) : Unit × Mm × Prop := f_X9_putInt_3 1000 l0 l1 (24 : Int32) m o
set_option maxRecDepth 10000 in
theorem t_X9_putInt_0 (l : Launch) (E : En) (c0 s0 : Nat) (l0 : Nat) (l1 : Int32) (m : Mm) (o : Prop) : Mh wU l E mi_X9_putInt c0 s0 0 [(0, .ref l0), (1, .int l1)] [] m o (f_X9_putInt_0 l0 l1 m o) := by
  refine Mh_bipush (v := 24) dX9_putInt_0 (by decide) ?_
  refine Mh_istore_n (lv' := [(2, .int (24 : Int32)), (0, .ref l0), (1, .int l1)]) dX9_putInt_2 (Nat.le_of_ble_eq_true rfl) rfl ?_
  refine Mh_sub (lv' := [(0, .ref l0), (1, .int l1), (2, .int (24 : Int32))]) [1, 2, 0] rfl ?_
  exact t_X9_putInt_3 l E c0 s0 _ _ _ _ _ _
def F_X9_putInt (a0 : Nat) (a1 : Int32) (m : Mm) (o : Prop) : Unit × Mm × Prop := f_X9_putInt_0 a0 a1 m o
theorem T_X9_putInt (l : Launch) (E : En) (a0 : Nat) (a1 : Int32) (m : Mm) (o : Prop) : Mt wU l E yX9_putInt mi_X9_putInt [.ref a0, .int a1] m o (F_X9_putInt a0 a1 m o) :=
  Mt_U (by decide) rfl (fun h => by cases h) rfl (Nat.le_of_ble_eq_true rfl) rfl (t_X9_putInt_0 l E _ _ _ _ _ _)
def f_X11_feed_60 (l0 : Nat) (m : Mm) (o : Prop) : Int32 × Mm × Prop := (gI m (gR m l0 3) 1, m, ((o ∧ (gT m l0 = 11 ∧ gR m l0 3 ≠ 0)) ∧ gT m (gR m l0 3) = 9))
set_option maxRecDepth 10000 in
theorem t_X11_feed_60 (l : Launch) (E : En) (c0 s0 : Nat) (l0 : Nat) (m : Mm) (o : Prop) : Mh wI l E mi_X11_feed c0 s0 60 [(0, .ref l0)] [] m o (f_X11_feed_60 l0 m o) := by
  refine Mh_aload_n 0 rfl dX11_feed_60 ?_
  refine Mh_gR fd_10_3 fl_RX11_25 dX11_feed_61 ?_
  refine Mh_gI fd_8_1 fl_RX11_138 dX11_feed_64 ?_
  exact Mh_ret dX11_feed_67 rfl (fun _ => rfl) rfl
def f_X11_feed_51 (l0 : Nat) (l5 : Int32) (m : Mm) (o : Prop) : Int32 × Mm × Prop := bnd (F_X9_putInt (gR m l0 3) l5 m ((o ∧ (gT m l0 = 11 ∧ gR m l0 3 ≠ 0)) ∧ gT m (gR m l0 3) = 9)) (fun _ m1 o1 => f_X11_feed_60 l0 m1 o1)
set_option maxRecDepth 10000 in
theorem t_X11_feed_51 (l : Launch) (E : En) (c0 s0 : Nat) (l0 : Nat) (l5 : Int32) (m : Mm) (o : Prop) : Mh wI l E mi_X11_feed c0 s0 51 [(0, .ref l0), (5, .int l5)] [] m o (f_X11_feed_51 l0 l5 m o) := by
  refine Mh_aload_n 0 rfl dX11_feed_51 ?_
  refine Mh_gR fd_10_3 fl_RX11_25 dX11_feed_52 ?_
  refine Mh_iload 1 rfl dX11_feed_55 ?_
  refine Mh_cvU (N := mi_X9_putInt) (q := gR m l0 3) (ci := 8) (as := [.int l5]) (st := []) (id) cg_yX9_putInt (by decide) rfl rfl ml_RX11_141 iv_yX9_putInt pd_yX9_putInt rfl (by decide) (Nat.le_of_ble_eq_true rfl) rfl dX11_feed_57 (T_X9_putInt l E _ _ _ _) rfl ?_
  refine Mh_sub (lv' := [(0, .ref l0)]) [0] rfl ?_
  exact t_X11_feed_60 l E c0 s0 _ _ _
def f_X11_feed_42 (l0 : Nat) (l4 : Int32) (l5 : Int32) (m : Mm) (o : Prop) : Int32 × Mm × Prop := bnd (F_X9_putInt (gR m l0 3) l4 m ((o ∧ (gT m l0 = 11 ∧ gR m l0 3 ≠ 0)) ∧ gT m (gR m l0 3) = 9)) (fun _ m1 o1 => f_X11_feed_51 l0 l5 m1 o1)
set_option maxRecDepth 10000 in
theorem t_X11_feed_42 (l : Launch) (E : En) (c0 s0 : Nat) (l0 : Nat) (l4 : Int32) (l5 : Int32) (m : Mm) (o : Prop) : Mh wI l E mi_X11_feed c0 s0 42 [(0, .ref l0), (4, .int l4), (5, .int l5)] [] m o (f_X11_feed_42 l0 l4 l5 m o) := by
  refine Mh_aload_n 0 rfl dX11_feed_42 ?_
  refine Mh_gR fd_10_3 fl_RX11_25 dX11_feed_43 ?_
  refine Mh_iload 1 rfl dX11_feed_46 ?_
  refine Mh_cvU (N := mi_X9_putInt) (q := gR m l0 3) (ci := 8) (as := [.int l4]) (st := []) (id) cg_yX9_putInt (by decide) rfl rfl ml_RX11_141 iv_yX9_putInt pd_yX9_putInt rfl (by decide) (Nat.le_of_ble_eq_true rfl) rfl dX11_feed_48 (T_X9_putInt l E _ _ _ _) rfl ?_
  refine Mh_sub (lv' := [(0, .ref l0), (5, .int l5)]) [0, 2] rfl ?_
  exact t_X11_feed_51 l E c0 s0 _ _ _ _
def f_X11_feed_34 (l0 : Nat) (l3 : Int32) (l4 : Int32) (l5 : Int32) (m : Mm) (o : Prop) : Int32 × Mm × Prop := bnd (F_X9_putInt (gR m l0 3) l3 m ((o ∧ (gT m l0 = 11 ∧ gR m l0 3 ≠ 0)) ∧ gT m (gR m l0 3) = 9)) (fun _ m1 o1 => f_X11_feed_42 l0 l4 l5 m1 o1)
set_option maxRecDepth 10000 in
theorem t_X11_feed_34 (l : Launch) (E : En) (c0 s0 : Nat) (l0 : Nat) (l3 : Int32) (l4 : Int32) (l5 : Int32) (m : Mm) (o : Prop) : Mh wI l E mi_X11_feed c0 s0 34 [(0, .ref l0), (3, .int l3), (4, .int l4), (5, .int l5)] [] m o (f_X11_feed_34 l0 l3 l4 l5 m o) := by
  refine Mh_aload_n 0 rfl dX11_feed_34 ?_
  refine Mh_gR fd_10_3 fl_RX11_25 dX11_feed_35 ?_
  refine Mh_iload_n 1 rfl dX11_feed_38 ?_
  refine Mh_cvU (N := mi_X9_putInt) (q := gR m l0 3) (ci := 8) (as := [.int l3]) (st := []) (id) cg_yX9_putInt (by decide) rfl rfl ml_RX11_141 iv_yX9_putInt pd_yX9_putInt rfl (by decide) (Nat.le_of_ble_eq_true rfl) rfl dX11_feed_39 (T_X9_putInt l E _ _ _ _) rfl ?_
  refine Mh_sub (lv' := [(0, .ref l0), (4, .int l4), (5, .int l5)]) [0, 2, 3] rfl ?_
  exact t_X11_feed_42 l E c0 s0 _ _ _ _ _
def f_X11_feed_26 (l0 : Nat) (l2 : Int32) (l3 : Int32) (l4 : Int32) (l5 : Int32) (m : Mm) (o : Prop) : Int32 × Mm × Prop := bnd (F_X9_putInt (gR m l0 3) l2 m ((o ∧ (gT m l0 = 11 ∧ gR m l0 3 ≠ 0)) ∧ gT m (gR m l0 3) = 9)) (fun _ m1 o1 => f_X11_feed_34 l0 l3 l4 l5 m1 o1)
set_option maxRecDepth 10000 in
theorem t_X11_feed_26 (l : Launch) (E : En) (c0 s0 : Nat) (l0 : Nat) (l2 : Int32) (l3 : Int32) (l4 : Int32) (l5 : Int32) (m : Mm) (o : Prop) : Mh wI l E mi_X11_feed c0 s0 26 [(0, .ref l0), (2, .int l2), (3, .int l3), (4, .int l4), (5, .int l5)] [] m o (f_X11_feed_26 l0 l2 l3 l4 l5 m o) := by
  refine Mh_aload_n 0 rfl dX11_feed_26 ?_
  refine Mh_gR fd_10_3 fl_RX11_25 dX11_feed_27 ?_
  refine Mh_iload_n 1 rfl dX11_feed_30 ?_
  refine Mh_cvU (N := mi_X9_putInt) (q := gR m l0 3) (ci := 8) (as := [.int l2]) (st := []) (id) cg_yX9_putInt (by decide) rfl rfl ml_RX11_141 iv_yX9_putInt pd_yX9_putInt rfl (by decide) (Nat.le_of_ble_eq_true rfl) rfl dX11_feed_31 (T_X9_putInt l E _ _ _ _) rfl ?_
  refine Mh_sub (lv' := [(0, .ref l0), (3, .int l3), (4, .int l4), (5, .int l5)]) [0, 2, 3, 4] rfl ?_
  exact t_X11_feed_34 l E c0 s0 _ _ _ _ _ _
def f_X11_feed_0 (l0 : Nat) (l1 : Int32) (l2 : Int32) (l3 : Int32) (l4 : Int32) (l5 : Int32) (m : Mm) (o : Prop) : Int32 × Mm × Prop := if ((gI m (gR m l0 3) 1) + (20 : Int32)) ≤ (220 : Int32) then (bnd (F_X9_putInt (gR m l0 3) l1 m ((o ∧ (gT m l0 = 11 ∧ gR m l0 3 ≠ 0)) ∧ gT m (gR m l0 3) = 9)) (fun _ m1 o1 => f_X11_feed_26 l0 l2 l3 l4 l5 m1 o1)) else ((-1 : Int32), m, ((o ∧ (gT m l0 = 11 ∧ gR m l0 3 ≠ 0)) ∧ gT m (gR m l0 3) = 9))
set_option maxRecDepth 10000 in
theorem t_X11_feed_0 (l : Launch) (E : En) (c0 s0 : Nat) (l0 : Nat) (l1 : Int32) (l2 : Int32) (l3 : Int32) (l4 : Int32) (l5 : Int32) (m : Mm) (o : Prop) : Mh wI l E mi_X11_feed c0 s0 0 [(0, .ref l0), (1, .int l1), (2, .int l2), (3, .int l3), (4, .int l4), (5, .int l5)] [] m o (f_X11_feed_0 l0 l1 l2 l3 l4 l5 m o) := by
  refine Mh_aload_n 0 rfl dX11_feed_0 ?_
  refine Mh_gR fd_10_3 fl_RX11_25 dX11_feed_1 ?_
  refine Mh_gI fd_8_1 fl_RX11_138 dX11_feed_4 ?_
  refine Mh_bipush (v := 20) dX11_feed_7 (by decide) ?_
  refine Mh_iadd dX11_feed_9 ?_
  refine Mh_sipush (v := 220) dX11_feed_10 (by decide) ?_
  refine Mh_icmp_le (tgt := 18) dX11_feed_13 (by decide) rfl (fun _ => ?_) (fun _ => ?_)
  · refine Mh_aload_n 0 rfl dX11_feed_18 ?_
    refine Mh_gR fd_10_3 fl_RX11_25 dX11_feed_19 ?_
    refine Mh_ok (fun h => h.1.2) ?_
    refine Mh_iload_n 1 rfl dX11_feed_22 ?_
    refine Mh_cvU (N := mi_X9_putInt) (q := gR m l0 3) (ci := 8) (as := [.int l1]) (st := []) (fun h => ⟨h, (fun h => h.2) h⟩) cg_yX9_putInt (by decide) rfl rfl ml_RX11_141 iv_yX9_putInt pd_yX9_putInt rfl (by decide) (Nat.le_of_ble_eq_true rfl) rfl dX11_feed_23 (T_X9_putInt l E _ _ _ _) rfl ?_
    refine Mh_sub (lv' := [(0, .ref l0), (2, .int l2), (3, .int l3), (4, .int l4), (5, .int l5)]) [0, 2, 3, 4, 5] rfl ?_
    exact t_X11_feed_26 l E c0 s0 _ _ _ _ _ _ _
  · refine Mh_iconst (v := (-1)) dX11_feed_16 (by decide) ?_
    exact Mh_ret dX11_feed_17 rfl (fun _ => rfl) rfl
def F_X11_feed (a0 : Nat) (a1 : Int32) (a2 : Int32) (a3 : Int32) (a4 : Int32) (a5 : Int32) (m : Mm) (o : Prop) : Int32 × Mm × Prop := f_X11_feed_0 a0 a1 a2 a3 a4 a5 m o
theorem T_X11_feed (l : Launch) (E : En) (a0 : Nat) (a1 : Int32) (a2 : Int32) (a3 : Int32) (a4 : Int32) (a5 : Int32) (m : Mm) (o : Prop) : Mt wI l E yX11_feed mi_X11_feed [.ref a0, .int a1, .int a2, .int a3, .int a4, .int a5] m o (F_X11_feed a0 a1 a2 a3 a4 a5 m o) :=
  Mt_I (by decide) rfl rfl rfl (Nat.le_of_ble_eq_true rfl) rfl (.inl rfl) (t_X11_feed_0 l E _ _ _ _ _ _ _ _ _ _)
