def f_X11_run_47 (m : Mm) (o : Prop) : Int32 × Mm × Prop := ((-1 : Int32), m, o)
set_option maxRecDepth 10000 in
theorem t_X11_run_47 (l : Launch) (E : En) (c0 s0 : Nat) (m : Mm) (o : Prop) : Mh wI l E mi_X11_run c0 s0 47 [] [] m o (f_X11_run_47  m o) := by
  refine Mh_iconst (v := (-1)) dX11_run_47 (by decide) ?_
  exact Mh_ret dX11_run_48 rfl (fun _ => rfl) rfl
def f_X11_run_87 (k70 : Nat → Int32 → Int32 → Int32 → Int32 → Mm → Prop → Int32 × Mm × Prop) (l0 : Nat) (l1 : Int32) (l2 : Int32) (l3 : Int32) (l4 : Int32) (y0 : Int32) (m : Mm) (o : Prop) : Int32 × Mm × Prop := k70 l0 l1 l2 l3 (l4 + 1) m o
set_option maxRecDepth 10000 in
theorem t_X11_run_87 (l : Launch) (E : En) (c0 s0 : Nat) (k70 : Nat → Int32 → Int32 → Int32 → Int32 → Mm → Prop → Int32 × Mm × Prop) (hk70 : ∀ (l0 : Nat) (l1 : Int32) (l2 : Int32) (l3 : Int32) (l4 : Int32) (m : Mm) (o : Prop), Mh wI l E mi_X11_run c0 s0 70 [(0, .ref l0), (1, .int l1), (2, .int l2), (3, .int l3), (4, .int l4)] [] m o (k70 l0 l1 l2 l3 l4 m o)) (l0 : Nat) (l1 : Int32) (l2 : Int32) (l3 : Int32) (l4 : Int32) (y0 : Int32) (m : Mm) (o : Prop) : Mh wI l E mi_X11_run c0 s0 87 [(0, .ref l0), (1, .int l1), (2, .int l2), (3, .int l3), (4, .int l4)] [.int y0] m o (f_X11_run_87 k70 l0 l1 l2 l3 l4 y0 m o) := by
  refine Mh_pop dX11_run_87 rfl ?_
  refine Mh_iinc (v := l4 + 1) (lv' := [(4, .int (l4 + 1)), (0, .ref l0), (1, .int l1), (2, .int l2), (3, .int l3)]) 4 dX11_run_88 rfl rfl (Nat.le_of_ble_eq_true rfl) rfl ?_
  refine Mh_goto (tgt := 70) dX11_run_91 (by decide) ?_
  refine Mh_sub (lv' := [(0, .ref l0), (1, .int l1), (2, .int l2), (3, .int l3), (4, .int (l4 + 1))]) [1, 2, 3, 4, 0] rfl ?_
  exact hk70 _ _ _ _ _ _ _
def f_X11_run_134 (y1 : Int32) (y0 : Int32) (m : Mm) (o : Prop) : Int32 × Mm × Prop := (y0 - y1, m, o)
set_option maxRecDepth 10000 in
theorem t_X11_run_134 (l : Launch) (E : En) (c0 s0 : Nat) (y1 : Int32) (y0 : Int32) (m : Mm) (o : Prop) : Mh wI l E mi_X11_run c0 s0 134 [] [.int y1, .int y0] m o (f_X11_run_134 y1 y0 m o) := by
  refine Mh_isub dX11_run_134 ?_
  exact Mh_ret dX11_run_135 rfl (fun _ => rfl) rfl
def f_X11_run_127 (l0 : Nat) (y0 : Int32) (m : Mm) (o : Prop) : Int32 × Mm × Prop := bnd (F_X5_standingCount (gR m l0 2) m ((o ∧ (gT m l0 = 11 ∧ gR m l0 2 ≠ 0)) ∧ gT m (gR m l0 2) = 6)) (fun v1 m1 o1 => f_X11_run_134 v1 y0 m1 o1)
set_option maxRecDepth 10000 in
theorem t_X11_run_127 (l : Launch) (E : En) (c0 s0 : Nat) (l0 : Nat) (y0 : Int32) (m : Mm) (o : Prop) : Mh wI l E mi_X11_run c0 s0 127 [(0, .ref l0)] [.int y0] m o (f_X11_run_127 l0 y0 m o) := by
  refine Mh_aload_n 0 rfl dX11_run_127 ?_
  refine Mh_gR fd_10_2 fl_RX11_19 dX11_run_128 ?_
  refine Mh_cvI (N := mi_X5_standingCount) (q := gR m l0 2) (ci := 5) (as := []) (st := [.int y0]) (id) cg_yX5_standingCount (by decide) rfl rfl ml_RX11_175 iv_yX5_standingCount pd_yX5_standingCount rfl (by decide) (Nat.le_of_ble_eq_true rfl) rfl dX11_run_131 (T_X5_standingCount l E _ _ _) rfl ?_
  refine Mh_sub (lv' := []) [] rfl ?_
  exact t_X11_run_134 l E c0 s0 _ _ _ _
def f_X11_run_160 (y0 : Int32) (m : Mm) (o : Prop) : Int32 × Mm × Prop := (y0, m, o)
set_option maxRecDepth 10000 in
theorem t_X11_run_160 (l : Launch) (E : En) (c0 s0 : Nat) (y0 : Int32) (m : Mm) (o : Prop) : Mh wI l E mi_X11_run c0 s0 160 [] [.int y0] m o (f_X11_run_160 y0 m o) := by
  exact Mh_ret dX11_run_160 rfl (fun _ => rfl) rfl
def f_X11_run_148 (y0 : Int32) (m : Mm) (o : Prop) : Int32 × Mm × Prop := f_X11_run_160 y0 m o
set_option maxRecDepth 10000 in
theorem t_X11_run_148 (l : Launch) (E : En) (c0 s0 : Nat) (y0 : Int32) (m : Mm) (o : Prop) : Mh wI l E mi_X11_run c0 s0 148 [] [.int y0] m o (f_X11_run_148 y0 m o) := by
  refine Mh_goto (tgt := 160) dX11_run_148 (by decide) ?_
  exact t_X11_run_160 l E c0 s0 _ _ _
def f_X11_run_70b (k70 : Nat → Int32 → Int32 → Int32 → Int32 → Mm → Prop → Int32 × Mm × Prop) (l0 : Nat) (l1 : Int32) (l2 : Int32) (l3 : Int32) (l4 : Int32) (m : Mm) (o : Prop) : Int32 × Mm × Prop := if l1 ≤ l4 then (if l3 = 0 then (if l2 = (6 : Int32) then (bnd (F_X5_standingCount (gR m l0 0) m ((o ∧ (gT m l0 = 11 ∧ gR m l0 0 ≠ 0)) ∧ gT m (gR m l0 0) = 6)) (fun v1 m1 o1 => f_X11_run_127 l0 v1 m1 o1)) else (if l2 = (5 : Int32) then (bnd (F_X5_winner (gR m l0 2) m ((o ∧ (gT m l0 = 11 ∧ gR m l0 2 ≠ 0)) ∧ gT m (gR m l0 2) = 6)) (fun v1 m1 o1 => f_X11_run_148 v1 m1 o1)) else (f_X11_run_160 (gI m (gR m (gR m l0 2) 2) (ix l2)) m (((o ∧ (gT m l0 = 11 ∧ gR m l0 2 ≠ 0)) ∧ (gT m (gR m l0 2) = 6 ∧ gR m (gR m l0 2) 2 ≠ 0)) ∧ (gT m (gR m (gR m l0 2) 2) = 20 ∧ vp_in l2 (gN m (gR m (gR m l0 2) 2))))))) else (gI m (gR m (gR m (gR m l0 2) 0) (ix (l2 - (10 : Int32)))) 3, m, ((((o ∧ (gT m l0 = 11 ∧ gR m l0 2 ≠ 0)) ∧ (gT m (gR m l0 2) = 6 ∧ gR m (gR m l0 2) 0 ≠ 0)) ∧ (gT m (gR m (gR m l0 2) 0) = 24 ∧ vp_in (l2 - (10 : Int32)) (gN m (gR m (gR m l0 2) 0)) ∧ gR m (gR m (gR m l0 2) 0) (ix (l2 - (10 : Int32))) ≠ 0)) ∧ gT m (gR m (gR m (gR m l0 2) 0) (ix (l2 - (10 : Int32)))) = 8))) else (bnd (F_X5_passDay (gR m l0 2) (gR m l0 9) m (((o ∧ (gT m l0 = 11 ∧ gR m l0 2 ≠ 0)) ∧ (gT m l0 = 11 ∧ gR m l0 9 ≠ 0)) ∧ gT m (gR m l0 2) = 6)) (fun v1 m1 o1 => f_X11_run_87 k70 l0 l1 l2 l3 l4 v1 m1 o1))
set_option maxRecDepth 10000 in
theorem t_X11_run_70b (l : Launch) (E : En) (c0 s0 : Nat) (k70 : Nat → Int32 → Int32 → Int32 → Int32 → Mm → Prop → Int32 × Mm × Prop) (hk70 : ∀ (l0 : Nat) (l1 : Int32) (l2 : Int32) (l3 : Int32) (l4 : Int32) (m : Mm) (o : Prop), Mh wI l E mi_X11_run c0 s0 70 [(0, .ref l0), (1, .int l1), (2, .int l2), (3, .int l3), (4, .int l4)] [] m o (k70 l0 l1 l2 l3 l4 m o)) (l0 : Nat) (l1 : Int32) (l2 : Int32) (l3 : Int32) (l4 : Int32) (m : Mm) (o : Prop) : Mh wI l E mi_X11_run c0 s0 70 [(0, .ref l0), (1, .int l1), (2, .int l2), (3, .int l3), (4, .int l4)] [] m o (f_X11_run_70b k70 l0 l1 l2 l3 l4 m o) := by
  refine Mh_iload 4 rfl dX11_run_70 ?_
  refine Mh_iload_n 1 rfl dX11_run_72 ?_
  refine Mh_icmp_ge (tgt := 94) dX11_run_73 (by decide) rfl (fun _ => ?_) (fun _ => ?_)
  · refine Mh_iload_n 3 rfl dX11_run_94 ?_
    refine Mh_if_eq (tgt := 114) dX11_run_95 (by decide) rfl (fun _ => ?_) (fun _ => ?_)
    · refine Mh_iload_n 2 rfl dX11_run_114 ?_
      refine Mh_bipush (v := 6) dX11_run_115 (by decide) ?_
      refine Mh_icmp_ne (tgt := 136) dX11_run_117 (by decide) rfl (fun _ => ?_) (fun _ => ?_)
      · refine Mh_iload_n 2 rfl dX11_run_136 ?_
        refine Mh_iconst (v := 5) dX11_run_137 (by decide) ?_
        refine Mh_icmp_ne (tgt := 151) dX11_run_138 (by decide) rfl (fun _ => ?_) (fun _ => ?_)
        · refine Mh_aload_n 0 rfl dX11_run_151 ?_
          refine Mh_gR fd_10_2 fl_RX11_19 dX11_run_152 ?_
          refine Mh_gR fd_5_2 fl_RX11_182 dX11_run_155 ?_
          refine Mh_iload_n 2 rfl dX11_run_158 ?_
          refine Mh_ial dX11_run_159 ?_
          refine Mh_sub (lv' := []) [] rfl ?_
          exact t_X11_run_160 l E c0 s0 _ _ _
        · refine Mh_aload_n 0 rfl dX11_run_141 ?_
          refine Mh_gR fd_10_2 fl_RX11_19 dX11_run_142 ?_
          refine Mh_cvI (N := mi_X5_winner) (q := gR m l0 2) (ci := 5) (as := []) (st := []) (id) cg_yX5_winner (by decide) rfl rfl ml_RX11_179 iv_yX5_winner pd_yX5_winner rfl (by decide) (Nat.le_of_ble_eq_true rfl) rfl dX11_run_145 (T_X5_winner l E _ _ _) rfl ?_
          refine Mh_sub (lv' := []) [] rfl ?_
          exact t_X11_run_148 l E c0 s0 _ _ _
      · refine Mh_aload_n 0 rfl dX11_run_120 ?_
        refine Mh_gR fd_10_0 fl_RX11_10 dX11_run_121 ?_
        refine Mh_cvI (N := mi_X5_standingCount) (q := gR m l0 0) (ci := 5) (as := []) (st := []) (id) cg_yX5_standingCount (by decide) rfl rfl ml_RX11_175 iv_yX5_standingCount pd_yX5_standingCount rfl (by decide) (Nat.le_of_ble_eq_true rfl) rfl dX11_run_124 (T_X5_standingCount l E _ _ _) rfl ?_
        refine Mh_sub (lv' := [(0, .ref l0)]) [0] rfl ?_
        exact t_X11_run_127 l E c0 s0 _ _ _ _
    · refine Mh_aload_n 0 rfl dX11_run_98 ?_
      refine Mh_gR fd_10_2 fl_RX11_19 dX11_run_99 ?_
      refine Mh_gR fd_5_0 fl_RX11_101 dX11_run_102 ?_
      refine Mh_iload_n 2 rfl dX11_run_105 ?_
      refine Mh_bipush (v := 10) dX11_run_106 (by decide) ?_
      refine Mh_isub dX11_run_108 ?_
      refine Mh_aal 24 (.inl rfl) dX11_run_109 ?_
      refine Mh_gI fd_7_3 fl_RX11_172 dX11_run_110 ?_
      exact Mh_ret dX11_run_113 rfl (fun _ => rfl) rfl
  · refine Mh_aload_n 0 rfl dX11_run_76 ?_
    refine Mh_gR fd_10_2 fl_RX11_19 dX11_run_77 ?_
    refine Mh_aload_n 0 rfl dX11_run_80 ?_
    refine Mh_gR fd_10_9 fl_RX11_71 dX11_run_81 ?_
    refine Mh_cvI (N := mi_X5_passDay) (q := gR m l0 2) (ci := 5) (as := [.ref (gR m l0 9)]) (st := []) (id) cg_yX5_passDay (by decide) rfl rfl ml_RX11_162 iv_yX5_passDay pd_yX5_passDay rfl (by decide) (Nat.le_of_ble_eq_true rfl) rfl dX11_run_84 (T_X5_passDay l E _ _ _ _) rfl ?_
    exact t_X11_run_87 l E c0 s0 k70 hk70 _ _ _ _ _ _ _ _
def f_X11_run_70 : Nat → Nat → Int32 → Int32 → Int32 → Int32 → Mm → Prop → Int32 × Mm × Prop
  | 0, _, _, _, _, _, m, _ => (0, m, False)
  | n + 1, l0, l1, l2, l3, l4, m, o => f_X11_run_70b (f_X11_run_70 n) l0 l1 l2 l3 l4 m o
theorem t_X11_run_70 (l : Launch) (E : En) (c0 s0 : Nat) : ∀ (n : Nat) (l0 : Nat) (l1 : Int32) (l2 : Int32) (l3 : Int32) (l4 : Int32) (m : Mm) (o : Prop), Mh wI l E mi_X11_run c0 s0 70 [(0, .ref l0), (1, .int l1), (2, .int l2), (3, .int l3), (4, .int l4)] [] m o (f_X11_run_70 n l0 l1 l2 l3 l4 m o)
  | 0, _, _, _, _, _, _, _ => Mh_out rfl
  | n + 1, l0, l1, l2, l3, l4, m, o => t_X11_run_70b l E c0 s0 (f_X11_run_70 n) (t_X11_run_70 l E c0 s0 n) l0 l1 l2 l3 l4 m o
def f_X11_run_67 (l0 : Nat) (l1 : Int32) (l2 : Int32) (l3 : Int32) (m : Mm) (o : Prop) : Int32 × Mm × Prop := f_X11_run_70 1000 l0 l1 l2 l3 (0 : Int32) m o
set_option maxRecDepth 10000 in
theorem t_X11_run_67 (l : Launch) (E : En) (c0 s0 : Nat) (l0 : Nat) (l1 : Int32) (l2 : Int32) (l3 : Int32) (m : Mm) (o : Prop) : Mh wI l E mi_X11_run c0 s0 67 [(0, .ref l0), (1, .int l1), (2, .int l2), (3, .int l3)] [] m o (f_X11_run_67 l0 l1 l2 l3 m o) := by
  refine Mh_iconst (v := 0) dX11_run_67 (by decide) ?_
  refine Mh_istore (lv' := [(4, .int (0 : Int32)), (0, .ref l0), (1, .int l1), (2, .int l2), (3, .int l3)]) dX11_run_68 (Nat.le_of_ble_eq_true rfl) rfl ?_
  refine Mh_sub (lv' := [(0, .ref l0), (1, .int l1), (2, .int l2), (3, .int l3), (4, .int (0 : Int32))]) [1, 2, 3, 4, 0] rfl ?_
  exact t_X11_run_70 l E c0 s0 _ _ _ _ _ _ _ _
def f_X11_run_56 (l0 : Nat) (l1 : Int32) (l2 : Int32) (l3 : Int32) (m : Mm) (o : Prop) : Int32 × Mm × Prop := bnd (F_X5_startRun (gR m l0 2) (gR m l0 0) m (((o ∧ (gT m l0 = 11 ∧ gR m l0 2 ≠ 0)) ∧ (gT m l0 = 11 ∧ gR m l0 0 ≠ 0)) ∧ gT m (gR m l0 2) = 6)) (fun _ m1 o1 => f_X11_run_67 l0 l1 l2 l3 m1 o1)
set_option maxRecDepth 10000 in
theorem t_X11_run_56 (l : Launch) (E : En) (c0 s0 : Nat) (l0 : Nat) (l1 : Int32) (l2 : Int32) (l3 : Int32) (m : Mm) (o : Prop) : Mh wI l E mi_X11_run c0 s0 56 [(0, .ref l0), (1, .int l1), (2, .int l2), (3, .int l3)] [] m o (f_X11_run_56 l0 l1 l2 l3 m o) := by
  refine Mh_aload_n 0 rfl dX11_run_56 ?_
  refine Mh_gR fd_10_2 fl_RX11_19 dX11_run_57 ?_
  refine Mh_aload_n 0 rfl dX11_run_60 ?_
  refine Mh_gR fd_10_0 fl_RX11_10 dX11_run_61 ?_
  refine Mh_cvU (N := mi_X5_startRun) (q := gR m l0 2) (ci := 5) (as := [.ref (gR m l0 0)]) (st := []) (id) cg_yX5_startRun (by decide) rfl rfl ml_RX11_169 iv_yX5_startRun pd_yX5_startRun rfl (by decide) (Nat.le_of_ble_eq_true rfl) rfl dX11_run_64 (T_X5_startRun l E _ _ _ _) rfl ?_
  exact t_X11_run_67 l E c0 s0 _ _ _ _ _ _
def f_X11_run_49 (l0 : Nat) (l1 : Int32) (l2 : Int32) (l3 : Int32) (m : Mm) (o : Prop) : Int32 × Mm × Prop := bnd (F_X5_forgetAmounts (gR m l0 2) m ((o ∧ (gT m l0 = 11 ∧ gR m l0 2 ≠ 0)) ∧ gT m (gR m l0 2) = 6)) (fun _ m1 o1 => f_X11_run_56 l0 l1 l2 l3 m1 o1)
set_option maxRecDepth 10000 in
theorem t_X11_run_49 (l : Launch) (E : En) (c0 s0 : Nat) (l0 : Nat) (l1 : Int32) (l2 : Int32) (l3 : Int32) (m : Mm) (o : Prop) : Mh wI l E mi_X11_run c0 s0 49 [(0, .ref l0), (1, .int l1), (2, .int l2), (3, .int l3)] [] m o (f_X11_run_49 l0 l1 l2 l3 m o) := by
  refine Mh_aload_n 0 rfl dX11_run_49 ?_
  refine Mh_gR fd_10_2 fl_RX11_19 dX11_run_50 ?_
  refine Mh_cvU (N := mi_X5_forgetAmounts) (q := gR m l0 2) (ci := 5) (as := []) (st := []) (id) cg_yX5_forgetAmounts (by decide) rfl rfl ml_RX11_156 iv_yX5_forgetAmounts pd_yX5_forgetAmounts rfl (by decide) (Nat.le_of_ble_eq_true rfl) rfl dX11_run_53 (T_X5_forgetAmounts l E _ _ _) rfl ?_
  exact t_X11_run_56 l E c0 s0 _ _ _ _ _ _
def f_X11_run_40 (l0 : Nat) (l1 : Int32) (l2 : Int32) (l3 : Int32) (y0 : Int32) (m : Mm) (o : Prop) : Int32 × Mm × Prop := if y0 = 0 then (if l3 = 0 then (f_X11_run_47  m o) else (f_X11_run_49 l0 l1 l2 l3 m o)) else (f_X11_run_49 l0 l1 l2 l3 m o)
set_option maxRecDepth 10000 in
theorem t_X11_run_40 (l : Launch) (E : En) (c0 s0 : Nat) (l0 : Nat) (l1 : Int32) (l2 : Int32) (l3 : Int32) (y0 : Int32) (m : Mm) (o : Prop) : Mh wI l E mi_X11_run c0 s0 40 [(0, .ref l0), (1, .int l1), (2, .int l2), (3, .int l3)] [.int y0] m o (f_X11_run_40 l0 l1 l2 l3 y0 m o) := by
  refine Mh_if_ne (tgt := 49) dX11_run_40 (by decide) rfl (fun _ => ?_) (fun _ => ?_)
  · exact t_X11_run_49 l E c0 s0 _ _ _ _ _ _
  · refine Mh_iload_n 3 rfl dX11_run_43 ?_
    refine Mh_if_ne (tgt := 49) dX11_run_44 (by decide) rfl (fun _ => ?_) (fun _ => ?_)
    · exact t_X11_run_49 l E c0 s0 _ _ _ _ _ _
    · refine Mh_sub (lv' := []) [] rfl ?_
      exact t_X11_run_47 l E c0 s0  _ _
def f_X11_run_30 (l0 : Nat) (l1 : Int32) (l2 : Int32) (l3 : Int32) (y0 : Int32) (m : Mm) (o : Prop) : Int32 × Mm × Prop := if y0 = 0 then (f_X11_run_47  m o) else (bnd (F_X11_isWithin l2 (0 : Int32) (6 : Int32) m o) (fun v1 m1 o1 => f_X11_run_40 l0 l1 l2 l3 v1 m1 o1))
set_option maxRecDepth 10000 in
theorem t_X11_run_30 (l : Launch) (E : En) (c0 s0 : Nat) (l0 : Nat) (l1 : Int32) (l2 : Int32) (l3 : Int32) (y0 : Int32) (m : Mm) (o : Prop) : Mh wI l E mi_X11_run c0 s0 30 [(0, .ref l0), (1, .int l1), (2, .int l2), (3, .int l3)] [.int y0] m o (f_X11_run_30 l0 l1 l2 l3 y0 m o) := by
  refine Mh_if_eq (tgt := 47) dX11_run_30 (by decide) rfl (fun _ => ?_) (fun _ => ?_)
  · refine Mh_sub (lv' := []) [] rfl ?_
    exact t_X11_run_47 l E c0 s0  _ _
  · refine Mh_iload_n 2 rfl dX11_run_33 ?_
    refine Mh_iconst (v := 0) dX11_run_34 (by decide) ?_
    refine Mh_bipush (v := 6) dX11_run_35 (by decide) ?_
    refine Mh_csI (N := mi_X11_isWithin) (as := [.int l2, .int (0 : Int32), .int (6 : Int32)]) (st := []) cg_yX11_isWithin (.inl ml_RX11_90) sv_yX11_isWithin pd_yX11_isWithin rfl (by decide) (Nat.le_of_ble_eq_true rfl) rfl dX11_run_37 (T_X11_isWithin l E _ _ _ _ _) rfl ?_
    exact t_X11_run_40 l E c0 s0 _ _ _ _ _ _ _
def f_X11_run_22 (l0 : Nat) (l1 : Int32) (l2 : Int32) (y0 : Int32) (m : Mm) (o : Prop) : Int32 × Mm × Prop := bnd (F_X11_isWithin l1 (1 : Int32) (20 : Int32) m o) (fun v1 m1 o1 => f_X11_run_30 l0 l1 l2 y0 v1 m1 o1)
set_option maxRecDepth 10000 in
theorem t_X11_run_22 (l : Launch) (E : En) (c0 s0 : Nat) (l0 : Nat) (l1 : Int32) (l2 : Int32) (y0 : Int32) (m : Mm) (o : Prop) : Mh wI l E mi_X11_run c0 s0 22 [(0, .ref l0), (1, .int l1), (2, .int l2)] [.int y0] m o (f_X11_run_22 l0 l1 l2 y0 m o) := by
  refine Mh_istore_n (lv' := [(3, .int y0), (0, .ref l0), (1, .int l1), (2, .int l2)]) dX11_run_22 (Nat.le_of_ble_eq_true rfl) rfl ?_
  refine Mh_iload_n 2 rfl dX11_run_23 ?_
  refine Mh_iconst (v := 1) dX11_run_24 (by decide) ?_
  refine Mh_bipush (v := 20) dX11_run_25 (by decide) ?_
  refine Mh_csI (N := mi_X11_isWithin) (as := [.int l1, .int (1 : Int32), .int (20 : Int32)]) (st := []) cg_yX11_isWithin (.inl ml_RX11_90) sv_yX11_isWithin pd_yX11_isWithin rfl (by decide) (Nat.le_of_ble_eq_true rfl) rfl dX11_run_27 (T_X11_isWithin l E _ _ _ _ _) rfl ?_
  refine Mh_sub (lv' := [(0, .ref l0), (1, .int l1), (2, .int l2), (3, .int y0)]) [1, 2, 3, 0] rfl ?_
  exact t_X11_run_30 l E c0 s0 _ _ _ _ _ _ _
def f_X11_run_21 (l0 : Nat) (l1 : Int32) (l2 : Int32) (m : Mm) (o : Prop) : Int32 × Mm × Prop := f_X11_run_22 l0 l1 l2 (0 : Int32) m o
set_option maxRecDepth 10000 in
theorem t_X11_run_21 (l : Launch) (E : En) (c0 s0 : Nat) (l0 : Nat) (l1 : Int32) (l2 : Int32) (m : Mm) (o : Prop) : Mh wI l E mi_X11_run c0 s0 21 [(0, .ref l0), (1, .int l1), (2, .int l2)] [] m o (f_X11_run_21 l0 l1 l2 m o) := by
  refine Mh_iconst (v := 0) dX11_run_21 (by decide) ?_
  exact t_X11_run_22 l E c0 s0 _ _ _ _ _ _
def f_X11_run_14 (l0 : Nat) (l1 : Int32) (l2 : Int32) (y0 : Int32) (m : Mm) (o : Prop) : Int32 × Mm × Prop := if y0 = 0 then (f_X11_run_21 l0 l1 l2 m o) else (f_X11_run_22 l0 l1 l2 (1 : Int32) m o)
set_option maxRecDepth 10000 in
theorem t_X11_run_14 (l : Launch) (E : En) (c0 s0 : Nat) (l0 : Nat) (l1 : Int32) (l2 : Int32) (y0 : Int32) (m : Mm) (o : Prop) : Mh wI l E mi_X11_run c0 s0 14 [(0, .ref l0), (1, .int l1), (2, .int l2)] [.int y0] m o (f_X11_run_14 l0 l1 l2 y0 m o) := by
  refine Mh_if_eq (tgt := 21) dX11_run_14 (by decide) rfl (fun _ => ?_) (fun _ => ?_)
  · exact t_X11_run_21 l E c0 s0 _ _ _ _ _
  · refine Mh_iconst (v := 1) dX11_run_17 (by decide) ?_
    refine Mh_goto (tgt := 22) dX11_run_18 (by decide) ?_
    exact t_X11_run_22 l E c0 s0 _ _ _ _ _ _
def f_X11_run_0 (l0 : Nat) (l1 : Int32) (l2 : Int32) (m : Mm) (o : Prop) : Int32 × Mm × Prop := if l2 < (10 : Int32) then (f_X11_run_21 l0 l1 l2 m o) else (bnd (F_X11_hasStack l0 (l2 - (10 : Int32)) m (o ∧ gT m l0 = 11)) (fun v1 m1 o1 => f_X11_run_14 l0 l1 l2 v1 m1 o1))
set_option maxRecDepth 10000 in
theorem t_X11_run_0 (l : Launch) (E : En) (c0 s0 : Nat) (l0 : Nat) (l1 : Int32) (l2 : Int32) (m : Mm) (o : Prop) : Mh wI l E mi_X11_run c0 s0 0 [(0, .ref l0), (1, .int l1), (2, .int l2)] [] m o (f_X11_run_0 l0 l1 l2 m o) := by
  refine Mh_iload_n 2 rfl dX11_run_0 ?_
  refine Mh_bipush (v := 10) dX11_run_1 (by decide) ?_
  refine Mh_icmp_lt (tgt := 21) dX11_run_3 (by decide) rfl (fun _ => ?_) (fun _ => ?_)
  · exact t_X11_run_21 l E c0 s0 _ _ _ _ _
  · refine Mh_aload_n 0 rfl dX11_run_6 ?_
    refine Mh_iload_n 2 rfl dX11_run_7 ?_
    refine Mh_bipush (v := 10) dX11_run_8 (by decide) ?_
    refine Mh_isub dX11_run_10 ?_
    refine Mh_cvI (N := mi_X11_hasStack) (q := l0) (ci := 10) (as := [.int (l2 - (10 : Int32))]) (st := []) (id) cg_yX11_hasStack (by decide) rfl rfl ml_RX11_166 iv_yX11_hasStack pd_yX11_hasStack rfl (by decide) (Nat.le_of_ble_eq_true rfl) rfl dX11_run_11 (T_X11_hasStack l E _ _ _ _) rfl ?_
    exact t_X11_run_14 l E c0 s0 _ _ _ _ _ _
def F_X11_run (a0 : Nat) (a1 : Int32) (a2 : Int32) (m : Mm) (o : Prop) : Int32 × Mm × Prop := f_X11_run_0 a0 a1 a2 m o
theorem T_X11_run (l : Launch) (E : En) (a0 : Nat) (a1 : Int32) (a2 : Int32) (m : Mm) (o : Prop) : Mt wI l E yX11_run mi_X11_run [.ref a0, .int a1, .int a2] m o (F_X11_run a0 a1 a2 m o) :=
  Mt_I (by decide) rfl rfl rfl (Nat.le_of_ble_eq_true rfl) rfl (.inl rfl) (t_X11_run_0 l E _ _ _ _ _ _ _)
def f_X5_putSalt_10 (m : Mm) (o : Prop) : Unit × Mm × Prop := ((), m, o)
set_option maxRecDepth 10000 in
theorem t_X5_putSalt_10 (l : Launch) (E : En) (c0 s0 : Nat) (m : Mm) (o : Prop) : Mh wU l E mi_X5_putSalt c0 s0 10 [] [] m o (f_X5_putSalt_10  m o) := by
  exact Mh_ret dX5_putSalt_10 rfl (fun _ => trivial) rfl
def f_X5_putSalt_5 (l0 : Nat) (l2 : Int32) (m : Mm) (o : Prop) : Unit × Mm × Prop := f_X5_putSalt_10  (sI m l0 9 l2) (o ∧ gT m l0 = 6)
set_option maxRecDepth 10000 in
theorem t_X5_putSalt_5 (l : Launch) (E : En) (c0 s0 : Nat) (l0 : Nat) (l2 : Int32) (m : Mm) (o : Prop) : Mh wU l E mi_X5_putSalt c0 s0 5 [(0, .ref l0), (2, .int l2)] [] m o (f_X5_putSalt_5 l0 l2 m o) := by
  refine Mh_aload_n 0 rfl dX5_putSalt_5 ?_
  refine Mh_iload_n 1 rfl dX5_putSalt_6 ?_
  refine Mh_pI fd_5_9 ft_5 rfl fl_RX5_40 rfl dX5_putSalt_7 ?_
  refine Mh_sub (lv' := []) [] rfl ?_
  exact t_X5_putSalt_10 l E c0 s0  _ _
def f_X5_putSalt_0 (l0 : Nat) (l1 : Int32) (l2 : Int32) (m : Mm) (o : Prop) : Unit × Mm × Prop := f_X5_putSalt_5 l0 l2 (sI m l0 8 l1) (o ∧ gT m l0 = 6)
set_option maxRecDepth 10000 in
theorem t_X5_putSalt_0 (l : Launch) (E : En) (c0 s0 : Nat) (l0 : Nat) (l1 : Int32) (l2 : Int32) (m : Mm) (o : Prop) : Mh wU l E mi_X5_putSalt c0 s0 0 [(0, .ref l0), (1, .int l1), (2, .int l2)] [] m o (f_X5_putSalt_0 l0 l1 l2 m o) := by
  refine Mh_aload_n 0 rfl dX5_putSalt_0 ?_
  refine Mh_iload_n 1 rfl dX5_putSalt_1 ?_
  refine Mh_pI fd_5_8 ft_5 rfl fl_RX5_36 rfl dX5_putSalt_2 ?_
  refine Mh_sub (lv' := [(0, .ref l0), (2, .int l2)]) [0, 2] rfl ?_
  exact t_X5_putSalt_5 l E c0 s0 _ _ _ _
def F_X5_putSalt (a0 : Nat) (a1 : Int32) (a2 : Int32) (m : Mm) (o : Prop) : Unit × Mm × Prop := f_X5_putSalt_0 a0 a1 a2 m o
theorem T_X5_putSalt (l : Launch) (E : En) (a0 : Nat) (a1 : Int32) (a2 : Int32) (m : Mm) (o : Prop) : Mt wU l E yX5_putSalt mi_X5_putSalt [.ref a0, .int a1, .int a2] m o (F_X5_putSalt a0 a1 a2 m o) :=
  Mt_U (by decide) rfl (fun h => by cases h) rfl (Nat.le_of_ble_eq_true rfl) rfl (t_X5_putSalt_0 l E _ _ _ _ _ _ _)
def f_X11_salt_14 (m : Mm) (o : Prop) : Int32 × Mm × Prop := ((1 : Int32), m, o)
set_option maxRecDepth 10000 in
theorem t_X11_salt_14 (l : Launch) (E : En) (c0 s0 : Nat) (m : Mm) (o : Prop) : Mh wI l E mi_X11_salt c0 s0 14 [] [] m o (f_X11_salt_14  m o) := by
  refine Mh_iconst (v := 1) dX11_salt_14 (by decide) ?_
  exact Mh_ret dX11_salt_15 rfl (fun _ => rk1Z) rfl
def f_X11_salt_35 (m : Mm) (o : Prop) : Int32 × Mm × Prop := ((0 : Int32), m, o)
set_option maxRecDepth 10000 in
theorem t_X11_salt_35 (l : Launch) (E : En) (c0 s0 : Nat) (m : Mm) (o : Prop) : Mh wI l E mi_X11_salt c0 s0 35 [] [] m o (f_X11_salt_35  m o) := by
  refine Mh_iconst (v := 0) dX11_salt_35 (by decide) ?_
  exact Mh_ret dX11_salt_36 rfl (fun _ => rk0Z) rfl
def f_X11_salt_46 (m : Mm) (o : Prop) : Int32 × Mm × Prop := ((1 : Int32), m, o)
set_option maxRecDepth 10000 in
theorem t_X11_salt_46 (l : Launch) (E : En) (c0 s0 : Nat) (m : Mm) (o : Prop) : Mh wI l E mi_X11_salt c0 s0 46 [] [] m o (f_X11_salt_46  m o) := by
  refine Mh_iconst (v := 1) dX11_salt_46 (by decide) ?_
  exact Mh_ret dX11_salt_47 rfl (fun _ => rk1Z) rfl
def f_X11_salt_32 (l0 : Nat) (l1 : Int32) (l2 : Int32) (y0 : Int32) (m : Mm) (o : Prop) : Int32 × Mm × Prop := if y0 = 0 then (f_X11_salt_35  m o) else (bnd (F_X5_putSalt (gR m l0 0) l1 l2 m ((o ∧ (gT m l0 = 11 ∧ gR m l0 0 ≠ 0)) ∧ gT m (gR m l0 0) = 6)) (fun _ m1 o1 => f_X11_salt_46  m1 o1))
set_option maxRecDepth 10000 in
theorem t_X11_salt_32 (l : Launch) (E : En) (c0 s0 : Nat) (l0 : Nat) (l1 : Int32) (l2 : Int32) (y0 : Int32) (m : Mm) (o : Prop) : Mh wI l E mi_X11_salt c0 s0 32 [(0, .ref l0), (1, .int l1), (2, .int l2)] [.int y0] m o (f_X11_salt_32 l0 l1 l2 y0 m o) := by
  refine Mh_if_ne (tgt := 37) dX11_salt_32 (by decide) rfl (fun _ => ?_) (fun _ => ?_)
  · refine Mh_aload_n 0 rfl dX11_salt_37 ?_
    refine Mh_gR fd_10_0 fl_RX11_10 dX11_salt_38 ?_
    refine Mh_iload_n 1 rfl dX11_salt_41 ?_
    refine Mh_iload_n 2 rfl dX11_salt_42 ?_
    refine Mh_cvU (N := mi_X5_putSalt) (q := gR m l0 0) (ci := 5) (as := [.int l1, .int l2]) (st := []) (id) cg_yX5_putSalt (by decide) rfl rfl ml_RX11_131 iv_yX5_putSalt pd_yX5_putSalt rfl (by decide) (Nat.le_of_ble_eq_true rfl) rfl dX11_salt_43 (T_X5_putSalt l E _ _ _ _ _) rfl ?_
    refine Mh_sub (lv' := []) [] rfl ?_
    exact t_X11_salt_46 l E c0 s0  _ _
  · refine Mh_sub (lv' := []) [] rfl ?_
    exact t_X11_salt_35 l E c0 s0  _ _
def f_X11_salt_21 (l0 : Nat) (l1 : Int32) (l2 : Int32) (y0 : Int32) (m : Mm) (o : Prop) : Int32 × Mm × Prop := if y0 = 0 then (f_X11_salt_35  m o) else (bnd (F_X11_isWithin l2 (0 : Int32) (999 : Int32) m o) (fun v1 m1 o1 => f_X11_salt_32 l0 l1 l2 v1 m1 o1))
set_option maxRecDepth 10000 in
theorem t_X11_salt_21 (l : Launch) (E : En) (c0 s0 : Nat) (l0 : Nat) (l1 : Int32) (l2 : Int32) (y0 : Int32) (m : Mm) (o : Prop) : Mh wI l E mi_X11_salt c0 s0 21 [(0, .ref l0), (1, .int l1), (2, .int l2)] [.int y0] m o (f_X11_salt_21 l0 l1 l2 y0 m o) := by
  refine Mh_if_eq (tgt := 35) dX11_salt_21 (by decide) rfl (fun _ => ?_) (fun _ => ?_)
  · refine Mh_sub (lv' := []) [] rfl ?_
    exact t_X11_salt_35 l E c0 s0  _ _
  · refine Mh_iload_n 2 rfl dX11_salt_24 ?_
    refine Mh_iconst (v := 0) dX11_salt_25 (by decide) ?_
    refine Mh_sipush (v := 999) dX11_salt_26 (by decide) ?_
    refine Mh_csI (N := mi_X11_isWithin) (as := [.int l2, .int (0 : Int32), .int (999 : Int32)]) (st := []) cg_yX11_isWithin (.inl ml_RX11_90) sv_yX11_isWithin pd_yX11_isWithin rfl (by decide) (Nat.le_of_ble_eq_true rfl) rfl dX11_salt_29 (T_X11_isWithin l E _ _ _ _ _) rfl ?_
    exact t_X11_salt_32 l E c0 s0 _ _ _ _ _ _
def f_X11_salt_0 (l0 : Nat) (l1 : Int32) (l2 : Int32) (m : Mm) (o : Prop) : Int32 × Mm × Prop := if l1 = (-1 : Int32) then (bnd (F_X5_putSalt (gR m l0 0) (-1 : Int32) (-1 : Int32) m ((o ∧ (gT m l0 = 11 ∧ gR m l0 0 ≠ 0)) ∧ gT m (gR m l0 0) = 6)) (fun _ m1 o1 => f_X11_salt_14  m1 o1)) else (bnd (F_X11_isStanding l0 l1 m (o ∧ gT m l0 = 11)) (fun v1 m1 o1 => f_X11_salt_21 l0 l1 l2 v1 m1 o1))
set_option maxRecDepth 10000 in
theorem t_X11_salt_0 (l : Launch) (E : En) (c0 s0 : Nat) (l0 : Nat) (l1 : Int32) (l2 : Int32) (m : Mm) (o : Prop) : Mh wI l E mi_X11_salt c0 s0 0 [(0, .ref l0), (1, .int l1), (2, .int l2)] [] m o (f_X11_salt_0 l0 l1 l2 m o) := by
  refine Mh_iload_n 1 rfl dX11_salt_0 ?_
  refine Mh_iconst (v := (-1)) dX11_salt_1 (by decide) ?_
  refine Mh_icmp_ne (tgt := 16) dX11_salt_2 (by decide) rfl (fun _ => ?_) (fun _ => ?_)
  · refine Mh_aload_n 0 rfl dX11_salt_16 ?_
    refine Mh_iload_n 1 rfl dX11_salt_17 ?_
    refine Mh_cvI (N := mi_X11_isStanding) (q := l0) (ci := 10) (as := [.int l1]) (st := []) (id) cg_yX11_isStanding (by decide) rfl rfl ml_RX11_135 iv_yX11_isStanding pd_yX11_isStanding rfl (by decide) (Nat.le_of_ble_eq_true rfl) rfl dX11_salt_18 (T_X11_isStanding l E _ _ _ _) rfl ?_
    exact t_X11_salt_21 l E c0 s0 _ _ _ _ _ _
  · refine Mh_aload_n 0 rfl dX11_salt_5 ?_
    refine Mh_gR fd_10_0 fl_RX11_10 dX11_salt_6 ?_
    refine Mh_iconst (v := (-1)) dX11_salt_9 (by decide) ?_
    refine Mh_iconst (v := (-1)) dX11_salt_10 (by decide) ?_
    refine Mh_cvU (N := mi_X5_putSalt) (q := gR m l0 0) (ci := 5) (as := [.int (-1 : Int32), .int (-1 : Int32)]) (st := []) (id) cg_yX5_putSalt (by decide) rfl rfl ml_RX11_131 iv_yX5_putSalt pd_yX5_putSalt rfl (by decide) (Nat.le_of_ble_eq_true rfl) rfl dX11_salt_11 (T_X5_putSalt l E _ _ _ _ _) rfl ?_
    refine Mh_sub (lv' := []) [] rfl ?_
    exact t_X11_salt_14 l E c0 s0  _ _
def F_X11_salt (a0 : Nat) (a1 : Int32) (a2 : Int32) (m : Mm) (o : Prop) : Int32 × Mm × Prop := f_X11_salt_0 a0 a1 a2 m o
theorem T_X11_salt (l : Launch) (E : En) (a0 : Nat) (a1 : Int32) (a2 : Int32) (m : Mm) (o : Prop) : Mt wI l E yX11_salt mi_X11_salt [.ref a0, .int a1, .int a2] m o (F_X11_salt a0 a1 a2 m o) :=
  Mt_I (by decide) rfl rfl rfl (Nat.le_of_ble_eq_true rfl) rfl (.inr (.inl rfl)) (t_X11_salt_0 l E _ _ _ _ _ _ _)
def f_X10_countFit_27 (m : Mm) (o : Prop) : Unit × Mm × Prop := ((), m, o)
set_option maxRecDepth 10000 in
theorem t_X10_countFit_27 (l : Launch) (E : En) (c0 s0 : Nat) (m : Mm) (o : Prop) : Mh wU l E mi_X10_countFit c0 s0 27 [] [] m o (f_X10_countFit_27  m o) := by
  exact Mh_ret dX10_countFit_27 rfl (fun _ => trivial) rfl
def f_X10_countFit_17 (l0 : Nat) (m : Mm) (o : Prop) : Unit × Mm × Prop := f_X10_countFit_27  (sI m l0 6 ((gI m l0 6) + (1 : Int32))) (o ∧ gT m l0 = 10)
set_option maxRecDepth 10000 in
theorem t_X10_countFit_17 (l : Launch) (E : En) (c0 s0 : Nat) (l0 : Nat) (m : Mm) (o : Prop) : Mh wU l E mi_X10_countFit c0 s0 17 [(0, .ref l0)] [] m o (f_X10_countFit_17 l0 m o) := by
  refine Mh_aload_n 0 rfl dX10_countFit_17 ?_
  refine Mh_dup dX10_countFit_18 rfl ?_
  refine Mh_gI fd_9_6 fl_RX10_52 dX10_countFit_19 ?_
  refine Mh_iconst (v := 1) dX10_countFit_22 (by decide) ?_
  refine Mh_iadd dX10_countFit_23 ?_
  refine Mh_pI fd_9_6 ft_9 rfl fl_RX10_52 rfl dX10_countFit_24 ?_
  refine Mh_ok (fun h => h.2) ?_
  refine Mh_sub (lv' := []) [] rfl ?_
  exact t_X10_countFit_27 l E c0 s0  _ _
def f_X10_countFit_12 (l0 : Nat) (l2 : Int32) (m : Mm) (o : Prop) : Unit × Mm × Prop := f_X10_countFit_17 l0 (sI m l0 8 l2) (o ∧ gT m l0 = 10)
set_option maxRecDepth 10000 in
theorem t_X10_countFit_12 (l : Launch) (E : En) (c0 s0 : Nat) (l0 : Nat) (l2 : Int32) (m : Mm) (o : Prop) : Mh wU l E mi_X10_countFit c0 s0 12 [(0, .ref l0), (2, .int l2)] [] m o (f_X10_countFit_12 l0 l2 m o) := by
  refine Mh_aload_n 0 rfl dX10_countFit_12 ?_
  refine Mh_iload_n 1 rfl dX10_countFit_13 ?_
  refine Mh_pI fd_9_8 ft_9 rfl fl_RX10_58 rfl dX10_countFit_14 ?_
  refine Mh_sub (lv' := [(0, .ref l0)]) [0] rfl ?_
  exact t_X10_countFit_17 l E c0 s0 _ _ _
def f_X10_countFit_0 (l0 : Nat) (l1 : Int32) (l2 : Int32) (m : Mm) (o : Prop) : Unit × Mm × Prop := if (gI m l0 6) = 0 then (f_X10_countFit_12 l0 l2 (sI m l0 7 l1) (o ∧ gT m l0 = 10)) else (f_X10_countFit_17 l0 m (o ∧ gT m l0 = 10))
set_option maxRecDepth 10000 in
theorem t_X10_countFit_0 (l : Launch) (E : En) (c0 s0 : Nat) (l0 : Nat) (l1 : Int32) (l2 : Int32) (m : Mm) (o : Prop) : Mh wU l E mi_X10_countFit c0 s0 0 [(0, .ref l0), (1, .int l1), (2, .int l2)] [] m o (f_X10_countFit_0 l0 l1 l2 m o) := by
  refine Mh_aload_n 0 rfl dX10_countFit_0 ?_
  refine Mh_gI fd_9_6 fl_RX10_52 dX10_countFit_1 ?_
  refine Mh_if_ne (tgt := 17) dX10_countFit_4 (by decide) rfl (fun _ => ?_) (fun _ => ?_)
  · refine Mh_sub (lv' := [(0, .ref l0)]) [0] rfl ?_
    exact t_X10_countFit_17 l E c0 s0 _ _ _
  · refine Mh_aload_n 0 rfl dX10_countFit_7 ?_
    refine Mh_iload_n 1 rfl dX10_countFit_8 ?_
    refine Mh_pI fd_9_7 ft_9 rfl fl_RX10_55 rfl dX10_countFit_9 ?_
    refine Mh_ok (fun h => h.2) ?_
    refine Mh_sub (lv' := [(0, .ref l0), (2, .int l2)]) [0, 2] rfl ?_
    exact t_X10_countFit_12 l E c0 s0 _ _ _ _
def F_X10_countFit (a0 : Nat) (a1 : Int32) (a2 : Int32) (m : Mm) (o : Prop) : Unit × Mm × Prop := f_X10_countFit_0 a0 a1 a2 m o
theorem T_X10_countFit (l : Launch) (E : En) (a0 : Nat) (a1 : Int32) (a2 : Int32) (m : Mm) (o : Prop) : Mt wU l E yX10_countFit mi_X10_countFit [.ref a0, .int a1, .int a2] m o (F_X10_countFit a0 a1 a2 m o) :=
  Mt_U (by decide) rfl (fun h => by cases h) rfl (Nat.le_of_ble_eq_true rfl) rfl (t_X10_countFit_0 l E _ _ _ _ _ _ _)
def f_X10_fits_97 (k21 : Nat → Nat → Int32 → Mm → Prop → Int32 × Mm × Prop) (k49 : Nat → Nat → Int32 → Int32 → Mm → Prop → Int32 × Mm × Prop) (l0 : Nat) (l2 : Nat) (l5 : Int32) (l6 : Int32) (m : Mm) (o : Prop) : Int32 × Mm × Prop := k49 l0 l2 l5 (l6 + 1) m o
set_option maxRecDepth 10000 in
theorem t_X10_fits_97 (l : Launch) (E : En) (c0 s0 : Nat) (k21 : Nat → Nat → Int32 → Mm → Prop → Int32 × Mm × Prop) (hk21 : ∀ (l0 : Nat) (l2 : Nat) (l5 : Int32) (m : Mm) (o : Prop), Mh wI l E mi_X10_fits c0 s0 21 [(0, .ref l0), (2, .ref l2), (5, .int l5)] [] m o (k21 l0 l2 l5 m o)) (k49 : Nat → Nat → Int32 → Int32 → Mm → Prop → Int32 × Mm × Prop) (hk49 : ∀ (l0 : Nat) (l2 : Nat) (l5 : Int32) (l6 : Int32) (m : Mm) (o : Prop), Mh wI l E mi_X10_fits c0 s0 49 [(0, .ref l0), (2, .ref l2), (5, .int l5), (6, .int l6)] [] m o (k49 l0 l2 l5 l6 m o)) (l0 : Nat) (l2 : Nat) (l5 : Int32) (l6 : Int32) (m : Mm) (o : Prop) : Mh wI l E mi_X10_fits c0 s0 97 [(0, .ref l0), (2, .ref l2), (5, .int l5), (6, .int l6)] [] m o (f_X10_fits_97 k21 k49 l0 l2 l5 l6 m o) := by
  refine Mh_iinc (v := l6 + 1) (lv' := [(6, .int (l6 + 1)), (0, .ref l0), (2, .ref l2), (5, .int l5)]) 3 dX10_fits_97 rfl rfl (Nat.le_of_ble_eq_true rfl) rfl ?_
  refine Mh_goto (tgt := 49) dX10_fits_100 (by decide) ?_
  refine Mh_sub (lv' := [(0, .ref l0), (2, .ref l2), (5, .int l5), (6, .int (l6 + 1))]) [1, 2, 3, 0] rfl ?_
  exact hk49 _ _ _ _ _ _
def f_X10_fits_49b (k21 : Nat → Nat → Int32 → Mm → Prop → Int32 × Mm × Prop) (k49 : Nat → Nat → Int32 → Int32 → Mm → Prop → Int32 × Mm × Prop) (l0 : Nat) (l2 : Nat) (l5 : Int32) (l6 : Int32) (m : Mm) (o : Prop) : Int32 × Mm × Prop := if (gI m l0 4) ≤ l6 then (k21 l0 l2 (l5 + 1) m (o ∧ gT m l0 = 10)) else (if (gI m (gR m l0 2) (ix l6)) = l5 then (if (gI m (gR m (gR m l0 3) 3) (ix (gI m (gR m l0 0) (ix l6)))) = (gI m (gR m l0 1) (ix l6)) then (f_X10_fits_97 k21 k49 l0 l2 l5 l6 m ((((((((((o ∧ gT m l0 = 10) ∧ (gT m l0 = 10 ∧ gR m l0 2 ≠ 0)) ∧ (gT m (gR m l0 2) = 20 ∧ vp_in l6 (gN m (gR m l0 2)))) ∧ (gT m l0 = 10 ∧ gR m l0 3 ≠ 0)) ∧ (gT m (gR m l0 3) = 6 ∧ gR m (gR m l0 3) 3 ≠ 0)) ∧ (gT m l0 = 10 ∧ gR m l0 0 ≠ 0)) ∧ (gT m (gR m l0 0) = 20 ∧ vp_in l6 (gN m (gR m l0 0)))) ∧ (gT m (gR m (gR m l0 3) 3) = 20 ∧ vp_in (gI m (gR m l0 0) (ix l6)) (gN m (gR m (gR m l0 3) 3)))) ∧ (gT m l0 = 10 ∧ gR m l0 1 ≠ 0)) ∧ (gT m (gR m l0 1) = 20 ∧ vp_in l6 (gN m (gR m l0 1))))) else ((0 : Int32), m, ((((((((((o ∧ gT m l0 = 10) ∧ (gT m l0 = 10 ∧ gR m l0 2 ≠ 0)) ∧ (gT m (gR m l0 2) = 20 ∧ vp_in l6 (gN m (gR m l0 2)))) ∧ (gT m l0 = 10 ∧ gR m l0 3 ≠ 0)) ∧ (gT m (gR m l0 3) = 6 ∧ gR m (gR m l0 3) 3 ≠ 0)) ∧ (gT m l0 = 10 ∧ gR m l0 0 ≠ 0)) ∧ (gT m (gR m l0 0) = 20 ∧ vp_in l6 (gN m (gR m l0 0)))) ∧ (gT m (gR m (gR m l0 3) 3) = 20 ∧ vp_in (gI m (gR m l0 0) (ix l6)) (gN m (gR m (gR m l0 3) 3)))) ∧ (gT m l0 = 10 ∧ gR m l0 1 ≠ 0)) ∧ (gT m (gR m l0 1) = 20 ∧ vp_in l6 (gN m (gR m l0 1)))))) else (f_X10_fits_97 k21 k49 l0 l2 l5 l6 m (((o ∧ gT m l0 = 10) ∧ (gT m l0 = 10 ∧ gR m l0 2 ≠ 0)) ∧ (gT m (gR m l0 2) = 20 ∧ vp_in l6 (gN m (gR m l0 2))))))
set_option maxRecDepth 10000 in
theorem t_X10_fits_49b (l : Launch) (E : En) (c0 s0 : Nat) (k21 : Nat → Nat → Int32 → Mm → Prop → Int32 × Mm × Prop) (hk21 : ∀ (l0 : Nat) (l2 : Nat) (l5 : Int32) (m : Mm) (o : Prop), Mh wI l E mi_X10_fits c0 s0 21 [(0, .ref l0), (2, .ref l2), (5, .int l5)] [] m o (k21 l0 l2 l5 m o)) (k49 : Nat → Nat → Int32 → Int32 → Mm → Prop → Int32 × Mm × Prop) (hk49 : ∀ (l0 : Nat) (l2 : Nat) (l5 : Int32) (l6 : Int32) (m : Mm) (o : Prop), Mh wI l E mi_X10_fits c0 s0 49 [(0, .ref l0), (2, .ref l2), (5, .int l5), (6, .int l6)] [] m o (k49 l0 l2 l5 l6 m o)) (l0 : Nat) (l2 : Nat) (l5 : Int32) (l6 : Int32) (m : Mm) (o : Prop) : Mh wI l E mi_X10_fits c0 s0 49 [(0, .ref l0), (2, .ref l2), (5, .int l5), (6, .int l6)] [] m o (f_X10_fits_49b k21 k49 l0 l2 l5 l6 m o) := by
  refine Mh_iload 3 rfl dX10_fits_49 ?_
  refine Mh_aload_n 0 rfl dX10_fits_51 ?_
  refine Mh_gI fd_9_4 fl_RX10_25 dX10_fits_52 ?_
  refine Mh_icmp_ge (tgt := 103) dX10_fits_55 (by decide) rfl (fun _ => ?_) (fun _ => ?_)
  · refine Mh_iinc (v := l5 + 1) (lv' := [(5, .int (l5 + 1)), (0, .ref l0), (2, .ref l2), (6, .int l6)]) 2 dX10_fits_103 rfl rfl (Nat.le_of_ble_eq_true rfl) rfl ?_
    refine Mh_goto (tgt := 21) dX10_fits_106 (by decide) ?_
    refine Mh_sub (lv' := [(0, .ref l0), (2, .ref l2), (5, .int (l5 + 1))]) [1, 2, 0] rfl ?_
    exact hk21 _ _ _ _ _
  · refine Mh_aload_n 0 rfl dX10_fits_58 ?_
    refine Mh_gR fd_9_2 fl_RX10_18 dX10_fits_59 ?_
    refine Mh_iload 3 rfl dX10_fits_62 ?_
    refine Mh_ial dX10_fits_64 ?_
    refine Mh_iload 2 rfl dX10_fits_65 ?_
    refine Mh_icmp_ne (tgt := 97) dX10_fits_67 (by decide) rfl (fun _ => ?_) (fun _ => ?_)
    · exact t_X10_fits_97 l E c0 s0 k21 hk21 k49 hk49 _ _ _ _ _ _
    · refine Mh_aload_n 0 rfl dX10_fits_70 ?_
      refine Mh_gR fd_9_3 fl_RX10_21 dX10_fits_71 ?_
      refine Mh_gR fd_5_3 fl_RX10_95 dX10_fits_74 ?_
      refine Mh_aload_n 0 rfl dX10_fits_77 ?_
      refine Mh_gR fd_9_0 fl_RX10_11 dX10_fits_78 ?_
      refine Mh_iload 3 rfl dX10_fits_81 ?_
      refine Mh_ial dX10_fits_83 ?_
      refine Mh_ial dX10_fits_84 ?_
      refine Mh_aload_n 0 rfl dX10_fits_85 ?_
      refine Mh_gR fd_9_1 fl_RX10_15 dX10_fits_86 ?_
      refine Mh_iload 3 rfl dX10_fits_89 ?_
      refine Mh_ial dX10_fits_91 ?_
      refine Mh_icmp_eq (tgt := 97) dX10_fits_92 (by decide) rfl (fun _ => ?_) (fun _ => ?_)
      · exact t_X10_fits_97 l E c0 s0 k21 hk21 k49 hk49 _ _ _ _ _ _
      · refine Mh_iconst (v := 0) dX10_fits_95 (by decide) ?_
        exact Mh_ret dX10_fits_96 rfl (fun _ => rk0Z) rfl
def f_X10_fits_49 (k21 : Nat → Nat → Int32 → Mm → Prop → Int32 × Mm × Prop) : Nat → Nat → Nat → Int32 → Int32 → Mm → Prop → Int32 × Mm × Prop
  | 0, _, _, _, _, m, _ => (0, m, False)
  | n + 1, l0, l2, l5, l6, m, o => f_X10_fits_49b k21 (f_X10_fits_49 k21 n) l0 l2 l5 l6 m o
theorem t_X10_fits_49 (l : Launch) (E : En) (c0 s0 : Nat) (k21 : Nat → Nat → Int32 → Mm → Prop → Int32 × Mm × Prop) (hk21 : ∀ (l0 : Nat) (l2 : Nat) (l5 : Int32) (m : Mm) (o : Prop), Mh wI l E mi_X10_fits c0 s0 21 [(0, .ref l0), (2, .ref l2), (5, .int l5)] [] m o (k21 l0 l2 l5 m o)) : ∀ (n : Nat) (l0 : Nat) (l2 : Nat) (l5 : Int32) (l6 : Int32) (m : Mm) (o : Prop), Mh wI l E mi_X10_fits c0 s0 49 [(0, .ref l0), (2, .ref l2), (5, .int l5), (6, .int l6)] [] m o (f_X10_fits_49 k21 n l0 l2 l5 l6 m o)
  | 0, _, _, _, _, _, _ => Mh_out rfl
  | n + 1, l0, l2, l5, l6, m, o => t_X10_fits_49b l E c0 s0 k21 hk21 (f_X10_fits_49 k21 n) (t_X10_fits_49 l E c0 s0 k21 hk21 n) l0 l2 l5 l6 m o
def f_X10_fits_45 (k21 : Nat → Nat → Int32 → Mm → Prop → Int32 × Mm × Prop) (l0 : Nat) (l2 : Nat) (l5 : Int32) (y0 : Int32) (m : Mm) (o : Prop) : Int32 × Mm × Prop := f_X10_fits_49 k21 1000 l0 l2 l5 (0 : Int32) m o
set_option maxRecDepth 10000 in
theorem t_X10_fits_45 (l : Launch) (E : En) (c0 s0 : Nat) (k21 : Nat → Nat → Int32 → Mm → Prop → Int32 × Mm × Prop) (hk21 : ∀ (l0 : Nat) (l2 : Nat) (l5 : Int32) (m : Mm) (o : Prop), Mh wI l E mi_X10_fits c0 s0 21 [(0, .ref l0), (2, .ref l2), (5, .int l5)] [] m o (k21 l0 l2 l5 m o)) (l0 : Nat) (l2 : Nat) (l5 : Int32) (y0 : Int32) (m : Mm) (o : Prop) : Mh wI l E mi_X10_fits c0 s0 45 [(0, .ref l0), (2, .ref l2), (5, .int l5)] [.int y0] m o (f_X10_fits_45 k21 l0 l2 l5 y0 m o) := by
  refine Mh_pop dX10_fits_45 rfl ?_
  refine Mh_iconst (v := 0) dX10_fits_46 (by decide) ?_
  refine Mh_istore (lv' := [(6, .int (0 : Int32)), (0, .ref l0), (2, .ref l2), (5, .int l5)]) dX10_fits_47 (Nat.le_of_ble_eq_true rfl) rfl ?_
  refine Mh_sub (lv' := [(0, .ref l0), (2, .ref l2), (5, .int l5), (6, .int (0 : Int32))]) [1, 2, 3, 0] rfl ?_
  exact t_X10_fits_49 l E c0 s0 k21 hk21 _ _ _ _ _ _ _
def f_X10_fits_109 (m : Mm) (o : Prop) : Int32 × Mm × Prop := ((1 : Int32), m, o)
set_option maxRecDepth 10000 in
theorem t_X10_fits_109 (l : Launch) (E : En) (c0 s0 : Nat) (m : Mm) (o : Prop) : Mh wI l E mi_X10_fits c0 s0 109 [] [] m o (f_X10_fits_109  m o) := by
  refine Mh_iconst (v := 1) dX10_fits_109 (by decide) ?_
  exact Mh_ret dX10_fits_110 rfl (fun _ => rk1Z) rfl
def f_X10_fits_21b (k21 : Nat → Nat → Int32 → Mm → Prop → Int32 × Mm × Prop) (l0 : Nat) (l2 : Nat) (l5 : Int32) (m : Mm) (o : Prop) : Int32 × Mm × Prop := if (gI m l0 5) < l5 then (f_X10_fits_109  m (o ∧ gT m l0 = 10)) else (if (10 : Int32) ≤ l5 then (f_X10_fits_109  m (o ∧ gT m l0 = 10)) else (bnd (F_X5_passDay (gR m l0 3) l2 m (((o ∧ gT m l0 = 10) ∧ (gT m l0 = 10 ∧ gR m l0 3 ≠ 0)) ∧ gT m (gR m l0 3) = 6)) (fun v1 m1 o1 => f_X10_fits_45 k21 l0 l2 l5 v1 m1 o1)))
set_option maxRecDepth 10000 in
theorem t_X10_fits_21b (l : Launch) (E : En) (c0 s0 : Nat) (k21 : Nat → Nat → Int32 → Mm → Prop → Int32 × Mm × Prop) (hk21 : ∀ (l0 : Nat) (l2 : Nat) (l5 : Int32) (m : Mm) (o : Prop), Mh wI l E mi_X10_fits c0 s0 21 [(0, .ref l0), (2, .ref l2), (5, .int l5)] [] m o (k21 l0 l2 l5 m o)) (l0 : Nat) (l2 : Nat) (l5 : Int32) (m : Mm) (o : Prop) : Mh wI l E mi_X10_fits c0 s0 21 [(0, .ref l0), (2, .ref l2), (5, .int l5)] [] m o (f_X10_fits_21b k21 l0 l2 l5 m o) := by
  refine Mh_iload 2 rfl dX10_fits_21 ?_
  refine Mh_aload_n 0 rfl dX10_fits_23 ?_
  refine Mh_gI fd_9_5 fl_RX10_29 dX10_fits_24 ?_
  refine Mh_icmp_gt (tgt := 109) dX10_fits_27 (by decide) rfl (fun _ => ?_) (fun _ => ?_)
  · refine Mh_sub (lv' := []) [] rfl ?_
    exact t_X10_fits_109 l E c0 s0  _ _
  · refine Mh_iload 2 rfl dX10_fits_30 ?_
    refine Mh_bipush (v := 10) dX10_fits_32 (by decide) ?_
    refine Mh_icmp_ge (tgt := 109) dX10_fits_34 (by decide) rfl (fun _ => ?_) (fun _ => ?_)
    · refine Mh_sub (lv' := []) [] rfl ?_
      exact t_X10_fits_109 l E c0 s0  _ _
    · refine Mh_aload_n 0 rfl dX10_fits_37 ?_
      refine Mh_gR fd_9_3 fl_RX10_21 dX10_fits_38 ?_
      refine Mh_aload_n 1 rfl dX10_fits_41 ?_
      refine Mh_cvI (N := mi_X5_passDay) (q := gR m l0 3) (ci := 5) (as := [.ref l2]) (st := []) (id) cg_yX5_passDay (by decide) rfl rfl ml_RX10_91 iv_yX5_passDay pd_yX5_passDay rfl (by decide) (Nat.le_of_ble_eq_true rfl) rfl dX10_fits_42 (T_X5_passDay l E _ _ _ _) rfl ?_
      exact t_X10_fits_45 l E c0 s0 k21 hk21 _ _ _ _ _ _
def f_X10_fits_21 : Nat → Nat → Nat → Int32 → Mm → Prop → Int32 × Mm × Prop
  | 0, _, _, _, m, _ => (0, m, False)
  | n + 1, l0, l2, l5, m, o => f_X10_fits_21b (f_X10_fits_21 n) l0 l2 l5 m o
theorem t_X10_fits_21 (l : Launch) (E : En) (c0 s0 : Nat) : ∀ (n : Nat) (l0 : Nat) (l2 : Nat) (l5 : Int32) (m : Mm) (o : Prop), Mh wI l E mi_X10_fits c0 s0 21 [(0, .ref l0), (2, .ref l2), (5, .int l5)] [] m o (f_X10_fits_21 n l0 l2 l5 m o)
  | 0, _, _, _, _, _ => Mh_out rfl
  | n + 1, l0, l2, l5, m, o => t_X10_fits_21b l E c0 s0 (f_X10_fits_21 n) (t_X10_fits_21 l E c0 s0 n) l0 l2 l5 m o
def f_X10_fits_18 (l0 : Nat) (l2 : Nat) (m : Mm) (o : Prop) : Int32 × Mm × Prop := f_X10_fits_21 1000 l0 l2 (0 : Int32) m o
set_option maxRecDepth 10000 in
theorem t_X10_fits_18 (l : Launch) (E : En) (c0 s0 : Nat) (l0 : Nat) (l2 : Nat) (m : Mm) (o : Prop) : Mh wI l E mi_X10_fits c0 s0 18 [(0, .ref l0), (2, .ref l2)] [] m o (f_X10_fits_18 l0 l2 m o) := by
  refine Mh_iconst (v := 0) dX10_fits_18 (by decide) ?_
  refine Mh_istore (lv' := [(5, .int (0 : Int32)), (0, .ref l0), (2, .ref l2)]) dX10_fits_19 (Nat.le_of_ble_eq_true rfl) rfl ?_
  refine Mh_sub (lv' := [(0, .ref l0), (2, .ref l2), (5, .int (0 : Int32))]) [1, 2, 0] rfl ?_
  exact t_X10_fits_21 l E c0 s0 _ _ _ _ _ _
def f_X10_fits_8 (l0 : Nat) (l2 : Nat) (l3 : Int32) (l4 : Int32) (m : Mm) (o : Prop) : Int32 × Mm × Prop := bnd (F_X5_putSalt (gR m l0 3) l3 l4 m ((o ∧ (gT m l0 = 10 ∧ gR m l0 3 ≠ 0)) ∧ gT m (gR m l0 3) = 6)) (fun _ m1 o1 => f_X10_fits_18 l0 l2 m1 o1)
set_option maxRecDepth 10000 in
theorem t_X10_fits_8 (l : Launch) (E : En) (c0 s0 : Nat) (l0 : Nat) (l2 : Nat) (l3 : Int32) (l4 : Int32) (m : Mm) (o : Prop) : Mh wI l E mi_X10_fits c0 s0 8 [(0, .ref l0), (2, .ref l2), (3, .int l3), (4, .int l4)] [] m o (f_X10_fits_8 l0 l2 l3 l4 m o) := by
  refine Mh_aload_n 0 rfl dX10_fits_8 ?_
  refine Mh_gR fd_9_3 fl_RX10_21 dX10_fits_9 ?_
  refine Mh_iload_n 2 rfl dX10_fits_12 ?_
  refine Mh_iload 3 rfl dX10_fits_13 ?_
  refine Mh_cvU (N := mi_X5_putSalt) (q := gR m l0 3) (ci := 5) (as := [.int l3, .int l4]) (st := []) (id) cg_yX5_putSalt (by decide) rfl rfl ml_RX10_88 iv_yX5_putSalt pd_yX5_putSalt rfl (by decide) (Nat.le_of_ble_eq_true rfl) rfl dX10_fits_15 (T_X5_putSalt l E _ _ _ _ _) rfl ?_
  refine Mh_sub (lv' := [(0, .ref l0), (2, .ref l2)]) [0, 1] rfl ?_
  exact t_X10_fits_18 l E c0 s0 _ _ _ _
def f_X10_fits_0 (l0 : Nat) (l1 : Nat) (l2 : Nat) (l3 : Int32) (l4 : Int32) (m : Mm) (o : Prop) : Int32 × Mm × Prop := bnd (F_X5_startRun (gR m l0 3) l1 m ((o ∧ (gT m l0 = 10 ∧ gR m l0 3 ≠ 0)) ∧ gT m (gR m l0 3) = 6)) (fun _ m1 o1 => f_X10_fits_8 l0 l2 l3 l4 m1 o1)
set_option maxRecDepth 10000 in
theorem t_X10_fits_0 (l : Launch) (E : En) (c0 s0 : Nat) (l0 : Nat) (l1 : Nat) (l2 : Nat) (l3 : Int32) (l4 : Int32) (m : Mm) (o : Prop) : Mh wI l E mi_X10_fits c0 s0 0 [(0, .ref l0), (1, .ref l1), (2, .ref l2), (3, .int l3), (4, .int l4)] [] m o (f_X10_fits_0 l0 l1 l2 l3 l4 m o) := by
  refine Mh_aload_n 0 rfl dX10_fits_0 ?_
  refine Mh_gR fd_9_3 fl_RX10_21 dX10_fits_1 ?_
  refine Mh_aload_n 1 rfl dX10_fits_4 ?_
  refine Mh_cvU (N := mi_X5_startRun) (q := gR m l0 3) (ci := 5) (as := [.ref l1]) (st := []) (id) cg_yX5_startRun (by decide) rfl rfl ml_RX10_84 iv_yX5_startRun pd_yX5_startRun rfl (by decide) (Nat.le_of_ble_eq_true rfl) rfl dX10_fits_5 (T_X5_startRun l E _ _ _ _) rfl ?_
  refine Mh_sub (lv' := [(0, .ref l0), (2, .ref l2), (3, .int l3), (4, .int l4)]) [0, 2, 3, 4] rfl ?_
  exact t_X10_fits_8 l E c0 s0 _ _ _ _ _ _
def F_X10_fits (a0 : Nat) (a1 : Nat) (a2 : Nat) (a3 : Int32) (a4 : Int32) (m : Mm) (o : Prop) : Int32 × Mm × Prop := f_X10_fits_0 a0 a1 a2 a3 a4 m o
theorem T_X10_fits (l : Launch) (E : En) (a0 : Nat) (a1 : Nat) (a2 : Nat) (a3 : Int32) (a4 : Int32) (m : Mm) (o : Prop) : Mt wI l E yX10_fits mi_X10_fits [.ref a0, .ref a1, .ref a2, .int a3, .int a4] m o (F_X10_fits a0 a1 a2 a3 a4 m o) :=
  Mt_I (by decide) rfl rfl rfl (Nat.le_of_ble_eq_true rfl) rfl (.inr (.inl rfl)) (t_X10_fits_0 l E _ _ _ _ _ _ _ _ _)
def f_X10_findFits_80 (k26 : Nat → Nat → Nat → Int32 → Mm → Prop → Unit × Mm × Prop) (k37 : Nat → Nat → Nat → Int32 → Int32 → Mm → Prop → Unit × Mm × Prop) (l0 : Nat) (l1 : Nat) (l2 : Nat) (l3 : Int32) (l4 : Int32) (m : Mm) (o : Prop) : Unit × Mm × Prop := k37 l0 l1 l2 l3 (l4 + 1) m o
set_option maxRecDepth 10000 in
theorem t_X10_findFits_80 (l : Launch) (E : En) (c0 s0 : Nat) (k26 : Nat → Nat → Nat → Int32 → Mm → Prop → Unit × Mm × Prop) (hk26 : ∀ (l0 : Nat) (l1 : Nat) (l2 : Nat) (l3 : Int32) (m : Mm) (o : Prop), Mh wU l E mi_X10_findFits c0 s0 26 [(0, .ref l0), (1, .ref l1), (2, .ref l2), (3, .int l3)] [] m o (k26 l0 l1 l2 l3 m o)) (k37 : Nat → Nat → Nat → Int32 → Int32 → Mm → Prop → Unit × Mm × Prop) (hk37 : ∀ (l0 : Nat) (l1 : Nat) (l2 : Nat) (l3 : Int32) (l4 : Int32) (m : Mm) (o : Prop), Mh wU l E mi_X10_findFits c0 s0 37 [(0, .ref l0), (1, .ref l1), (2, .ref l2), (3, .int l3), (4, .int l4)] [] m o (k37 l0 l1 l2 l3 l4 m o)) (l0 : Nat) (l1 : Nat) (l2 : Nat) (l3 : Int32) (l4 : Int32) (m : Mm) (o : Prop) : Mh wU l E mi_X10_findFits c0 s0 80 [(0, .ref l0), (1, .ref l1), (2, .ref l2), (3, .int l3), (4, .int l4)] [] m o (f_X10_findFits_80 k26 k37 l0 l1 l2 l3 l4 m o) := by
  refine Mh_iinc (v := l4 + 1) (lv' := [(4, .int (l4 + 1)), (0, .ref l0), (1, .ref l1), (2, .ref l2), (3, .int l3)]) 4 dX10_findFits_80 rfl rfl (Nat.le_of_ble_eq_true rfl) rfl ?_
  refine Mh_goto (tgt := 37) dX10_findFits_83 (by decide) ?_
  refine Mh_sub (lv' := [(0, .ref l0), (1, .ref l1), (2, .ref l2), (3, .int l3), (4, .int (l4 + 1))]) [1, 2, 3, 4, 0] rfl ?_
  exact hk37 _ _ _ _ _ _ _
def f_X10_findFits_70 (k26 : Nat → Nat → Nat → Int32 → Mm → Prop → Unit × Mm × Prop) (k37 : Nat → Nat → Nat → Int32 → Int32 → Mm → Prop → Unit × Mm × Prop) (l0 : Nat) (l1 : Nat) (l2 : Nat) (l3 : Int32) (l4 : Int32) (y0 : Int32) (m : Mm) (o : Prop) : Unit × Mm × Prop := if y0 = 0 then (f_X10_findFits_80 k26 k37 l0 l1 l2 l3 l4 m o) else (bnd (F_X10_countFit l0 l3 l4 m (o ∧ gT m l0 = 10)) (fun _ m1 o1 => f_X10_findFits_80 k26 k37 l0 l1 l2 l3 l4 m1 o1))
set_option maxRecDepth 10000 in
theorem t_X10_findFits_70 (l : Launch) (E : En) (c0 s0 : Nat) (k26 : Nat → Nat → Nat → Int32 → Mm → Prop → Unit × Mm × Prop) (hk26 : ∀ (l0 : Nat) (l1 : Nat) (l2 : Nat) (l3 : Int32) (m : Mm) (o : Prop), Mh wU l E mi_X10_findFits c0 s0 26 [(0, .ref l0), (1, .ref l1), (2, .ref l2), (3, .int l3)] [] m o (k26 l0 l1 l2 l3 m o)) (k37 : Nat → Nat → Nat → Int32 → Int32 → Mm → Prop → Unit × Mm × Prop) (hk37 : ∀ (l0 : Nat) (l1 : Nat) (l2 : Nat) (l3 : Int32) (l4 : Int32) (m : Mm) (o : Prop), Mh wU l E mi_X10_findFits c0 s0 37 [(0, .ref l0), (1, .ref l1), (2, .ref l2), (3, .int l3), (4, .int l4)] [] m o (k37 l0 l1 l2 l3 l4 m o)) (l0 : Nat) (l1 : Nat) (l2 : Nat) (l3 : Int32) (l4 : Int32) (y0 : Int32) (m : Mm) (o : Prop) : Mh wU l E mi_X10_findFits c0 s0 70 [(0, .ref l0), (1, .ref l1), (2, .ref l2), (3, .int l3), (4, .int l4)] [.int y0] m o (f_X10_findFits_70 k26 k37 l0 l1 l2 l3 l4 y0 m o) := by
  refine Mh_if_eq (tgt := 80) dX10_findFits_70 (by decide) rfl (fun _ => ?_) (fun _ => ?_)
  · exact t_X10_findFits_80 l E c0 s0 k26 hk26 k37 hk37 _ _ _ _ _ _ _
  · refine Mh_aload_n 0 rfl dX10_findFits_73 ?_
    refine Mh_iload_n 3 rfl dX10_findFits_74 ?_
    refine Mh_iload 4 rfl dX10_findFits_75 ?_
    refine Mh_cvU (N := mi_X10_countFit) (q := l0) (ci := 9) (as := [.int l3, .int l4]) (st := []) (id) cg_yX10_countFit (by decide) rfl rfl ml_RX10_80 iv_yX10_countFit pd_yX10_countFit rfl (by decide) (Nat.le_of_ble_eq_true rfl) rfl dX10_findFits_77 (T_X10_countFit l E _ _ _ _ _) rfl ?_
    exact t_X10_findFits_80 l E c0 s0 k26 hk26 k37 hk37 _ _ _ _ _ _ _
def f_X10_findFits_86 (k26 : Nat → Nat → Nat → Int32 → Mm → Prop → Unit × Mm × Prop) (l0 : Nat) (l1 : Nat) (l2 : Nat) (l3 : Int32) (m : Mm) (o : Prop) : Unit × Mm × Prop := k26 l0 l1 l2 (l3 + 1) m o
set_option maxRecDepth 10000 in
theorem t_X10_findFits_86 (l : Launch) (E : En) (c0 s0 : Nat) (k26 : Nat → Nat → Nat → Int32 → Mm → Prop → Unit × Mm × Prop) (hk26 : ∀ (l0 : Nat) (l1 : Nat) (l2 : Nat) (l3 : Int32) (m : Mm) (o : Prop), Mh wU l E mi_X10_findFits c0 s0 26 [(0, .ref l0), (1, .ref l1), (2, .ref l2), (3, .int l3)] [] m o (k26 l0 l1 l2 l3 m o)) (l0 : Nat) (l1 : Nat) (l2 : Nat) (l3 : Int32) (m : Mm) (o : Prop) : Mh wU l E mi_X10_findFits c0 s0 86 [(0, .ref l0), (1, .ref l1), (2, .ref l2), (3, .int l3)] [] m o (f_X10_findFits_86 k26 l0 l1 l2 l3 m o) := by
  refine Mh_iinc (v := l3 + 1) (lv' := [(3, .int (l3 + 1)), (0, .ref l0), (1, .ref l1), (2, .ref l2)]) 3 dX10_findFits_86 rfl rfl (Nat.le_of_ble_eq_true rfl) rfl ?_
  refine Mh_goto (tgt := 26) dX10_findFits_89 (by decide) ?_
  refine Mh_sub (lv' := [(0, .ref l0), (1, .ref l1), (2, .ref l2), (3, .int (l3 + 1))]) [1, 2, 3, 0] rfl ?_
  exact hk26 _ _ _ _ _ _
def f_X10_findFits_37b (k26 : Nat → Nat → Nat → Int32 → Mm → Prop → Unit × Mm × Prop) (k37 : Nat → Nat → Nat → Int32 → Int32 → Mm → Prop → Unit × Mm × Prop) (l0 : Nat) (l1 : Nat) (l2 : Nat) (l3 : Int32) (l4 : Int32) (m : Mm) (o : Prop) : Unit × Mm × Prop := if (10 : Int32) ≤ l4 then (f_X10_findFits_86 k26 l0 l1 l2 l3 m o) else (if (gI m (gR m (gR m l1 0) (ix l3)) 7) = 0 then (f_X10_findFits_86 k26 l0 l1 l2 l3 m (((o ∧ (gT m l1 = 6 ∧ gR m l1 0 ≠ 0)) ∧ (gT m (gR m l1 0) = 24 ∧ vp_in l3 (gN m (gR m l1 0)) ∧ gR m (gR m l1 0) (ix l3) ≠ 0)) ∧ gT m (gR m (gR m l1 0) (ix l3)) = 8)) else (bnd (F_X10_fits l0 l1 l2 l3 ((gI m l1 10) + l4) m (((((o ∧ (gT m l1 = 6 ∧ gR m l1 0 ≠ 0)) ∧ (gT m (gR m l1 0) = 24 ∧ vp_in l3 (gN m (gR m l1 0)) ∧ gR m (gR m l1 0) (ix l3) ≠ 0)) ∧ gT m (gR m (gR m l1 0) (ix l3)) = 8) ∧ gT m l1 = 6) ∧ gT m l0 = 10)) (fun v1 m1 o1 => f_X10_findFits_70 k26 k37 l0 l1 l2 l3 l4 v1 m1 o1)))
set_option maxRecDepth 10000 in
theorem t_X10_findFits_37b (l : Launch) (E : En) (c0 s0 : Nat) (k26 : Nat → Nat → Nat → Int32 → Mm → Prop → Unit × Mm × Prop) (hk26 : ∀ (l0 : Nat) (l1 : Nat) (l2 : Nat) (l3 : Int32) (m : Mm) (o : Prop), Mh wU l E mi_X10_findFits c0 s0 26 [(0, .ref l0), (1, .ref l1), (2, .ref l2), (3, .int l3)] [] m o (k26 l0 l1 l2 l3 m o)) (k37 : Nat → Nat → Nat → Int32 → Int32 → Mm → Prop → Unit × Mm × Prop) (hk37 : ∀ (l0 : Nat) (l1 : Nat) (l2 : Nat) (l3 : Int32) (l4 : Int32) (m : Mm) (o : Prop), Mh wU l E mi_X10_findFits c0 s0 37 [(0, .ref l0), (1, .ref l1), (2, .ref l2), (3, .int l3), (4, .int l4)] [] m o (k37 l0 l1 l2 l3 l4 m o)) (l0 : Nat) (l1 : Nat) (l2 : Nat) (l3 : Int32) (l4 : Int32) (m : Mm) (o : Prop) : Mh wU l E mi_X10_findFits c0 s0 37 [(0, .ref l0), (1, .ref l1), (2, .ref l2), (3, .int l3), (4, .int l4)] [] m o (f_X10_findFits_37b k26 k37 l0 l1 l2 l3 l4 m o) := by
  refine Mh_iload 4 rfl dX10_findFits_37 ?_
  refine Mh_bipush (v := 10) dX10_findFits_39 (by decide) ?_
  refine Mh_icmp_ge (tgt := 86) dX10_findFits_41 (by decide) rfl (fun _ => ?_) (fun _ => ?_)
  · refine Mh_sub (lv' := [(0, .ref l0), (1, .ref l1), (2, .ref l2), (3, .int l3)]) [0, 1, 2, 3] rfl ?_
    exact t_X10_findFits_86 l E c0 s0 k26 hk26 _ _ _ _ _ _
  · refine Mh_aload_n 1 rfl dX10_findFits_44 ?_
    refine Mh_gR fd_5_0 fl_RX10_64 dX10_findFits_45 ?_
    refine Mh_iload_n 3 rfl dX10_findFits_48 ?_
    refine Mh_aal 24 (.inl rfl) dX10_findFits_49 ?_
    refine Mh_gI fd_7_7 fl_RX10_67 dX10_findFits_50 ?_
    refine Mh_if_eq (tgt := 86) dX10_findFits_53 (by decide) rfl (fun _ => ?_) (fun _ => ?_)
    · refine Mh_sub (lv' := [(0, .ref l0), (1, .ref l1), (2, .ref l2), (3, .int l3)]) [0, 1, 2, 3] rfl ?_
      exact t_X10_findFits_86 l E c0 s0 k26 hk26 _ _ _ _ _ _
    · refine Mh_aload_n 0 rfl dX10_findFits_56 ?_
      refine Mh_aload_n 1 rfl dX10_findFits_57 ?_
      refine Mh_aload_n 2 rfl dX10_findFits_58 ?_
      refine Mh_iload_n 3 rfl dX10_findFits_59 ?_
      refine Mh_aload_n 1 rfl dX10_findFits_60 ?_
      refine Mh_gI fd_5_10 fl_RX10_73 dX10_findFits_61 ?_
      refine Mh_iload 4 rfl dX10_findFits_64 ?_
      refine Mh_iadd dX10_findFits_66 ?_
      refine Mh_cvI (N := mi_X10_fits) (q := l0) (ci := 9) (as := [.ref l1, .ref l2, .int l3, .int ((gI m l1 10) + l4)]) (st := []) (id) cg_yX10_fits (by decide) rfl rfl ml_RX10_76 iv_yX10_fits pd_yX10_fits rfl (by decide) (Nat.le_of_ble_eq_true rfl) rfl dX10_findFits_67 (T_X10_fits l E _ _ _ _ _ _ _) rfl ?_
      exact t_X10_findFits_70 l E c0 s0 k26 hk26 k37 hk37 _ _ _ _ _ _ _ _
def f_X10_findFits_37 (k26 : Nat → Nat → Nat → Int32 → Mm → Prop → Unit × Mm × Prop) : Nat → Nat → Nat → Nat → Int32 → Int32 → Mm → Prop → Unit × Mm × Prop
  | 0, _, _, _, _, _, m, _ => ((), m, False)
  | n + 1, l0, l1, l2, l3, l4, m, o => f_X10_findFits_37b k26 (f_X10_findFits_37 k26 n) l0 l1 l2 l3 l4 m o
theorem t_X10_findFits_37 (l : Launch) (E : En) (c0 s0 : Nat) (k26 : Nat → Nat → Nat → Int32 → Mm → Prop → Unit × Mm × Prop) (hk26 : ∀ (l0 : Nat) (l1 : Nat) (l2 : Nat) (l3 : Int32) (m : Mm) (o : Prop), Mh wU l E mi_X10_findFits c0 s0 26 [(0, .ref l0), (1, .ref l1), (2, .ref l2), (3, .int l3)] [] m o (k26 l0 l1 l2 l3 m o)) : ∀ (n : Nat) (l0 : Nat) (l1 : Nat) (l2 : Nat) (l3 : Int32) (l4 : Int32) (m : Mm) (o : Prop), Mh wU l E mi_X10_findFits c0 s0 37 [(0, .ref l0), (1, .ref l1), (2, .ref l2), (3, .int l3), (4, .int l4)] [] m o (f_X10_findFits_37 k26 n l0 l1 l2 l3 l4 m o)
  | 0, _, _, _, _, _, _, _ => Mh_out rfl
  | n + 1, l0, l1, l2, l3, l4, m, o => t_X10_findFits_37b l E c0 s0 k26 hk26 (f_X10_findFits_37 k26 n) (t_X10_findFits_37 l E c0 s0 k26 hk26 n) l0 l1 l2 l3 l4 m o
def f_X10_findFits_111 (m : Mm) (o : Prop) : Unit × Mm × Prop := ((), m, o)
set_option maxRecDepth 10000 in
theorem t_X10_findFits_111 (l : Launch) (E : En) (c0 s0 : Nat) (m : Mm) (o : Prop) : Mh wU l E mi_X10_findFits c0 s0 111 [] [] m o (f_X10_findFits_111  m o) := by
  exact Mh_ret dX10_findFits_111 rfl (fun _ => trivial) rfl
def f_X10_findFits_100 (l0 : Nat) (y0 : Int32) (m : Mm) (o : Prop) : Unit × Mm × Prop := if y0 = 0 then (f_X10_findFits_111  m o) else (bnd (F_X10_countFit l0 (12 : Int32) (12 : Int32) m (o ∧ gT m l0 = 10)) (fun _ m1 o1 => f_X10_findFits_111  m1 o1))
set_option maxRecDepth 10000 in
theorem t_X10_findFits_100 (l : Launch) (E : En) (c0 s0 : Nat) (l0 : Nat) (y0 : Int32) (m : Mm) (o : Prop) : Mh wU l E mi_X10_findFits c0 s0 100 [(0, .ref l0)] [.int y0] m o (f_X10_findFits_100 l0 y0 m o) := by
  refine Mh_if_eq (tgt := 111) dX10_findFits_100 (by decide) rfl (fun _ => ?_) (fun _ => ?_)
  · refine Mh_sub (lv' := []) [] rfl ?_
    exact t_X10_findFits_111 l E c0 s0  _ _
  · refine Mh_aload_n 0 rfl dX10_findFits_103 ?_
    refine Mh_bipush (v := 12) dX10_findFits_104 (by decide) ?_
    refine Mh_bipush (v := 12) dX10_findFits_106 (by decide) ?_
    refine Mh_cvU (N := mi_X10_countFit) (q := l0) (ci := 9) (as := [.int (12 : Int32), .int (12 : Int32)]) (st := []) (id) cg_yX10_countFit (by decide) rfl rfl ml_RX10_80 iv_yX10_countFit pd_yX10_countFit rfl (by decide) (Nat.le_of_ble_eq_true rfl) rfl dX10_findFits_108 (T_X10_countFit l E _ _ _ _ _) rfl ?_
    refine Mh_sub (lv' := []) [] rfl ?_
    exact t_X10_findFits_111 l E c0 s0  _ _
def f_X10_findFits_26b (k26 : Nat → Nat → Nat → Int32 → Mm → Prop → Unit × Mm × Prop) (l0 : Nat) (l1 : Nat) (l2 : Nat) (l3 : Int32) (m : Mm) (o : Prop) : Unit × Mm × Prop := if (gI m l1 6) ≤ l3 then (bnd (F_X10_fits l0 l1 l2 (-1 : Int32) (-1 : Int32) m ((o ∧ gT m l1 = 6) ∧ gT m l0 = 10)) (fun v1 m1 o1 => f_X10_findFits_100 l0 v1 m1 o1)) else (f_X10_findFits_37 k26 1000 l0 l1 l2 l3 (0 : Int32) m (o ∧ gT m l1 = 6))
set_option maxRecDepth 10000 in
theorem t_X10_findFits_26b (l : Launch) (E : En) (c0 s0 : Nat) (k26 : Nat → Nat → Nat → Int32 → Mm → Prop → Unit × Mm × Prop) (hk26 : ∀ (l0 : Nat) (l1 : Nat) (l2 : Nat) (l3 : Int32) (m : Mm) (o : Prop), Mh wU l E mi_X10_findFits c0 s0 26 [(0, .ref l0), (1, .ref l1), (2, .ref l2), (3, .int l3)] [] m o (k26 l0 l1 l2 l3 m o)) (l0 : Nat) (l1 : Nat) (l2 : Nat) (l3 : Int32) (m : Mm) (o : Prop) : Mh wU l E mi_X10_findFits c0 s0 26 [(0, .ref l0), (1, .ref l1), (2, .ref l2), (3, .int l3)] [] m o (f_X10_findFits_26b k26 l0 l1 l2 l3 m o) := by
  refine Mh_iload_n 3 rfl dX10_findFits_26 ?_
  refine Mh_aload_n 1 rfl dX10_findFits_27 ?_
  refine Mh_gI fd_5_6 fl_RX10_49 dX10_findFits_28 ?_
  refine Mh_icmp_ge (tgt := 92) dX10_findFits_31 (by decide) rfl (fun _ => ?_) (fun _ => ?_)
  · refine Mh_aload_n 0 rfl dX10_findFits_92 ?_
    refine Mh_aload_n 1 rfl dX10_findFits_93 ?_
    refine Mh_aload_n 2 rfl dX10_findFits_94 ?_
    refine Mh_iconst (v := (-1)) dX10_findFits_95 (by decide) ?_
    refine Mh_iconst (v := (-1)) dX10_findFits_96 (by decide) ?_
    refine Mh_cvI (N := mi_X10_fits) (q := l0) (ci := 9) (as := [.ref l1, .ref l2, .int (-1 : Int32), .int (-1 : Int32)]) (st := []) (id) cg_yX10_fits (by decide) rfl rfl ml_RX10_76 iv_yX10_fits pd_yX10_fits rfl (by decide) (Nat.le_of_ble_eq_true rfl) rfl dX10_findFits_97 (T_X10_fits l E _ _ _ _ _ _ _) rfl ?_
    refine Mh_sub (lv' := [(0, .ref l0)]) [0] rfl ?_
    exact t_X10_findFits_100 l E c0 s0 _ _ _ _
  · refine Mh_iconst (v := 0) dX10_findFits_34 (by decide) ?_
    refine Mh_istore (lv' := [(4, .int (0 : Int32)), (0, .ref l0), (1, .ref l1), (2, .ref l2), (3, .int l3)]) dX10_findFits_35 (Nat.le_of_ble_eq_true rfl) rfl ?_
    refine Mh_sub (lv' := [(0, .ref l0), (1, .ref l1), (2, .ref l2), (3, .int l3), (4, .int (0 : Int32))]) [1, 2, 3, 4, 0] rfl ?_
    exact t_X10_findFits_37 l E c0 s0 k26 hk26 _ _ _ _ _ _ _ _
def f_X10_findFits_26 : Nat → Nat → Nat → Nat → Int32 → Mm → Prop → Unit × Mm × Prop
  | 0, _, _, _, _, m, _ => ((), m, False)
  | n + 1, l0, l1, l2, l3, m, o => f_X10_findFits_26b (f_X10_findFits_26 n) l0 l1 l2 l3 m o
theorem t_X10_findFits_26 (l : Launch) (E : En) (c0 s0 : Nat) : ∀ (n : Nat) (l0 : Nat) (l1 : Nat) (l2 : Nat) (l3 : Int32) (m : Mm) (o : Prop), Mh wU l E mi_X10_findFits c0 s0 26 [(0, .ref l0), (1, .ref l1), (2, .ref l2), (3, .int l3)] [] m o (f_X10_findFits_26 n l0 l1 l2 l3 m o)
  | 0, _, _, _, _, _, _ => Mh_out rfl
  | n + 1, l0, l1, l2, l3, m, o => t_X10_findFits_26b l E c0 s0 (f_X10_findFits_26 n) (t_X10_findFits_26 l E c0 s0 n) l0 l1 l2 l3 m o
def f_X10_findFits_24 (l0 : Nat) (l1 : Nat) (l2 : Nat) (m : Mm) (o : Prop) : Unit × Mm × Prop := f_X10_findFits_26 1000 l0 l1 l2 (0 : Int32) m o
set_option maxRecDepth 10000 in
theorem t_X10_findFits_24 (l : Launch) (E : En) (c0 s0 : Nat) (l0 : Nat) (l1 : Nat) (l2 : Nat) (m : Mm) (o : Prop) : Mh wU l E mi_X10_findFits c0 s0 24 [(0, .ref l0), (1, .ref l1), (2, .ref l2)] [] m o (f_X10_findFits_24 l0 l1 l2 m o) := by
  refine Mh_iconst (v := 0) dX10_findFits_24 (by decide) ?_
  refine Mh_istore_n (lv' := [(3, .int (0 : Int32)), (0, .ref l0), (1, .ref l1), (2, .ref l2)]) dX10_findFits_25 (Nat.le_of_ble_eq_true rfl) rfl ?_
  refine Mh_sub (lv' := [(0, .ref l0), (1, .ref l1), (2, .ref l2), (3, .int (0 : Int32))]) [1, 2, 3, 0] rfl ?_
  exact t_X10_findFits_26 l E c0 s0 _ _ _ _ _ _ _
def f_X10_findFits_17 (l0 : Nat) (l1 : Nat) (l2 : Nat) (m : Mm) (o : Prop) : Unit × Mm × Prop := bnd (F_X5_forgetAmounts (gR m l0 3) m ((o ∧ (gT m l0 = 10 ∧ gR m l0 3 ≠ 0)) ∧ gT m (gR m l0 3) = 6)) (fun _ m1 o1 => f_X10_findFits_24 l0 l1 l2 m1 o1)
set_option maxRecDepth 10000 in
theorem t_X10_findFits_17 (l : Launch) (E : En) (c0 s0 : Nat) (l0 : Nat) (l1 : Nat) (l2 : Nat) (m : Mm) (o : Prop) : Mh wU l E mi_X10_findFits c0 s0 17 [(0, .ref l0), (1, .ref l1), (2, .ref l2)] [] m o (f_X10_findFits_17 l0 l1 l2 m o) := by
  refine Mh_aload_n 0 rfl dX10_findFits_17 ?_
  refine Mh_gR fd_9_3 fl_RX10_21 dX10_findFits_18 ?_
  refine Mh_cvU (N := mi_X5_forgetAmounts) (q := gR m l0 3) (ci := 5) (as := []) (st := []) (id) cg_yX5_forgetAmounts (by decide) rfl rfl ml_RX10_61 iv_yX5_forgetAmounts pd_yX5_forgetAmounts rfl (by decide) (Nat.le_of_ble_eq_true rfl) rfl dX10_findFits_21 (T_X5_forgetAmounts l E _ _ _) rfl ?_
  exact t_X10_findFits_24 l E c0 s0 _ _ _ _ _
def f_X10_findFits_11 (l0 : Nat) (l1 : Nat) (l2 : Nat) (m : Mm) (o : Prop) : Unit × Mm × Prop := f_X10_findFits_17 l0 l1 l2 (sI m l0 8 (13 : Int32)) (o ∧ gT m l0 = 10)
set_option maxRecDepth 10000 in
theorem t_X10_findFits_11 (l : Launch) (E : En) (c0 s0 : Nat) (l0 : Nat) (l1 : Nat) (l2 : Nat) (m : Mm) (o : Prop) : Mh wU l E mi_X10_findFits c0 s0 11 [(0, .ref l0), (1, .ref l1), (2, .ref l2)] [] m o (f_X10_findFits_11 l0 l1 l2 m o) := by
  refine Mh_aload_n 0 rfl dX10_findFits_11 ?_
  refine Mh_bipush (v := 13) dX10_findFits_12 (by decide) ?_
  refine Mh_pI fd_9_8 ft_9 rfl fl_RX10_58 rfl dX10_findFits_14 ?_
  exact t_X10_findFits_17 l E c0 s0 _ _ _ _ _
def f_X10_findFits_5 (l0 : Nat) (l1 : Nat) (l2 : Nat) (m : Mm) (o : Prop) : Unit × Mm × Prop := f_X10_findFits_11 l0 l1 l2 (sI m l0 7 (13 : Int32)) (o ∧ gT m l0 = 10)
set_option maxRecDepth 10000 in
theorem t_X10_findFits_5 (l : Launch) (E : En) (c0 s0 : Nat) (l0 : Nat) (l1 : Nat) (l2 : Nat) (m : Mm) (o : Prop) : Mh wU l E mi_X10_findFits c0 s0 5 [(0, .ref l0), (1, .ref l1), (2, .ref l2)] [] m o (f_X10_findFits_5 l0 l1 l2 m o) := by
  refine Mh_aload_n 0 rfl dX10_findFits_5 ?_
  refine Mh_bipush (v := 13) dX10_findFits_6 (by decide) ?_
  refine Mh_pI fd_9_7 ft_9 rfl fl_RX10_55 rfl dX10_findFits_8 ?_
  exact t_X10_findFits_11 l E c0 s0 _ _ _ _ _
def f_X10_findFits_0 (l0 : Nat) (l1 : Nat) (l2 : Nat) (m : Mm) (o : Prop) : Unit × Mm × Prop := f_X10_findFits_5 l0 l1 l2 (sI m l0 6 (0 : Int32)) (o ∧ gT m l0 = 10)
set_option maxRecDepth 10000 in
theorem t_X10_findFits_0 (l : Launch) (E : En) (c0 s0 : Nat) (l0 : Nat) (l1 : Nat) (l2 : Nat) (m : Mm) (o : Prop) : Mh wU l E mi_X10_findFits c0 s0 0 [(0, .ref l0), (1, .ref l1), (2, .ref l2)] [] m o (f_X10_findFits_0 l0 l1 l2 m o) := by
  refine Mh_aload_n 0 rfl dX10_findFits_0 ?_
  refine Mh_iconst (v := 0) dX10_findFits_1 (by decide) ?_
  refine Mh_pI fd_9_6 ft_9 rfl fl_RX10_52 rfl dX10_findFits_2 ?_
  exact t_X10_findFits_5 l E c0 s0 _ _ _ _ _
def F_X10_findFits (a0 : Nat) (a1 : Nat) (a2 : Nat) (m : Mm) (o : Prop) : Unit × Mm × Prop := f_X10_findFits_0 a0 a1 a2 m o
theorem T_X10_findFits (l : Launch) (E : En) (a0 : Nat) (a1 : Nat) (a2 : Nat) (m : Mm) (o : Prop) : Mt wU l E yX10_findFits mi_X10_findFits [.ref a0, .ref a1, .ref a2] m o (F_X10_findFits a0 a1 a2 m o) :=
  Mt_U (by decide) rfl (fun h => by cases h) rfl (Nat.le_of_ble_eq_true rfl) rfl (t_X10_findFits_0 l E _ _ _ _ _ _ _)
