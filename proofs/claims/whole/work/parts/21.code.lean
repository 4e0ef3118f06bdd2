def f_X11_init_142 (m : Mm) (o : Prop) : Unit × Mm × Prop := ((), m, o)
set_option maxRecDepth 10000 in
theorem t_X11_init_142 (l : Launch) (E : En) (c0 s0 : Nat) (m : Mm) (o : Prop) : Mh wU l E mi_X11_init c0 s0 142 [] [] m o (f_X11_init_142  m o) := by
  exact Mh_ret dX11_init_142 rfl (fun _ => trivial) rfl
def f_X11_init_137 (l0 : Nat) (m : Mm) (o : Prop) : Unit × Mm × Prop := f_X11_init_142  (sI m l0 11 (0 : Int32)) (o ∧ (gT m l0 = 11 ∧ ((0 : Int32) = 0 ∨ (0 : Int32) = 1)))
set_option maxRecDepth 10000 in
theorem t_X11_init_137 (l : Launch) (E : En) (c0 s0 : Nat) (l0 : Nat) (m : Mm) (o : Prop) : Mh wU l E mi_X11_init c0 s0 137 [(0, .ref l0)] [] m o (f_X11_init_137 l0 m o) := by
  refine Mh_aload_n 0 rfl dX11_init_137 ?_
  refine Mh_iconst (v := 0) dX11_init_138 (by decide) ?_
  refine Mh_pZ fd_10_11 ft_10 rfl fl_RX11_78 rfl dX11_init_139 ?_
  refine Mh_sub (lv' := []) [] rfl ?_
  exact t_X11_init_142 l E c0 s0  _ _
def f_X11_init_134 (l0 : Nat) (y1 : Nat) (y0 : Nat) (m : Mm) (o : Prop) : Unit × Mm × Prop := f_X11_init_137 l0 (sR m y0 10 y1) (o ∧ (gT m y0 = 11 ∧ y1 ≠ 0))
set_option maxRecDepth 10000 in
theorem t_X11_init_134 (l : Launch) (E : En) (c0 s0 : Nat) (l0 : Nat) (y1 : Nat) (y0 : Nat) (m : Mm) (o : Prop) : Mh wU l E mi_X11_init c0 s0 134 [(0, .ref l0)] [.ref y1, .ref y0] m o (f_X11_init_134 l0 y1 y0 m o) := by
  refine Mh_pR fd_10_10 ft_10 (.inl ⟨_, rfl⟩) fl_RX11_75 (.inl rfl) dX11_init_134 ?_
  exact t_X11_init_137 l E c0 s0 _ _ _
def f_X11_init_130 (l0 : Nat) (y1 : Nat) (y0 : Nat) (m : Mm) (o : Prop) : Unit × Mm × Prop := bnd (F_X3_init y1 m o) (fun _ m1 o1 => f_X11_init_134 l0 y1 y0 m1 o1)
set_option maxRecDepth 10000 in
theorem t_X11_init_130 (l : Launch) (E : En) (c0 s0 : Nat) (l0 : Nat) (y1 : Nat) (y0 : Nat) (m : Mm) (o : Prop) : Mh wU l E mi_X11_init c0 s0 130 [(0, .ref l0)] [.ref y1, .ref y0] m o (f_X11_init_130 l0 y1 y0 m o) := by
  refine Mh_dup dX11_init_130 rfl ?_
  refine Mh_ciU (N := mi_X3_init) (q := y1) (as := []) (st := [.ref y1, .ref y0]) cg_yX3_init rfl rfl (.inr ⟨_, ml_RX11_70⟩) ii_yX3_init pd_yX3_init rfl (by decide) (Nat.le_of_ble_eq_true rfl) rfl dX11_init_131 (T_X3_init l E _ _ _) rfl ?_
  exact t_X11_init_134 l E c0 s0 _ _ _ _ _
def f_X11_init_126 (l0 : Nat) (m : Mm) (o : Prop) : Unit × Mm × Prop := f_X11_init_130 l0 (gC m + 1) l0 (nC m 4 0 13) o
set_option maxRecDepth 10000 in
theorem t_X11_init_126 (l : Launch) (E : En) (c0 s0 : Nat) (l0 : Nat) (m : Mm) (o : Prop) : Mh wU l E mi_X11_init c0 s0 126 [(0, .ref l0)] [] m o (f_X11_init_126 l0 m o) := by
  refine Mh_aload_n 0 rfl dX11_init_126 ?_
  refine Mh_new (ci := 3) (by decide) rfl nin_3 ft_3 ndf_3 cl_RX11_68 nins_3 nini_3 dX11_init_127 ?_
  exact t_X11_init_130 l E c0 s0 _ _ _ _ _
def f_X11_init_123 (l0 : Nat) (y1 : Nat) (y0 : Nat) (m : Mm) (o : Prop) : Unit × Mm × Prop := f_X11_init_126 l0 (sR m y0 9 y1) (o ∧ (gT m y0 = 11 ∧ y1 ≠ 0))
set_option maxRecDepth 10000 in
theorem t_X11_init_123 (l : Launch) (E : En) (c0 s0 : Nat) (l0 : Nat) (y1 : Nat) (y0 : Nat) (m : Mm) (o : Prop) : Mh wU l E mi_X11_init c0 s0 123 [(0, .ref l0)] [.ref y1, .ref y0] m o (f_X11_init_123 l0 y1 y0 m o) := by
  refine Mh_pR fd_10_9 ft_10 (.inl ⟨_, rfl⟩) fl_RX11_71 (.inl rfl) dX11_init_123 ?_
  exact t_X11_init_126 l E c0 s0 _ _ _
def f_X11_init_119 (l0 : Nat) (y1 : Nat) (y0 : Nat) (m : Mm) (o : Prop) : Unit × Mm × Prop := bnd (F_X3_init y1 m o) (fun _ m1 o1 => f_X11_init_123 l0 y1 y0 m1 o1)
set_option maxRecDepth 10000 in
theorem t_X11_init_119 (l : Launch) (E : En) (c0 s0 : Nat) (l0 : Nat) (y1 : Nat) (y0 : Nat) (m : Mm) (o : Prop) : Mh wU l E mi_X11_init c0 s0 119 [(0, .ref l0)] [.ref y1, .ref y0] m o (f_X11_init_119 l0 y1 y0 m o) := by
  refine Mh_dup dX11_init_119 rfl ?_
  refine Mh_ciU (N := mi_X3_init) (q := y1) (as := []) (st := [.ref y1, .ref y0]) cg_yX3_init rfl rfl (.inr ⟨_, ml_RX11_70⟩) ii_yX3_init pd_yX3_init rfl (by decide) (Nat.le_of_ble_eq_true rfl) rfl dX11_init_120 (T_X3_init l E _ _ _) rfl ?_
  exact t_X11_init_123 l E c0 s0 _ _ _ _ _
def f_X11_init_115 (l0 : Nat) (m : Mm) (o : Prop) : Unit × Mm × Prop := f_X11_init_119 l0 (gC m + 1) l0 (nC m 4 0 13) o
set_option maxRecDepth 10000 in
theorem t_X11_init_115 (l : Launch) (E : En) (c0 s0 : Nat) (l0 : Nat) (m : Mm) (o : Prop) : Mh wU l E mi_X11_init c0 s0 115 [(0, .ref l0)] [] m o (f_X11_init_115 l0 m o) := by
  refine Mh_aload_n 0 rfl dX11_init_115 ?_
  refine Mh_new (ci := 3) (by decide) rfl nin_3 ft_3 ndf_3 cl_RX11_68 nins_3 nini_3 dX11_init_116 ?_
  exact t_X11_init_119 l E c0 s0 _ _ _ _ _
def f_X11_init_112 (l0 : Nat) (y1 : Nat) (y0 : Nat) (m : Mm) (o : Prop) : Unit × Mm × Prop := f_X11_init_115 l0 (sR m y0 8 y1) (o ∧ (gT m y0 = 11 ∧ y1 ≠ 0))
set_option maxRecDepth 10000 in
theorem t_X11_init_112 (l : Launch) (E : En) (c0 s0 : Nat) (l0 : Nat) (y1 : Nat) (y0 : Nat) (m : Mm) (o : Prop) : Mh wU l E mi_X11_init c0 s0 112 [(0, .ref l0)] [.ref y1, .ref y0] m o (f_X11_init_112 l0 y1 y0 m o) := by
  refine Mh_pR fd_10_8 ft_10 (.inl ⟨_, rfl⟩) fl_RX11_64 (.inr ⟨rfl, rfl, rfl, flg_RX11_64⟩) dX11_init_112 ?_
  exact t_X11_init_115 l E c0 s0 _ _ _
def f_X11_init_108 (l0 : Nat) (y1 : Nat) (y0 : Nat) (m : Mm) (o : Prop) : Unit × Mm × Prop := bnd (F_X6_init y1 m o) (fun _ m1 o1 => f_X11_init_112 l0 y1 y0 m1 o1)
set_option maxRecDepth 10000 in
theorem t_X11_init_108 (l : Launch) (E : En) (c0 s0 : Nat) (l0 : Nat) (y1 : Nat) (y0 : Nat) (m : Mm) (o : Prop) : Mh wU l E mi_X11_init c0 s0 108 [(0, .ref l0)] [.ref y1, .ref y0] m o (f_X11_init_108 l0 y1 y0 m o) := by
  refine Mh_dup dX11_init_108 rfl ?_
  refine Mh_ciU (N := mi_X6_init) (q := y1) (as := []) (st := [.ref y1, .ref y0]) cg_yX6_init rfl rfl (.inr ⟨_, ml_RX11_63⟩) ii_yX6_init pd_yX6_init rfl (by decide) (Nat.le_of_ble_eq_true rfl) rfl dX11_init_109 (T_X6_init l E _ _ _) rfl ?_
  exact t_X11_init_112 l E c0 s0 _ _ _ _ _
def f_X11_init_104 (l0 : Nat) (m : Mm) (o : Prop) : Unit × Mm × Prop := f_X11_init_108 l0 (gC m + 1) l0 (nC m 7 0 3) o
set_option maxRecDepth 10000 in
theorem t_X11_init_104 (l : Launch) (E : En) (c0 s0 : Nat) (l0 : Nat) (m : Mm) (o : Prop) : Mh wU l E mi_X11_init c0 s0 104 [(0, .ref l0)] [] m o (f_X11_init_104 l0 m o) := by
  refine Mh_aload_n 0 rfl dX11_init_104 ?_
  refine Mh_new (ci := 6) (by decide) rfl nin_6 ft_6 ndf_6 cl_RX11_61 nins_6 nini_6 dX11_init_105 ?_
  exact t_X11_init_108 l E c0 s0 _ _ _ _ _
def f_X11_init_101 (l0 : Nat) (y1 : Nat) (y0 : Nat) (m : Mm) (o : Prop) : Unit × Mm × Prop := f_X11_init_104 l0 (sR m y0 7 y1) (o ∧ (gT m y0 = 11 ∧ y1 ≠ 0))
set_option maxRecDepth 10000 in
theorem t_X11_init_101 (l : Launch) (E : En) (c0 s0 : Nat) (l0 : Nat) (y1 : Nat) (y0 : Nat) (m : Mm) (o : Prop) : Mh wU l E mi_X11_init c0 s0 101 [(0, .ref l0)] [.ref y1, .ref y0] m o (f_X11_init_101 l0 y1 y0 m o) := by
  refine Mh_pR fd_10_7 ft_10 (.inl ⟨_, rfl⟩) fl_RX11_57 (.inr ⟨rfl, rfl, rfl, flg_RX11_57⟩) dX11_init_101 ?_
  exact t_X11_init_104 l E c0 s0 _ _ _
def f_X11_init_97 (l0 : Nat) (y1 : Nat) (y0 : Nat) (m : Mm) (o : Prop) : Unit × Mm × Prop := bnd (F_X2_init y1 m o) (fun _ m1 o1 => f_X11_init_101 l0 y1 y0 m1 o1)
set_option maxRecDepth 10000 in
theorem t_X11_init_97 (l : Launch) (E : En) (c0 s0 : Nat) (l0 : Nat) (y1 : Nat) (y0 : Nat) (m : Mm) (o : Prop) : Mh wU l E mi_X11_init c0 s0 97 [(0, .ref l0)] [.ref y1, .ref y0] m o (f_X11_init_97 l0 y1 y0 m o) := by
  refine Mh_dup dX11_init_97 rfl ?_
  refine Mh_ciU (N := mi_X2_init) (q := y1) (as := []) (st := [.ref y1, .ref y0]) cg_yX2_init rfl rfl (.inr ⟨_, ml_RX11_56⟩) ii_yX2_init pd_yX2_init rfl (by decide) (Nat.le_of_ble_eq_true rfl) rfl dX11_init_98 (T_X2_init l E _ _ _) rfl ?_
  exact t_X11_init_101 l E c0 s0 _ _ _ _ _
def f_X11_init_93 (l0 : Nat) (m : Mm) (o : Prop) : Unit × Mm × Prop := f_X11_init_97 l0 (gC m + 1) l0 (nC m 3 0 1) o
set_option maxRecDepth 10000 in
theorem t_X11_init_93 (l : Launch) (E : En) (c0 s0 : Nat) (l0 : Nat) (m : Mm) (o : Prop) : Mh wU l E mi_X11_init c0 s0 93 [(0, .ref l0)] [] m o (f_X11_init_93 l0 m o) := by
  refine Mh_aload_n 0 rfl dX11_init_93 ?_
  refine Mh_new (ci := 2) (by decide) rfl nin_2 ft_2 ndf_2 cl_RX11_54 nins_2 nini_2 dX11_init_94 ?_
  exact t_X11_init_97 l E c0 s0 _ _ _ _ _
def f_X11_init_90 (l0 : Nat) (y1 : Nat) (y0 : Nat) (m : Mm) (o : Prop) : Unit × Mm × Prop := f_X11_init_93 l0 (sR m y0 6 y1) (o ∧ (gT m y0 = 11 ∧ y1 ≠ 0))
set_option maxRecDepth 10000 in
theorem t_X11_init_90 (l : Launch) (E : En) (c0 s0 : Nat) (l0 : Nat) (y1 : Nat) (y0 : Nat) (m : Mm) (o : Prop) : Mh wU l E mi_X11_init c0 s0 90 [(0, .ref l0)] [.ref y1, .ref y0] m o (f_X11_init_90 l0 y1 y0 m o) := by
  refine Mh_pR fd_10_6 ft_10 (.inl ⟨_, rfl⟩) fl_RX11_50 (.inr ⟨rfl, rfl, rfl, flg_RX11_50⟩) dX11_init_90 ?_
  exact t_X11_init_93 l E c0 s0 _ _ _
def f_X11_init_82 (l0 : Nat) (y1 : Nat) (y0 : Nat) (m : Mm) (o : Prop) : Unit × Mm × Prop := bnd (F_X10_init y1 (gR m l0 2) m (o ∧ (gT m l0 = 11 ∧ gR m l0 2 ≠ 0))) (fun _ m1 o1 => f_X11_init_90 l0 y1 y0 m1 o1)
set_option maxRecDepth 10000 in
theorem t_X11_init_82 (l : Launch) (E : En) (c0 s0 : Nat) (l0 : Nat) (y1 : Nat) (y0 : Nat) (m : Mm) (o : Prop) : Mh wU l E mi_X11_init c0 s0 82 [(0, .ref l0)] [.ref y1, .ref y0] m o (f_X11_init_82 l0 y1 y0 m o) := by
  refine Mh_dup dX11_init_82 rfl ?_
  refine Mh_aload_n 0 rfl dX11_init_83 ?_
  refine Mh_gR fd_10_2 fl_RX11_19 dX11_init_84 ?_
  refine Mh_ciU (N := mi_X10_init) (q := y1) (as := [.ref (gR m l0 2)]) (st := [.ref y1, .ref y0]) cg_yX10_init rfl rfl (.inl ml_RX11_49) ii_yX10_init pd_yX10_init rfl (by decide) (Nat.le_of_ble_eq_true rfl) rfl dX11_init_87 (T_X10_init l E _ _ _ _) rfl ?_
  exact t_X11_init_90 l E c0 s0 _ _ _ _ _
def f_X11_init_78 (l0 : Nat) (m : Mm) (o : Prop) : Unit × Mm × Prop := f_X11_init_82 l0 (gC m + 1) l0 (nC m 10 0 9) o
set_option maxRecDepth 10000 in
theorem t_X11_init_78 (l : Launch) (E : En) (c0 s0 : Nat) (l0 : Nat) (m : Mm) (o : Prop) : Mh wU l E mi_X11_init c0 s0 78 [(0, .ref l0)] [] m o (f_X11_init_78 l0 m o) := by
  refine Mh_aload_n 0 rfl dX11_init_78 ?_
  refine Mh_new (ci := 9) (by decide) rfl nin_9 ft_9 ndf_9 cl_RX11_47 nins_9 nini_9 dX11_init_79 ?_
  exact t_X11_init_82 l E c0 s0 _ _ _ _ _
def f_X11_init_75 (l0 : Nat) (y1 : Nat) (y0 : Nat) (m : Mm) (o : Prop) : Unit × Mm × Prop := f_X11_init_78 l0 (sR m y0 5 y1) (o ∧ (gT m y0 = 11 ∧ y1 ≠ 0))
set_option maxRecDepth 10000 in
theorem t_X11_init_75 (l : Launch) (E : En) (c0 s0 : Nat) (l0 : Nat) (y1 : Nat) (y0 : Nat) (m : Mm) (o : Prop) : Mh wU l E mi_X11_init c0 s0 75 [(0, .ref l0)] [.ref y1, .ref y0] m o (f_X11_init_75 l0 y1 y0 m o) := by
  refine Mh_pR fd_10_5 ft_10 (.inl ⟨_, rfl⟩) fl_RX11_43 (.inr ⟨rfl, rfl, rfl, flg_RX11_43⟩) dX11_init_75 ?_
  exact t_X11_init_78 l E c0 s0 _ _ _
def f_X11_init_67 (l0 : Nat) (y1 : Nat) (y0 : Nat) (m : Mm) (o : Prop) : Unit × Mm × Prop := bnd (F_X0_init y1 (gR m l0 2) m (o ∧ (gT m l0 = 11 ∧ gR m l0 2 ≠ 0))) (fun _ m1 o1 => f_X11_init_75 l0 y1 y0 m1 o1)
set_option maxRecDepth 10000 in
theorem t_X11_init_67 (l : Launch) (E : En) (c0 s0 : Nat) (l0 : Nat) (y1 : Nat) (y0 : Nat) (m : Mm) (o : Prop) : Mh wU l E mi_X11_init c0 s0 67 [(0, .ref l0)] [.ref y1, .ref y0] m o (f_X11_init_67 l0 y1 y0 m o) := by
  refine Mh_dup dX11_init_67 rfl ?_
  refine Mh_aload_n 0 rfl dX11_init_68 ?_
  refine Mh_gR fd_10_2 fl_RX11_19 dX11_init_69 ?_
  refine Mh_ciU (N := mi_X0_init) (q := y1) (as := [.ref (gR m l0 2)]) (st := [.ref y1, .ref y0]) cg_yX0_init rfl rfl (.inl ml_RX11_40) ii_yX0_init pd_yX0_init rfl (by decide) (Nat.le_of_ble_eq_true rfl) rfl dX11_init_72 (T_X0_init l E _ _ _ _) rfl ?_
  exact t_X11_init_75 l E c0 s0 _ _ _ _ _
def f_X11_init_63 (l0 : Nat) (m : Mm) (o : Prop) : Unit × Mm × Prop := f_X11_init_67 l0 (gC m + 1) l0 (nC m 1 0 4) o
set_option maxRecDepth 10000 in
theorem t_X11_init_63 (l : Launch) (E : En) (c0 s0 : Nat) (l0 : Nat) (m : Mm) (o : Prop) : Mh wU l E mi_X11_init c0 s0 63 [(0, .ref l0)] [] m o (f_X11_init_63 l0 m o) := by
  refine Mh_aload_n 0 rfl dX11_init_63 ?_
  refine Mh_new (ci := 0) (by decide) rfl nin_0 ft_0 ndf_0 cl_RX11_38 nins_0 nini_0 dX11_init_64 ?_
  exact t_X11_init_67 l E c0 s0 _ _ _ _ _
def f_X11_init_60 (l0 : Nat) (y1 : Nat) (y0 : Nat) (m : Mm) (o : Prop) : Unit × Mm × Prop := f_X11_init_63 l0 (sR m y0 4 y1) (o ∧ (gT m y0 = 11 ∧ y1 ≠ 0))
set_option maxRecDepth 10000 in
theorem t_X11_init_60 (l : Launch) (E : En) (c0 s0 : Nat) (l0 : Nat) (y1 : Nat) (y0 : Nat) (m : Mm) (o : Prop) : Mh wU l E mi_X11_init c0 s0 60 [(0, .ref l0)] [.ref y1, .ref y0] m o (f_X11_init_60 l0 y1 y0 m o) := by
  refine Mh_pR fd_10_4 ft_10 (.inl ⟨_, rfl⟩) fl_RX11_34 (.inr ⟨rfl, rfl, rfl, flg_RX11_34⟩) dX11_init_60 ?_
  exact t_X11_init_63 l E c0 s0 _ _ _
def f_X11_init_52 (l0 : Nat) (y1 : Nat) (y0 : Nat) (m : Mm) (o : Prop) : Unit × Mm × Prop := bnd (F_X4_init y1 (gR m l0 3) m (o ∧ (gT m l0 = 11 ∧ gR m l0 3 ≠ 0))) (fun _ m1 o1 => f_X11_init_60 l0 y1 y0 m1 o1)
set_option maxRecDepth 10000 in
theorem t_X11_init_52 (l : Launch) (E : En) (c0 s0 : Nat) (l0 : Nat) (y1 : Nat) (y0 : Nat) (m : Mm) (o : Prop) : Mh wU l E mi_X11_init c0 s0 52 [(0, .ref l0)] [.ref y1, .ref y0] m o (f_X11_init_52 l0 y1 y0 m o) := by
  refine Mh_dup dX11_init_52 rfl ?_
  refine Mh_aload_n 0 rfl dX11_init_53 ?_
  refine Mh_gR fd_10_3 fl_RX11_25 dX11_init_54 ?_
  refine Mh_ciU (N := mi_X4_init) (q := y1) (as := [.ref (gR m l0 3)]) (st := [.ref y1, .ref y0]) cg_yX4_init rfl rfl (.inl ml_RX11_31) ii_yX4_init pd_yX4_init rfl (by decide) (Nat.le_of_ble_eq_true rfl) rfl dX11_init_57 (T_X4_init l E _ _ _ _) rfl ?_
  exact t_X11_init_60 l E c0 s0 _ _ _ _ _
def f_X11_init_48 (l0 : Nat) (m : Mm) (o : Prop) : Unit × Mm × Prop := f_X11_init_52 l0 (gC m + 1) l0 (nC m 5 0 5) o
set_option maxRecDepth 10000 in
theorem t_X11_init_48 (l : Launch) (E : En) (c0 s0 : Nat) (l0 : Nat) (m : Mm) (o : Prop) : Mh wU l E mi_X11_init c0 s0 48 [(0, .ref l0)] [] m o (f_X11_init_48 l0 m o) := by
  refine Mh_aload_n 0 rfl dX11_init_48 ?_
  refine Mh_new (ci := 4) (by decide) rfl nin_4 ft_4 ndf_4 cl_RX11_29 nins_4 nini_4 dX11_init_49 ?_
  exact t_X11_init_52 l E c0 s0 _ _ _ _ _
def f_X11_init_45 (l0 : Nat) (y1 : Nat) (y0 : Nat) (m : Mm) (o : Prop) : Unit × Mm × Prop := f_X11_init_48 l0 (sR m y0 3 y1) (o ∧ (gT m y0 = 11 ∧ y1 ≠ 0))
set_option maxRecDepth 10000 in
theorem t_X11_init_45 (l : Launch) (E : En) (c0 s0 : Nat) (l0 : Nat) (y1 : Nat) (y0 : Nat) (m : Mm) (o : Prop) : Mh wU l E mi_X11_init c0 s0 45 [(0, .ref l0)] [.ref y1, .ref y0] m o (f_X11_init_45 l0 y1 y0 m o) := by
  refine Mh_pR fd_10_3 ft_10 (.inl ⟨_, rfl⟩) fl_RX11_25 (.inr ⟨rfl, rfl, rfl, flg_RX11_25⟩) dX11_init_45 ?_
  exact t_X11_init_48 l E c0 s0 _ _ _
def f_X11_init_41 (l0 : Nat) (y1 : Nat) (y0 : Nat) (m : Mm) (o : Prop) : Unit × Mm × Prop := bnd (F_X9_init y1 m o) (fun _ m1 o1 => f_X11_init_45 l0 y1 y0 m1 o1)
set_option maxRecDepth 10000 in
theorem t_X11_init_41 (l : Launch) (E : En) (c0 s0 : Nat) (l0 : Nat) (y1 : Nat) (y0 : Nat) (m : Mm) (o : Prop) : Mh wU l E mi_X11_init c0 s0 41 [(0, .ref l0)] [.ref y1, .ref y0] m o (f_X11_init_41 l0 y1 y0 m o) := by
  refine Mh_dup dX11_init_41 rfl ?_
  refine Mh_ciU (N := mi_X9_init) (q := y1) (as := []) (st := [.ref y1, .ref y0]) cg_yX9_init rfl rfl (.inr ⟨_, ml_RX11_24⟩) ii_yX9_init pd_yX9_init rfl (by decide) (Nat.le_of_ble_eq_true rfl) rfl dX11_init_42 (T_X9_init l E _ _ _) rfl ?_
  exact t_X11_init_45 l E c0 s0 _ _ _ _ _
def f_X11_init_37 (l0 : Nat) (m : Mm) (o : Prop) : Unit × Mm × Prop := f_X11_init_41 l0 (gC m + 1) l0 (nC m 9 0 2) o
set_option maxRecDepth 10000 in
theorem t_X11_init_37 (l : Launch) (E : En) (c0 s0 : Nat) (l0 : Nat) (m : Mm) (o : Prop) : Mh wU l E mi_X11_init c0 s0 37 [(0, .ref l0)] [] m o (f_X11_init_37 l0 m o) := by
  refine Mh_aload_n 0 rfl dX11_init_37 ?_
  refine Mh_new (ci := 8) (by decide) rfl nin_8 ft_8 ndf_8 cl_RX11_22 nins_8 nini_8 dX11_init_38 ?_
  exact t_X11_init_41 l E c0 s0 _ _ _ _ _
def f_X11_init_34 (l0 : Nat) (y1 : Nat) (y0 : Nat) (m : Mm) (o : Prop) : Unit × Mm × Prop := f_X11_init_37 l0 (sR m y0 2 y1) (o ∧ (gT m y0 = 11 ∧ y1 ≠ 0))
set_option maxRecDepth 10000 in
theorem t_X11_init_34 (l : Launch) (E : En) (c0 s0 : Nat) (l0 : Nat) (y1 : Nat) (y0 : Nat) (m : Mm) (o : Prop) : Mh wU l E mi_X11_init c0 s0 34 [(0, .ref l0)] [.ref y1, .ref y0] m o (f_X11_init_34 l0 y1 y0 m o) := by
  refine Mh_pR fd_10_2 ft_10 (.inl ⟨_, rfl⟩) fl_RX11_19 (.inr ⟨rfl, rfl, rfl, flg_RX11_19⟩) dX11_init_34 ?_
  exact t_X11_init_37 l E c0 s0 _ _ _
def f_X11_init_30 (l0 : Nat) (y1 : Nat) (y0 : Nat) (m : Mm) (o : Prop) : Unit × Mm × Prop := bnd (F_X5_init y1 m o) (fun _ m1 o1 => f_X11_init_34 l0 y1 y0 m1 o1)
set_option maxRecDepth 10000 in
theorem t_X11_init_30 (l : Launch) (E : En) (c0 s0 : Nat) (l0 : Nat) (y1 : Nat) (y0 : Nat) (m : Mm) (o : Prop) : Mh wU l E mi_X11_init c0 s0 30 [(0, .ref l0)] [.ref y1, .ref y0] m o (f_X11_init_30 l0 y1 y0 m o) := by
  refine Mh_dup dX11_init_30 rfl ?_
  refine Mh_ciU (N := mi_X5_init) (q := y1) (as := []) (st := [.ref y1, .ref y0]) cg_yX5_init rfl rfl (.inl ml_RX11_9) ii_yX5_init pd_yX5_init rfl (by decide) (Nat.le_of_ble_eq_true rfl) rfl dX11_init_31 (T_X5_init l E _ _ _) rfl ?_
  exact t_X11_init_34 l E c0 s0 _ _ _ _ _
def f_X11_init_26 (l0 : Nat) (m : Mm) (o : Prop) : Unit × Mm × Prop := f_X11_init_30 l0 (gC m + 1) l0 (nC m 6 0 12) o
set_option maxRecDepth 10000 in
theorem t_X11_init_26 (l : Launch) (E : En) (c0 s0 : Nat) (l0 : Nat) (m : Mm) (o : Prop) : Mh wU l E mi_X11_init c0 s0 26 [(0, .ref l0)] [] m o (f_X11_init_26 l0 m o) := by
  refine Mh_aload_n 0 rfl dX11_init_26 ?_
  refine Mh_new (ci := 5) (by decide) rfl nin_5 ft_5 ndf_5 cl_RX11_7 nins_5 nini_5 dX11_init_27 ?_
  exact t_X11_init_30 l E c0 s0 _ _ _ _ _
def f_X11_init_23 (l0 : Nat) (y1 : Nat) (y0 : Nat) (m : Mm) (o : Prop) : Unit × Mm × Prop := f_X11_init_26 l0 (sR m y0 1 y1) (o ∧ (gT m y0 = 11 ∧ y1 ≠ 0))
set_option maxRecDepth 10000 in
theorem t_X11_init_23 (l : Launch) (E : En) (c0 s0 : Nat) (l0 : Nat) (y1 : Nat) (y0 : Nat) (m : Mm) (o : Prop) : Mh wU l E mi_X11_init c0 s0 23 [(0, .ref l0)] [.ref y1, .ref y0] m o (f_X11_init_23 l0 y1 y0 m o) := by
  refine Mh_pR fd_10_1 ft_10 (.inl ⟨_, rfl⟩) fl_RX11_16 (.inr ⟨rfl, rfl, rfl, flg_RX11_16⟩) dX11_init_23 ?_
  exact t_X11_init_26 l E c0 s0 _ _ _
def f_X11_init_19 (l0 : Nat) (y1 : Nat) (y0 : Nat) (m : Mm) (o : Prop) : Unit × Mm × Prop := bnd (F_X5_init y1 m o) (fun _ m1 o1 => f_X11_init_23 l0 y1 y0 m1 o1)
set_option maxRecDepth 10000 in
theorem t_X11_init_19 (l : Launch) (E : En) (c0 s0 : Nat) (l0 : Nat) (y1 : Nat) (y0 : Nat) (m : Mm) (o : Prop) : Mh wU l E mi_X11_init c0 s0 19 [(0, .ref l0)] [.ref y1, .ref y0] m o (f_X11_init_19 l0 y1 y0 m o) := by
  refine Mh_dup dX11_init_19 rfl ?_
  refine Mh_ciU (N := mi_X5_init) (q := y1) (as := []) (st := [.ref y1, .ref y0]) cg_yX5_init rfl rfl (.inl ml_RX11_9) ii_yX5_init pd_yX5_init rfl (by decide) (Nat.le_of_ble_eq_true rfl) rfl dX11_init_20 (T_X5_init l E _ _ _) rfl ?_
  exact t_X11_init_23 l E c0 s0 _ _ _ _ _
def f_X11_init_15 (l0 : Nat) (m : Mm) (o : Prop) : Unit × Mm × Prop := f_X11_init_19 l0 (gC m + 1) l0 (nC m 6 0 12) o
set_option maxRecDepth 10000 in
theorem t_X11_init_15 (l : Launch) (E : En) (c0 s0 : Nat) (l0 : Nat) (m : Mm) (o : Prop) : Mh wU l E mi_X11_init c0 s0 15 [(0, .ref l0)] [] m o (f_X11_init_15 l0 m o) := by
  refine Mh_aload_n 0 rfl dX11_init_15 ?_
  refine Mh_new (ci := 5) (by decide) rfl nin_5 ft_5 ndf_5 cl_RX11_7 nins_5 nini_5 dX11_init_16 ?_
  exact t_X11_init_19 l E c0 s0 _ _ _ _ _
def f_X11_init_12 (l0 : Nat) (y1 : Nat) (y0 : Nat) (m : Mm) (o : Prop) : Unit × Mm × Prop := f_X11_init_15 l0 (sR m y0 0 y1) (o ∧ (gT m y0 = 11 ∧ y1 ≠ 0))
set_option maxRecDepth 10000 in
theorem t_X11_init_12 (l : Launch) (E : En) (c0 s0 : Nat) (l0 : Nat) (y1 : Nat) (y0 : Nat) (m : Mm) (o : Prop) : Mh wU l E mi_X11_init c0 s0 12 [(0, .ref l0)] [.ref y1, .ref y0] m o (f_X11_init_12 l0 y1 y0 m o) := by
  refine Mh_pR fd_10_0 ft_10 (.inl ⟨_, rfl⟩) fl_RX11_10 (.inr ⟨rfl, rfl, rfl, flg_RX11_10⟩) dX11_init_12 ?_
  exact t_X11_init_15 l E c0 s0 _ _ _
def f_X11_init_8 (l0 : Nat) (y1 : Nat) (y0 : Nat) (m : Mm) (o : Prop) : Unit × Mm × Prop := bnd (F_X5_init y1 m o) (fun _ m1 o1 => f_X11_init_12 l0 y1 y0 m1 o1)
set_option maxRecDepth 10000 in
theorem t_X11_init_8 (l : Launch) (E : En) (c0 s0 : Nat) (l0 : Nat) (y1 : Nat) (y0 : Nat) (m : Mm) (o : Prop) : Mh wU l E mi_X11_init c0 s0 8 [(0, .ref l0)] [.ref y1, .ref y0] m o (f_X11_init_8 l0 y1 y0 m o) := by
  refine Mh_dup dX11_init_8 rfl ?_
  refine Mh_ciU (N := mi_X5_init) (q := y1) (as := []) (st := [.ref y1, .ref y0]) cg_yX5_init rfl rfl (.inl ml_RX11_9) ii_yX5_init pd_yX5_init rfl (by decide) (Nat.le_of_ble_eq_true rfl) rfl dX11_init_9 (T_X5_init l E _ _ _) rfl ?_
  exact t_X11_init_12 l E c0 s0 _ _ _ _ _
def f_X11_init_0 (l0 : Nat) (m : Mm) (o : Prop) : Unit × Mm × Prop := f_X11_init_8 l0 (gC m + 1) l0 (nC m 6 0 12) o
set_option maxRecDepth 10000 in
theorem t_X11_init_0 (l : Launch) (E : En) (c0 s0 : Nat) (l0 : Nat) (m : Mm) (o : Prop) : Mh wU l E mi_X11_init c0 s0 0 [(0, .ref l0)] [] m o (f_X11_init_0 l0 m o) := by
  refine Mh_aload_n 0 rfl dX11_init_0 ?_
  refine Mh_oin (by decide) ml_RX11_1 obj_1 obj_2 dX11_init_1 ?_
  refine Mh_aload_n 0 rfl dX11_init_4 ?_
  refine Mh_new (ci := 5) (by decide) rfl nin_5 ft_5 ndf_5 cl_RX11_7 nins_5 nini_5 dX11_init_5 ?_
  exact t_X11_init_8 l E c0 s0 _ _ _ _ _
def F_X11_init (a0 : Nat) (m : Mm) (o : Prop) : Unit × Mm × Prop := f_X11_init_0 a0 m o
theorem T_X11_init (l : Launch) (E : En) (a0 : Nat) (m : Mm) (o : Prop) : Mt wU l E yX11_init mi_X11_init [.ref a0] m o (F_X11_init a0 m o) :=
  Mt_U (by decide) rfl (fun _ => rfl) rfl (Nat.le_of_ble_eq_true rfl) rfl (t_X11_init_0 l E _ _ _ _ _)
def f_X11_isWithin_15 (y0 : Int32) (m : Mm) (o : Prop) : Int32 × Mm × Prop := (y0, m, o ∧ (y0 = 0 ∨ y0 = 1))
set_option maxRecDepth 10000 in
theorem t_X11_isWithin_15 (l : Launch) (E : En) (c0 s0 : Nat) (y0 : Int32) (m : Mm) (o : Prop) : Mh wI l E mi_X11_isWithin c0 s0 15 [] [.int y0] m o (f_X11_isWithin_15 y0 m o) := by
  exact Mh_retZ dX11_isWithin_15 (.inl rfl) rfl
def f_X11_isWithin_14 (m : Mm) (o : Prop) : Int32 × Mm × Prop := f_X11_isWithin_15 (0 : Int32) m o
set_option maxRecDepth 10000 in
theorem t_X11_isWithin_14 (l : Launch) (E : En) (c0 s0 : Nat) (m : Mm) (o : Prop) : Mh wI l E mi_X11_isWithin c0 s0 14 [] [] m o (f_X11_isWithin_14  m o) := by
  refine Mh_iconst (v := 0) dX11_isWithin_14 (by decide) ?_
  exact t_X11_isWithin_15 l E c0 s0 _ _ _
def f_X11_isWithin_0 (l0 : Int32) (l1 : Int32) (l2 : Int32) (m : Mm) (o : Prop) : Int32 × Mm × Prop := if l0 < l1 then (f_X11_isWithin_14  m o) else (if l2 < l0 then (f_X11_isWithin_14  m o) else (f_X11_isWithin_15 (1 : Int32) m o))
set_option maxRecDepth 10000 in
theorem t_X11_isWithin_0 (l : Launch) (E : En) (c0 s0 : Nat) (l0 : Int32) (l1 : Int32) (l2 : Int32) (m : Mm) (o : Prop) : Mh wI l E mi_X11_isWithin c0 s0 0 [(0, .int l0), (1, .int l1), (2, .int l2)] [] m o (f_X11_isWithin_0 l0 l1 l2 m o) := by
  refine Mh_iload_n 0 rfl dX11_isWithin_0 ?_
  refine Mh_iload_n 1 rfl dX11_isWithin_1 ?_
  refine Mh_icmp_lt (tgt := 14) dX11_isWithin_2 (by decide) rfl (fun _ => ?_) (fun _ => ?_)
  · refine Mh_sub (lv' := []) [] rfl ?_
    exact t_X11_isWithin_14 l E c0 s0  _ _
  · refine Mh_iload_n 0 rfl dX11_isWithin_5 ?_
    refine Mh_iload_n 2 rfl dX11_isWithin_6 ?_
    refine Mh_icmp_gt (tgt := 14) dX11_isWithin_7 (by decide) rfl (fun _ => ?_) (fun _ => ?_)
    · refine Mh_sub (lv' := []) [] rfl ?_
      exact t_X11_isWithin_14 l E c0 s0  _ _
    · refine Mh_iconst (v := 1) dX11_isWithin_10 (by decide) ?_
      refine Mh_goto (tgt := 15) dX11_isWithin_11 (by decide) ?_
      refine Mh_sub (lv' := []) [] rfl ?_
      exact t_X11_isWithin_15 l E c0 s0 _ _ _
def F_X11_isWithin (a0 : Int32) (a1 : Int32) (a2 : Int32) (m : Mm) (o : Prop) : Int32 × Mm × Prop := f_X11_isWithin_0 a0 a1 a2 m o
theorem T_X11_isWithin (l : Launch) (E : En) (a0 : Int32) (a1 : Int32) (a2 : Int32) (m : Mm) (o : Prop) : Mt wI l E yX11_isWithin mi_X11_isWithin [.int a0, .int a1, .int a2] m o (F_X11_isWithin a0 a1 a2 m o) :=
  Mt_I (by decide) rfl rfl rfl (Nat.le_of_ble_eq_true rfl) rfl (.inr (.inl rfl)) (t_X11_isWithin_0 l E _ _ _ _ _ _ _)
def f_X11_hasStack_14 (y0 : Int32) (m : Mm) (o : Prop) : Int32 × Mm × Prop := (y0, m, o ∧ (y0 = 0 ∨ y0 = 1))
set_option maxRecDepth 10000 in
theorem t_X11_hasStack_14 (l : Launch) (E : En) (c0 s0 : Nat) (y0 : Int32) (m : Mm) (o : Prop) : Mh wI l E mi_X11_hasStack c0 s0 14 [] [.int y0] m o (f_X11_hasStack_14 y0 m o) := by
  exact Mh_retZ dX11_hasStack_14 (.inl rfl) rfl
def f_X11_hasStack_0 (l0 : Nat) (l1 : Int32) (m : Mm) (o : Prop) : Int32 × Mm × Prop := bnd (F_X11_isWithin l1 (0 : Int32) ((gI m (gR m l0 0) 6) - (1 : Int32)) m ((o ∧ (gT m l0 = 11 ∧ gR m l0 0 ≠ 0)) ∧ gT m (gR m l0 0) = 6)) (fun v1 m1 o1 => f_X11_hasStack_14 v1 m1 o1)
set_option maxRecDepth 10000 in
theorem t_X11_hasStack_0 (l : Launch) (E : En) (c0 s0 : Nat) (l0 : Nat) (l1 : Int32) (m : Mm) (o : Prop) : Mh wI l E mi_X11_hasStack c0 s0 0 [(0, .ref l0), (1, .int l1)] [] m o (f_X11_hasStack_0 l0 l1 m o) := by
  refine Mh_iload_n 1 rfl dX11_hasStack_0 ?_
  refine Mh_iconst (v := 0) dX11_hasStack_1 (by decide) ?_
  refine Mh_aload_n 0 rfl dX11_hasStack_2 ?_
  refine Mh_gR fd_10_0 fl_RX11_10 dX11_hasStack_3 ?_
  refine Mh_gI fd_5_6 fl_RX11_94 dX11_hasStack_6 ?_
  refine Mh_iconst (v := 1) dX11_hasStack_9 (by decide) ?_
  refine Mh_isub dX11_hasStack_10 ?_
  refine Mh_csI (N := mi_X11_isWithin) (as := [.int l1, .int (0 : Int32), .int ((gI m (gR m l0 0) 6) - (1 : Int32))]) (st := []) cg_yX11_isWithin (.inl ml_RX11_90) sv_yX11_isWithin pd_yX11_isWithin rfl (by decide) (Nat.le_of_ble_eq_true rfl) rfl dX11_hasStack_11 (T_X11_isWithin l E _ _ _ _ _) rfl ?_
  refine Mh_sub (lv' := []) [] rfl ?_
  exact t_X11_hasStack_14 l E c0 s0 _ _ _
def F_X11_hasStack (a0 : Nat) (a1 : Int32) (m : Mm) (o : Prop) : Int32 × Mm × Prop := f_X11_hasStack_0 a0 a1 m o
theorem T_X11_hasStack (l : Launch) (E : En) (a0 : Nat) (a1 : Int32) (m : Mm) (o : Prop) : Mt wI l E yX11_hasStack mi_X11_hasStack [.ref a0, .int a1] m o (F_X11_hasStack a0 a1 m o) :=
  Mt_I (by decide) rfl rfl rfl (Nat.le_of_ble_eq_true rfl) rfl (.inr (.inl rfl)) (t_X11_hasStack_0 l E _ _ _ _ _ _)
def f_X11_isStanding_28 (y0 : Int32) (m : Mm) (o : Prop) : Int32 × Mm × Prop := (y0, m, o ∧ (y0 = 0 ∨ y0 = 1))
set_option maxRecDepth 10000 in
theorem t_X11_isStanding_28 (l : Launch) (E : En) (c0 s0 : Nat) (y0 : Int32) (m : Mm) (o : Prop) : Mh wI l E mi_X11_isStanding c0 s0 28 [] [.int y0] m o (f_X11_isStanding_28 y0 m o) := by
  exact Mh_retZ dX11_isStanding_28 (.inl rfl) rfl
def f_X11_isStanding_27 (m : Mm) (o : Prop) : Int32 × Mm × Prop := f_X11_isStanding_28 (0 : Int32) m o
set_option maxRecDepth 10000 in
theorem t_X11_isStanding_27 (l : Launch) (E : En) (c0 s0 : Nat) (m : Mm) (o : Prop) : Mh wI l E mi_X11_isStanding c0 s0 27 [] [] m o (f_X11_isStanding_27  m o) := by
  refine Mh_iconst (v := 0) dX11_isStanding_27 (by decide) ?_
  exact t_X11_isStanding_28 l E c0 s0 _ _ _
def f_X11_isStanding_5 (l0 : Nat) (l1 : Int32) (y0 : Int32) (m : Mm) (o : Prop) : Int32 × Mm × Prop := if y0 = 0 then (f_X11_isStanding_27  m o) else (if (gI m (gR m (gR m (gR m l0 0) 0) (ix l1)) 7) = 0 then (f_X11_isStanding_27  m ((((o ∧ (gT m l0 = 11 ∧ gR m l0 0 ≠ 0)) ∧ (gT m (gR m l0 0) = 6 ∧ gR m (gR m l0 0) 0 ≠ 0)) ∧ (gT m (gR m (gR m l0 0) 0) = 24 ∧ vp_in l1 (gN m (gR m (gR m l0 0) 0)) ∧ gR m (gR m (gR m l0 0) 0) (ix l1) ≠ 0)) ∧ gT m (gR m (gR m (gR m l0 0) 0) (ix l1)) = 8)) else (f_X11_isStanding_28 (1 : Int32) m ((((o ∧ (gT m l0 = 11 ∧ gR m l0 0 ≠ 0)) ∧ (gT m (gR m l0 0) = 6 ∧ gR m (gR m l0 0) 0 ≠ 0)) ∧ (gT m (gR m (gR m l0 0) 0) = 24 ∧ vp_in l1 (gN m (gR m (gR m l0 0) 0)) ∧ gR m (gR m (gR m l0 0) 0) (ix l1) ≠ 0)) ∧ gT m (gR m (gR m (gR m l0 0) 0) (ix l1)) = 8)))
set_option maxRecDepth 10000 in
theorem t_X11_isStanding_5 (l : Launch) (E : En) (c0 s0 : Nat) (l0 : Nat) (l1 : Int32) (y0 : Int32) (m : Mm) (o : Prop) : Mh wI l E mi_X11_isStanding c0 s0 5 [(0, .ref l0), (1, .int l1)] [.int y0] m o (f_X11_isStanding_5 l0 l1 y0 m o) := by
  refine Mh_if_eq (tgt := 27) dX11_isStanding_5 (by decide) rfl (fun _ => ?_) (fun _ => ?_)
  · refine Mh_sub (lv' := []) [] rfl ?_
    exact t_X11_isStanding_27 l E c0 s0  _ _
  · refine Mh_aload_n 0 rfl dX11_isStanding_8 ?_
    refine Mh_gR fd_10_0 fl_RX11_10 dX11_isStanding_9 ?_
    refine Mh_gR fd_5_0 fl_RX11_101 dX11_isStanding_12 ?_
    refine Mh_iload_n 1 rfl dX11_isStanding_15 ?_
    refine Mh_aal 24 (.inl rfl) dX11_isStanding_16 ?_
    refine Mh_gI fd_7_7 fl_RX11_203 dX11_isStanding_17 ?_
    refine Mh_if_eq (tgt := 27) dX11_isStanding_20 (by decide) rfl (fun _ => ?_) (fun _ => ?_)
    · refine Mh_sub (lv' := []) [] rfl ?_
      exact t_X11_isStanding_27 l E c0 s0  _ _
    · refine Mh_iconst (v := 1) dX11_isStanding_23 (by decide) ?_
      refine Mh_goto (tgt := 28) dX11_isStanding_24 (by decide) ?_
      refine Mh_sub (lv' := []) [] rfl ?_
      exact t_X11_isStanding_28 l E c0 s0 _ _ _
def f_X11_isStanding_0 (l0 : Nat) (l1 : Int32) (m : Mm) (o : Prop) : Int32 × Mm × Prop := bnd (F_X11_hasStack l0 l1 m (o ∧ gT m l0 = 11)) (fun v1 m1 o1 => f_X11_isStanding_5 l0 l1 v1 m1 o1)
set_option maxRecDepth 10000 in
theorem t_X11_isStanding_0 (l : Launch) (E : En) (c0 s0 : Nat) (l0 : Nat) (l1 : Int32) (m : Mm) (o : Prop) : Mh wI l E mi_X11_isStanding c0 s0 0 [(0, .ref l0), (1, .int l1)] [] m o (f_X11_isStanding_0 l0 l1 m o) := by
  refine Mh_aload_n 0 rfl dX11_isStanding_0 ?_
  refine Mh_iload_n 1 rfl dX11_isStanding_1 ?_
  refine Mh_cvI (N := mi_X11_hasStack) (q := l0) (ci := 10) (as := [.int l1]) (st := []) (id) cg_yX11_hasStack (by decide) rfl rfl ml_RX11_166 iv_yX11_hasStack pd_yX11_hasStack rfl (by decide) (Nat.le_of_ble_eq_true rfl) rfl dX11_isStanding_2 (T_X11_hasStack l E _ _ _ _) rfl ?_
  exact t_X11_isStanding_5 l E c0 s0 _ _ _ _ _
def F_X11_isStanding (a0 : Nat) (a1 : Int32) (m : Mm) (o : Prop) : Int32 × Mm × Prop := f_X11_isStanding_0 a0 a1 m o
theorem T_X11_isStanding (l : Launch) (E : En) (a0 : Nat) (a1 : Int32) (m : Mm) (o : Prop) : Mt wI l E yX11_isStanding mi_X11_isStanding [.ref a0, .int a1] m o (F_X11_isStanding a0 a1 m o) :=
  Mt_I (by decide) rfl rfl rfl (Nat.le_of_ble_eq_true rfl) rfl (.inr (.inl rfl)) (t_X11_isStanding_0 l E _ _ _ _ _ _)
def f_X11_lowestTerms_74 (y0 : Int64) (m : Mm) (o : Prop) : Int64 × Mm × Prop := (y0, m, o)
set_option maxRecDepth 10000 in
theorem t_X11_lowestTerms_74 (l : Launch) (E : En) (c0 s0 : Nat) (y0 : Int64) (m : Mm) (o : Prop) : Mh wJ l E mi_X11_lowestTerms c0 s0 74 [] [.long y0] m o (f_X11_lowestTerms_74 y0 m o) := by
  exact Mh_ret dX11_lowestTerms_74 rfl (fun _ => rfl) rfl
def f_X11_lowestTerms_55 (l5 : Int64) (y0 : Int64) (m : Mm) (o : Prop) : Int64 × Mm × Prop := if (lg_cmp l5 (0 : Int64)) = 0 then (f_X11_lowestTerms_74 y0 m o) else (f_X11_lowestTerms_74 (y0 / l5) m (o ∧ ¬ l5 = 0))
set_option maxRecDepth 10000 in
theorem t_X11_lowestTerms_55 (l : Launch) (E : En) (c0 s0 : Nat) (l5 : Int64) (y0 : Int64) (m : Mm) (o : Prop) : Mh wJ l E mi_X11_lowestTerms c0 s0 55 [(5, .long l5)] [.long y0] m o (f_X11_lowestTerms_55 l5 y0 m o) := by
  refine Mh_lstore (lv' := [(9, .long y0), (5, .long l5)]) dX11_lowestTerms_55 (Nat.le_of_ble_eq_true rfl) rfl ?_
  refine Mh_lload 1 rfl dX11_lowestTerms_57 ?_
  refine Mh_lconst (v := 0) dX11_lowestTerms_59 (by decide) ?_
  refine Mh_lcmp dX11_lowestTerms_60 ?_
  refine Mh_if_ne (tgt := 69) dX11_lowestTerms_61 (by decide) rfl (fun _ => ?_) (fun _ => ?_)
  · refine Mh_lload 0 rfl dX11_lowestTerms_69 ?_
    refine Mh_lload 1 rfl dX11_lowestTerms_71 ?_
    refine Mh_ldiv dX11_lowestTerms_73 ?_
    refine Mh_sub (lv' := []) [] rfl ?_
    exact t_X11_lowestTerms_74 l E c0 s0 _ _ _
  · refine Mh_lload 0 rfl dX11_lowestTerms_64 ?_
    refine Mh_goto (tgt := 74) dX11_lowestTerms_66 (by decide) ?_
    refine Mh_sub (lv' := []) [] rfl ?_
    exact t_X11_lowestTerms_74 l E c0 s0 _ _ _
def f_X11_lowestTerms_45 (l0 : Int64) (l2 : Int64) (l4 : Int32) (l5 : Int64) (m : Mm) (o : Prop) : Int64 × Mm × Prop := if l4 = 0 then (f_X11_lowestTerms_55 l5 l0 m o) else (f_X11_lowestTerms_55 l5 l2 m o)
set_option maxRecDepth 10000 in
theorem t_X11_lowestTerms_45 (l : Launch) (E : En) (c0 s0 : Nat) (l0 : Int64) (l2 : Int64) (l4 : Int32) (l5 : Int64) (m : Mm) (o : Prop) : Mh wJ l E mi_X11_lowestTerms c0 s0 45 [(0, .long l0), (2, .long l2), (4, .int l4), (5, .long l5)] [] m o (f_X11_lowestTerms_45 l0 l2 l4 l5 m o) := by
  refine Mh_iload 2 rfl dX11_lowestTerms_45 ?_
  refine Mh_if_ne (tgt := 54) dX11_lowestTerms_47 (by decide) rfl (fun _ => ?_) (fun _ => ?_)
  · refine Mh_lload_n 1 rfl dX11_lowestTerms_54 ?_
    refine Mh_sub (lv' := [(5, .long l5)]) [3] rfl ?_
    exact t_X11_lowestTerms_55 l E c0 s0 _ _ _ _
  · refine Mh_lload_n 0 rfl dX11_lowestTerms_50 ?_
    refine Mh_goto (tgt := 55) dX11_lowestTerms_51 (by decide) ?_
    refine Mh_sub (lv' := [(5, .long l5)]) [3] rfl ?_
    exact t_X11_lowestTerms_55 l E c0 s0 _ _ _ _
def f_X11_lowestTerms_9b (k9 : Int64 → Int64 → Int32 → Int64 → Int64 → Int32 → Mm → Prop → Int64 × Mm × Prop) (l0 : Int64) (l2 : Int64) (l4 : Int32) (l5 : Int64) (l7 : Int64) (l9 : Int32) (m : Mm) (o : Prop) : Int64 × Mm × Prop := if (200 : Int32) ≤ l9 then (f_X11_lowestTerms_45 l0 l2 l4 l5 m o) else (if (lg_cmp l7 (0 : Int64)) = 0 then (f_X11_lowestTerms_45 l0 l2 l4 l5 m o) else (k9 l0 l2 l4 l7 (lrm l5 l7) (l9 + 1) m (o ∧ ¬ l7 = 0)))
set_option maxRecDepth 10000 in
theorem t_X11_lowestTerms_9b (l : Launch) (E : En) (c0 s0 : Nat) (k9 : Int64 → Int64 → Int32 → Int64 → Int64 → Int32 → Mm → Prop → Int64 × Mm × Prop) (hk9 : ∀ (l0 : Int64) (l2 : Int64) (l4 : Int32) (l5 : Int64) (l7 : Int64) (l9 : Int32) (m : Mm) (o : Prop), Mh wJ l E mi_X11_lowestTerms c0 s0 9 [(0, .long l0), (2, .long l2), (4, .int l4), (5, .long l5), (7, .long l7), (9, .int l9)] [] m o (k9 l0 l2 l4 l5 l7 l9 m o)) (l0 : Int64) (l2 : Int64) (l4 : Int32) (l5 : Int64) (l7 : Int64) (l9 : Int32) (m : Mm) (o : Prop) : Mh wJ l E mi_X11_lowestTerms c0 s0 9 [(0, .long l0), (2, .long l2), (4, .int l4), (5, .long l5), (7, .long l7), (9, .int l9)] [] m o (f_X11_lowestTerms_9b k9 l0 l2 l4 l5 l7 l9 m o) := by
  refine Mh_iload 5 rfl dX11_lowestTerms_9 ?_
  refine Mh_sipush (v := 200) dX11_lowestTerms_11 (by decide) ?_
  refine Mh_icmp_ge (tgt := 45) dX11_lowestTerms_14 (by decide) rfl (fun _ => ?_) (fun _ => ?_)
  · refine Mh_sub (lv' := [(0, .long l0), (2, .long l2), (4, .int l4), (5, .long l5)]) [0, 1, 2, 3] rfl ?_
    exact t_X11_lowestTerms_45 l E c0 s0 _ _ _ _ _ _
  · refine Mh_lload 4 rfl dX11_lowestTerms_17 ?_
    refine Mh_lconst (v := 0) dX11_lowestTerms_19 (by decide) ?_
    refine Mh_lcmp dX11_lowestTerms_20 ?_
    refine Mh_if_eq (tgt := 45) dX11_lowestTerms_21 (by decide) rfl (fun _ => ?_) (fun _ => ?_)
    · refine Mh_sub (lv' := [(0, .long l0), (2, .long l2), (4, .int l4), (5, .long l5)]) [0, 1, 2, 3] rfl ?_
      exact t_X11_lowestTerms_45 l E c0 s0 _ _ _ _ _ _
    · refine Mh_lload 3 rfl dX11_lowestTerms_24 ?_
      refine Mh_lload 4 rfl dX11_lowestTerms_26 ?_
      refine Mh_lrem dX11_lowestTerms_28 ?_
      refine Mh_lstore (lv' := [(10, .long (lrm l5 l7)), (0, .long l0), (2, .long l2), (4, .int l4), (5, .long l5), (7, .long l7), (9, .int l9)]) dX11_lowestTerms_29 (Nat.le_of_ble_eq_true rfl) rfl ?_
      refine Mh_lload 5 rfl dX11_lowestTerms_31 ?_
      refine Mh_lstore (lv' := [(5, .long l7), (10, .long (lrm l5 l7)), (0, .long l0), (2, .long l2), (4, .int l4), (7, .long l7), (9, .int l9)]) dX11_lowestTerms_33 (Nat.le_of_ble_eq_true rfl) rfl ?_
      refine Mh_lload 1 rfl dX11_lowestTerms_35 ?_
      refine Mh_lstore (lv' := [(7, .long (lrm l5 l7)), (5, .long l7), (10, .long (lrm l5 l7)), (0, .long l0), (2, .long l2), (4, .int l4), (9, .int l9)]) dX11_lowestTerms_37 (Nat.le_of_ble_eq_true rfl) rfl ?_
      refine Mh_iinc (v := l9 + 1) (lv' := [(9, .int (l9 + 1)), (7, .long (lrm l5 l7)), (5, .long l7), (10, .long (lrm l5 l7)), (0, .long l0), (2, .long l2), (4, .int l4)]) 6 dX11_lowestTerms_39 rfl rfl (Nat.le_of_ble_eq_true rfl) rfl ?_
      refine Mh_goto (tgt := 9) dX11_lowestTerms_42 (by decide) ?_
      refine Mh_sub (lv' := [(0, .long l0), (2, .long l2), (4, .int l4), (5, .long l7), (7, .long (lrm l5 l7)), (9, .int (l9 + 1))]) [4, 5, 6, 2, 1, 0] rfl ?_
      exact hk9 _ _ _ _ _ _ _ _
def f_X11_lowestTerms_9 : Nat → Int64 → Int64 → Int32 → Int64 → Int64 → Int32 → Mm → Prop → Int64 × Mm × Prop
  | 0, _, _, _, _, _, _, m, _ => (0, m, False)
  | n + 1, l0, l2, l4, l5, l7, l9, m, o => f_X11_lowestTerms_9b (f_X11_lowestTerms_9 n) l0 l2 l4 l5 l7 l9 m o
theorem t_X11_lowestTerms_9 (l : Launch) (E : En) (c0 s0 : Nat) : ∀ (n : Nat) (l0 : Int64) (l2 : Int64) (l4 : Int32) (l5 : Int64) (l7 : Int64) (l9 : Int32) (m : Mm) (o : Prop), Mh wJ l E mi_X11_lowestTerms c0 s0 9 [(0, .long l0), (2, .long l2), (4, .int l4), (5, .long l5), (7, .long l7), (9, .int l9)] [] m o (f_X11_lowestTerms_9 n l0 l2 l4 l5 l7 l9 m o)
  | 0, _, _, _, _, _, _, _, _ => Mh_out rfl
  | n + 1, l0, l2, l4, l5, l7, l9, m, o => t_X11_lowestTerms_9b l E c0 s0 (f_X11_lowestTerms_9 n) (t_X11_lowestTerms_9 l E c0 s0 n) l0 l2 l4 l5 l7 l9 m o
def f_X11_lowestTerms_0 (l0 : Int64) (l2 : Int64) (l4 : Int32) (m : Mm) (o : Prop) : Int64 × Mm × Prop := f_X11_lowestTerms_9 1000 l0 l2 l4 l2 l0 (0 : Int32) m o
set_option maxRecDepth 10000 in
theorem t_X11_lowestTerms_0 (l : Launch) (E : En) (c0 s0 : Nat) (l0 : Int64) (l2 : Int64) (l4 : Int32) (m : Mm) (o : Prop) : Mh wJ l E mi_X11_lowestTerms c0 s0 0 [(0, .long l0), (2, .long l2), (4, .int l4)] [] m o (f_X11_lowestTerms_0 l0 l2 l4 m o) := by
  refine Mh_lload_n 1 rfl dX11_lowestTerms_0 ?_
  refine Mh_lstore (lv' := [(5, .long l2), (0, .long l0), (2, .long l2), (4, .int l4)]) dX11_lowestTerms_1 (Nat.le_of_ble_eq_true rfl) rfl ?_
  refine Mh_lload_n 1 rfl dX11_lowestTerms_3 ?_
  refine Mh_lstore (lv' := [(7, .long l0), (5, .long l2), (0, .long l0), (2, .long l2), (4, .int l4)]) dX11_lowestTerms_4 (Nat.le_of_ble_eq_true rfl) rfl ?_
  refine Mh_iconst (v := 0) dX11_lowestTerms_6 (by decide) ?_
  refine Mh_istore (lv' := [(9, .int (0 : Int32)), (7, .long l0), (5, .long l2), (0, .long l0), (2, .long l2), (4, .int l4)]) dX11_lowestTerms_7 (Nat.le_of_ble_eq_true rfl) rfl ?_
  refine Mh_sub (lv' := [(0, .long l0), (2, .long l2), (4, .int l4), (5, .long l2), (7, .long l0), (9, .int (0 : Int32))]) [3, 4, 5, 2, 1, 0] rfl ?_
  exact t_X11_lowestTerms_9 l E c0 s0 _ _ _ _ _ _ _ _ _
def F_X11_lowestTerms (a0 : Int64) (a1 : Int64) (a2 : Int32) (m : Mm) (o : Prop) : Int64 × Mm × Prop := f_X11_lowestTerms_0 a0 a1 a2 m o
theorem T_X11_lowestTerms (l : Launch) (E : En) (a0 : Int64) (a1 : Int64) (a2 : Int32) (m : Mm) (o : Prop) : Mt wJ l E yX11_lowestTerms mi_X11_lowestTerms [.long a0, .long a1, .int a2] m o (F_X11_lowestTerms a0 a1 a2 m o) :=
  Mt_J (by decide) rfl rfl rfl (Nat.le_of_ble_eq_true rfl) rfl (t_X11_lowestTerms_0 l E _ _ _ _ _ _ _)
def f_X6_atLeast_9b (k9 : Nat → Int64 → Int32 → Mm → Prop → Int64 × Mm × Prop) (l0 : Nat) (l2 : Int64) (l4 : Int32) (m : Mm) (o : Prop) : Int64 × Mm × Prop := if (gI m l0 1) < l4 then (l2, m, (o ∧ gT m l0 = 7)) else (k9 l0 (l2 + (gL m (gR m l0 0) (ix l4))) (l4 + 1) m (((o ∧ gT m l0 = 7) ∧ (gT m l0 = 7 ∧ gR m l0 0 ≠ 0)) ∧ (gT m (gR m l0 0) = 21 ∧ vp_in l4 (gN m (gR m l0 0)))))
set_option maxRecDepth 10000 in
theorem t_X6_atLeast_9b (l : Launch) (E : En) (c0 s0 : Nat) (k9 : Nat → Int64 → Int32 → Mm → Prop → Int64 × Mm × Prop) (hk9 : ∀ (l0 : Nat) (l2 : Int64) (l4 : Int32) (m : Mm) (o : Prop), Mh wJ l E mi_X6_atLeast c0 s0 9 [(0, .ref l0), (2, .long l2), (4, .int l4)] [] m o (k9 l0 l2 l4 m o)) (l0 : Nat) (l2 : Int64) (l4 : Int32) (m : Mm) (o : Prop) : Mh wJ l E mi_X6_atLeast c0 s0 9 [(0, .ref l0), (2, .long l2), (4, .int l4)] [] m o (f_X6_atLeast_9b k9 l0 l2 l4 m o) := by
  refine Mh_iload 2 rfl dX6_atLeast_9 ?_
  refine Mh_aload_n 0 rfl dX6_atLeast_11 ?_
  refine Mh_gI fd_6_1 fl_RX6_13 dX6_atLeast_12 ?_
  refine Mh_icmp_gt (tgt := 34) dX6_atLeast_15 (by decide) rfl (fun _ => ?_) (fun _ => ?_)
  · refine Mh_lload_n 1 rfl dX6_atLeast_34 ?_
    exact Mh_ret dX6_atLeast_35 rfl (fun _ => rfl) rfl
  · refine Mh_lload_n 1 rfl dX6_atLeast_18 ?_
    refine Mh_aload_n 0 rfl dX6_atLeast_19 ?_
    refine Mh_gR fd_6_0 fl_RX6_9 dX6_atLeast_20 ?_
    refine Mh_iload 2 rfl dX6_atLeast_23 ?_
    refine Mh_lal dX6_atLeast_25 ?_
    refine Mh_ladd dX6_atLeast_26 ?_
    refine Mh_lstore_n (lv' := [(2, .long (l2 + (gL m (gR m l0 0) (ix l4)))), (0, .ref l0), (4, .int l4)]) dX6_atLeast_27 (Nat.le_of_ble_eq_true rfl) rfl ?_
    refine Mh_iinc (v := l4 + 1) (lv' := [(4, .int (l4 + 1)), (2, .long (l2 + (gL m (gR m l0 0) (ix l4)))), (0, .ref l0)]) 2 dX6_atLeast_28 rfl rfl (Nat.le_of_ble_eq_true rfl) rfl ?_
    refine Mh_goto (tgt := 9) dX6_atLeast_31 (by decide) ?_
    refine Mh_sub (lv' := [(0, .ref l0), (2, .long (l2 + (gL m (gR m l0 0) (ix l4)))), (4, .int (l4 + 1))]) [2, 1, 0] rfl ?_
    exact hk9 _ _ _ _ _
def f_X6_atLeast_9 : Nat → Nat → Int64 → Int32 → Mm → Prop → Int64 × Mm × Prop
  | 0, _, _, _, m, _ => (0, m, False)
  | n + 1, l0, l2, l4, m, o => f_X6_atLeast_9b (f_X6_atLeast_9 n) l0 l2 l4 m o
theorem t_X6_atLeast_9 (l : Launch) (E : En) (c0 s0 : Nat) : ∀ (n : Nat) (l0 : Nat) (l2 : Int64) (l4 : Int32) (m : Mm) (o : Prop), Mh wJ l E mi_X6_atLeast c0 s0 9 [(0, .ref l0), (2, .long l2), (4, .int l4)] [] m o (f_X6_atLeast_9 n l0 l2 l4 m o)
  | 0, _, _, _, _, _ => Mh_out rfl
  | n + 1, l0, l2, l4, m, o => t_X6_atLeast_9b l E c0 s0 (f_X6_atLeast_9 n) (t_X6_atLeast_9 l E c0 s0 n) l0 l2 l4 m o
def f_X6_atLeast_0 (l0 : Nat) (l1 : Int32) (m : Mm) (o : Prop) : Int64 × Mm × Prop := f_X6_atLeast_9 1000 l0 (0 : Int64) (if (0 : Int32) < l1 then l1 else (0 : Int32)) m o
set_option maxRecDepth 10000 in
theorem t_X6_atLeast_0 (l : Launch) (E : En) (c0 s0 : Nat) (l0 : Nat) (l1 : Int32) (m : Mm) (o : Prop) : Mh wJ l E mi_X6_atLeast c0 s0 0 [(0, .ref l0), (1, .int l1)] [] m o (f_X6_atLeast_0 l0 l1 m o) := by
  refine Mh_lconst (v := 0) dX6_atLeast_0 (by decide) ?_
  refine Mh_lstore_n (lv' := [(2, .long (0 : Int64)), (0, .ref l0), (1, .int l1)]) dX6_atLeast_1 (Nat.le_of_ble_eq_true rfl) rfl ?_
  refine Mh_iconst (v := 0) dX6_atLeast_2 (by decide) ?_
  refine Mh_iload_n 2 rfl dX6_atLeast_3 ?_
  refine Mh_max (by decide) ml_RX6_25 ma_max_1 ma_2 ma_max_3 (Nat.le_of_ble_eq_true rfl) dX6_atLeast_4 ?_
  refine Mh_istore (lv' := [(4, .int (if (0 : Int32) < l1 then l1 else (0 : Int32))), (2, .long (0 : Int64)), (0, .ref l0), (1, .int l1)]) dX6_atLeast_7 (Nat.le_of_ble_eq_true rfl) rfl ?_
  refine Mh_sub (lv' := [(0, .ref l0), (2, .long (0 : Int64)), (4, .int (if (0 : Int32) < l1 then l1 else (0 : Int32)))]) [2, 1, 0] rfl ?_
  exact t_X6_atLeast_9 l E c0 s0 _ _ _ _ _ _
def F_X6_atLeast (a0 : Nat) (a1 : Int32) (m : Mm) (o : Prop) : Int64 × Mm × Prop := f_X6_atLeast_0 a0 a1 m o
theorem T_X6_atLeast (l : Launch) (E : En) (a0 : Nat) (a1 : Int32) (m : Mm) (o : Prop) : Mt wJ l E yX6_atLeast mi_X6_atLeast [.ref a0, .int a1] m o (F_X6_atLeast a0 a1 m o) :=
  Mt_J (by decide) rfl rfl rfl (Nat.le_of_ble_eq_true rfl) rfl (t_X6_atLeast_0 l E _ _ _ _ _ _)
def f_X6_addDay_92 (k45 : Nat → Int32 → Int64 → Int32 → Mm → Prop → Unit × Mm × Prop) (l0 : Nat) (l1 : Int32) (l4 : Int32) (l5 : Int64) (y1 : Int64) (y0 : Int64) (m : Mm) (o : Prop) : Unit × Mm × Prop := k45 l0 l1 (y0 + (y1 - l5)) (l4 + (-1)) m o
set_option maxRecDepth 10000 in
theorem t_X6_addDay_92 (l : Launch) (E : En) (c0 s0 : Nat) (k45 : Nat → Int32 → Int64 → Int32 → Mm → Prop → Unit × Mm × Prop) (hk45 : ∀ (l0 : Nat) (l1 : Int32) (l2 : Int64) (l4 : Int32) (m : Mm) (o : Prop), Mh wU l E mi_X6_addDay c0 s0 45 [(0, .ref l0), (1, .int l1), (2, .long l2), (4, .int l4)] [] m o (k45 l0 l1 l2 l4 m o)) (l0 : Nat) (l1 : Int32) (l4 : Int32) (l5 : Int64) (y1 : Int64) (y0 : Int64) (m : Mm) (o : Prop) : Mh wU l E mi_X6_addDay c0 s0 92 [(0, .ref l0), (1, .int l1), (4, .int l4), (5, .long l5)] [.long y1, .long y0] m o (f_X6_addDay_92 k45 l0 l1 l4 l5 y1 y0 m o) := by
  refine Mh_lload 3 rfl dX6_addDay_92 ?_
  refine Mh_lsub dX6_addDay_94 ?_
  refine Mh_ladd dX6_addDay_95 ?_
  refine Mh_lstore_n (lv' := [(2, .long (y0 + (y1 - l5))), (0, .ref l0), (1, .int l1), (4, .int l4), (5, .long l5)]) dX6_addDay_96 (Nat.le_of_ble_eq_true rfl) rfl ?_
  refine Mh_iinc (v := l4 + (-1)) (lv' := [(4, .int (l4 + (-1))), (2, .long (y0 + (y1 - l5))), (0, .ref l0), (1, .int l1), (5, .long l5)]) 3 dX6_addDay_97 rfl rfl (Nat.le_of_ble_eq_true rfl) rfl ?_
  refine Mh_goto (tgt := 45) dX6_addDay_100 (by decide) ?_
  refine Mh_sub (lv' := [(0, .ref l0), (1, .int l1), (2, .long (y0 + (y1 - l5))), (4, .int (l4 + (-1)))]) [2, 3, 1, 0] rfl ?_
  exact hk45 _ _ _ _ _ _
def f_X6_addDay_75 (k45 : Nat → Int32 → Int64 → Int32 → Mm → Prop → Unit × Mm × Prop) (l0 : Nat) (l1 : Int32) (l2 : Int64) (l4 : Int32) (l5 : Int64) (l7 : Int32) (m : Mm) (o : Prop) : Unit × Mm × Prop := if l7 < 0 then (f_X6_addDay_92 k45 l0 l1 l4 l5 (0 : Int64) l2 m o) else (f_X6_addDay_92 k45 l0 l1 l4 l5 (gL m (gR m l0 0) (ix l7)) l2 m ((o ∧ (gT m l0 = 7 ∧ gR m l0 0 ≠ 0)) ∧ (gT m (gR m l0 0) = 21 ∧ vp_in l7 (gN m (gR m l0 0)))))
set_option maxRecDepth 10000 in
theorem t_X6_addDay_75 (l : Launch) (E : En) (c0 s0 : Nat) (k45 : Nat → Int32 → Int64 → Int32 → Mm → Prop → Unit × Mm × Prop) (hk45 : ∀ (l0 : Nat) (l1 : Int32) (l2 : Int64) (l4 : Int32) (m : Mm) (o : Prop), Mh wU l E mi_X6_addDay c0 s0 45 [(0, .ref l0), (1, .int l1), (2, .long l2), (4, .int l4)] [] m o (k45 l0 l1 l2 l4 m o)) (l0 : Nat) (l1 : Int32) (l2 : Int64) (l4 : Int32) (l5 : Int64) (l7 : Int32) (m : Mm) (o : Prop) : Mh wU l E mi_X6_addDay c0 s0 75 [(0, .ref l0), (1, .int l1), (2, .long l2), (4, .int l4), (5, .long l5), (7, .int l7)] [] m o (f_X6_addDay_75 k45 l0 l1 l2 l4 l5 l7 m o) := by
  refine Mh_lload_n 2 rfl dX6_addDay_75 ?_
  refine Mh_iload 5 rfl dX6_addDay_76 ?_
  refine Mh_if_lt (tgt := 91) dX6_addDay_78 (by decide) rfl (fun _ => ?_) (fun _ => ?_)
  · refine Mh_lconst (v := 0) dX6_addDay_91 (by decide) ?_
    refine Mh_sub (lv' := [(0, .ref l0), (1, .int l1), (4, .int l4), (5, .long l5)]) [0, 1, 3, 4] rfl ?_
    exact t_X6_addDay_92 l E c0 s0 k45 hk45 _ _ _ _ _ _ _ _
  · refine Mh_aload_n 0 rfl dX6_addDay_81 ?_
    refine Mh_gR fd_6_0 fl_RX6_9 dX6_addDay_82 ?_
    refine Mh_iload 5 rfl dX6_addDay_85 ?_
    refine Mh_lal dX6_addDay_87 ?_
    refine Mh_goto (tgt := 92) dX6_addDay_88 (by decide) ?_
    refine Mh_sub (lv' := [(0, .ref l0), (1, .int l1), (4, .int l4), (5, .long l5)]) [0, 1, 3, 4] rfl ?_
    exact t_X6_addDay_92 l E c0 s0 k45 hk45 _ _ _ _ _ _ _ _
def f_X6_addDay_45b (k45 : Nat → Int32 → Int64 → Int32 → Mm → Prop → Unit × Mm × Prop) (l0 : Nat) (l1 : Int32) (l2 : Int64) (l4 : Int32) (m : Mm) (o : Prop) : Unit × Mm × Prop := if l4 < 0 then ((), m, o) else (f_X6_addDay_75 k45 l0 l1 l2 l4 (gL m (gR m l0 0) (ix l4)) ((l4 - l1) - (1 : Int32)) (sL m (gR m l0 0) (ix l4) l2) ((o ∧ (gT m l0 = 7 ∧ gR m l0 0 ≠ 0)) ∧ (gT m (gR m l0 0) = 21 ∧ vp_in l4 (gN m (gR m l0 0)))))
set_option maxRecDepth 10000 in
theorem t_X6_addDay_45b (l : Launch) (E : En) (c0 s0 : Nat) (k45 : Nat → Int32 → Int64 → Int32 → Mm → Prop → Unit × Mm × Prop) (hk45 : ∀ (l0 : Nat) (l1 : Int32) (l2 : Int64) (l4 : Int32) (m : Mm) (o : Prop), Mh wU l E mi_X6_addDay c0 s0 45 [(0, .ref l0), (1, .int l1), (2, .long l2), (4, .int l4)] [] m o (k45 l0 l1 l2 l4 m o)) (l0 : Nat) (l1 : Int32) (l2 : Int64) (l4 : Int32) (m : Mm) (o : Prop) : Mh wU l E mi_X6_addDay c0 s0 45 [(0, .ref l0), (1, .int l1), (2, .long l2), (4, .int l4)] [] m o (f_X6_addDay_45b k45 l0 l1 l2 l4 m o) := by
  refine Mh_iload 3 rfl dX6_addDay_45 ?_
  refine Mh_if_lt (tgt := 103) dX6_addDay_47 (by decide) rfl (fun _ => ?_) (fun _ => ?_)
  · exact Mh_ret dX6_addDay_103 rfl (fun _ => trivial) rfl
  · refine Mh_aload_n 0 rfl dX6_addDay_50 ?_
    refine Mh_gR fd_6_0 fl_RX6_9 dX6_addDay_51 ?_
    refine Mh_iload 3 rfl dX6_addDay_54 ?_
    refine Mh_lal dX6_addDay_56 ?_
    refine Mh_lstore (lv' := [(5, .long (gL m (gR m l0 0) (ix l4))), (0, .ref l0), (1, .int l1), (2, .long l2), (4, .int l4)]) dX6_addDay_57 (Nat.le_of_ble_eq_true rfl) rfl ?_
    refine Mh_iload 4 rfl dX6_addDay_59 ?_
    refine Mh_iload_n 2 rfl dX6_addDay_61 ?_
    refine Mh_isub dX6_addDay_62 ?_
    refine Mh_iconst (v := 1) dX6_addDay_63 (by decide) ?_
    refine Mh_isub dX6_addDay_64 ?_
    refine Mh_istore (lv' := [(7, .int ((l4 - l1) - (1 : Int32))), (5, .long (gL m (gR m l0 0) (ix l4))), (0, .ref l0), (1, .int l1), (2, .long l2), (4, .int l4)]) dX6_addDay_65 (Nat.le_of_ble_eq_true rfl) rfl ?_
    refine Mh_aload_n 2 rfl dX6_addDay_67 ?_
    refine Mh_gR fd_6_0 fl_RX6_9 dX6_addDay_68 ?_
    refine Mh_ok (fun h => h.1.2) ?_
    refine Mh_iload 5 rfl dX6_addDay_71 ?_
    refine Mh_lload_n 4 rfl dX6_addDay_73 ?_
    refine Mh_las dX6_addDay_74 ?_
    refine Mh_ok (fun h => h.2) ?_
    refine Mh_sub (lv' := [(0, .ref l0), (1, .int l1), (2, .long l2), (4, .int l4), (5, .long (gL m (gR m l0 0) (ix l4))), (7, .int ((l4 - l1) - (1 : Int32)))]) [2, 3, 4, 5, 1, 0] rfl ?_
    exact t_X6_addDay_75 l E c0 s0 k45 hk45 _ _ _ _ _ _ _ _
def f_X6_addDay_45 : Nat → Nat → Int32 → Int64 → Int32 → Mm → Prop → Unit × Mm × Prop
  | 0, _, _, _, _, m, _ => ((), m, False)
  | n + 1, l0, l1, l2, l4, m, o => f_X6_addDay_45b (f_X6_addDay_45 n) l0 l1 l2 l4 m o
theorem t_X6_addDay_45 (l : Launch) (E : En) (c0 s0 : Nat) : ∀ (n : Nat) (l0 : Nat) (l1 : Int32) (l2 : Int64) (l4 : Int32) (m : Mm) (o : Prop), Mh wU l E mi_X6_addDay c0 s0 45 [(0, .ref l0), (1, .int l1), (2, .long l2), (4, .int l4)] [] m o (f_X6_addDay_45 n l0 l1 l2 l4 m o)
  | 0, _, _, _, _, _, _ => Mh_out rfl
  | n + 1, l0, l1, l2, l4, m, o => t_X6_addDay_45b l E c0 s0 (f_X6_addDay_45 n) (t_X6_addDay_45 l E c0 s0 n) l0 l1 l2 l4 m o
def f_X6_addDay_14b (k14 : Nat → Int32 → Int64 → Int32 → Mm → Prop → Unit × Mm × Prop) (l0 : Nat) (l1 : Int32) (l2 : Int64) (l4 : Int32) (m : Mm) (o : Prop) : Unit × Mm × Prop := if (gI m l0 1) < l4 then (f_X6_addDay_45 1000 l0 l1 l2 (gI m l0 1) m (o ∧ gT m l0 = 7)) else (k14 l0 l1 (l2 + (gL m (gR m l0 0) (ix l4))) (l4 + 1) m (((o ∧ gT m l0 = 7) ∧ (gT m l0 = 7 ∧ gR m l0 0 ≠ 0)) ∧ (gT m (gR m l0 0) = 21 ∧ vp_in l4 (gN m (gR m l0 0)))))
set_option maxRecDepth 10000 in
theorem t_X6_addDay_14b (l : Launch) (E : En) (c0 s0 : Nat) (k14 : Nat → Int32 → Int64 → Int32 → Mm → Prop → Unit × Mm × Prop) (hk14 : ∀ (l0 : Nat) (l1 : Int32) (l2 : Int64) (l4 : Int32) (m : Mm) (o : Prop), Mh wU l E mi_X6_addDay c0 s0 14 [(0, .ref l0), (1, .int l1), (2, .long l2), (4, .int l4)] [] m o (k14 l0 l1 l2 l4 m o)) (l0 : Nat) (l1 : Int32) (l2 : Int64) (l4 : Int32) (m : Mm) (o : Prop) : Mh wU l E mi_X6_addDay c0 s0 14 [(0, .ref l0), (1, .int l1), (2, .long l2), (4, .int l4)] [] m o (f_X6_addDay_14b k14 l0 l1 l2 l4 m o) := by
  refine Mh_iload 3 rfl dX6_addDay_14 ?_
  refine Mh_aload_n 0 rfl dX6_addDay_16 ?_
  refine Mh_gI fd_6_1 fl_RX6_13 dX6_addDay_17 ?_
  refine Mh_icmp_gt (tgt := 39) dX6_addDay_20 (by decide) rfl (fun _ => ?_) (fun _ => ?_)
  · refine Mh_aload_n 0 rfl dX6_addDay_39 ?_
    refine Mh_gI fd_6_1 fl_RX6_13 dX6_addDay_40 ?_
    refine Mh_ok (fun h => h.2) ?_
    refine Mh_istore (lv' := [(4, .int (gI m l0 1)), (0, .ref l0), (1, .int l1), (2, .long l2)]) dX6_addDay_43 (Nat.le_of_ble_eq_true rfl) rfl ?_
    refine Mh_sub (lv' := [(0, .ref l0), (1, .int l1), (2, .long l2), (4, .int (gI m l0 1))]) [1, 2, 3, 0] rfl ?_
    exact t_X6_addDay_45 l E c0 s0 _ _ _ _ _ _ _
  · refine Mh_lload_n 2 rfl dX6_addDay_23 ?_
    refine Mh_aload_n 0 rfl dX6_addDay_24 ?_
    refine Mh_gR fd_6_0 fl_RX6_9 dX6_addDay_25 ?_
    refine Mh_iload 3 rfl dX6_addDay_28 ?_
    refine Mh_lal dX6_addDay_30 ?_
    refine Mh_ladd dX6_addDay_31 ?_
    refine Mh_lstore_n (lv' := [(2, .long (l2 + (gL m (gR m l0 0) (ix l4)))), (0, .ref l0), (1, .int l1), (4, .int l4)]) dX6_addDay_32 (Nat.le_of_ble_eq_true rfl) rfl ?_
    refine Mh_iinc (v := l4 + 1) (lv' := [(4, .int (l4 + 1)), (2, .long (l2 + (gL m (gR m l0 0) (ix l4)))), (0, .ref l0), (1, .int l1)]) 3 dX6_addDay_33 rfl rfl (Nat.le_of_ble_eq_true rfl) rfl ?_
    refine Mh_goto (tgt := 14) dX6_addDay_36 (by decide) ?_
    refine Mh_sub (lv' := [(0, .ref l0), (1, .int l1), (2, .long (l2 + (gL m (gR m l0 0) (ix l4)))), (4, .int (l4 + 1))]) [2, 3, 1, 0] rfl ?_
    exact hk14 _ _ _ _ _ _
def f_X6_addDay_14 : Nat → Nat → Int32 → Int64 → Int32 → Mm → Prop → Unit × Mm × Prop
  | 0, _, _, _, _, m, _ => ((), m, False)
  | n + 1, l0, l1, l2, l4, m, o => f_X6_addDay_14b (f_X6_addDay_14 n) l0 l1 l2 l4 m o
theorem t_X6_addDay_14 (l : Launch) (E : En) (c0 s0 : Nat) : ∀ (n : Nat) (l0 : Nat) (l1 : Int32) (l2 : Int64) (l4 : Int32) (m : Mm) (o : Prop), Mh wU l E mi_X6_addDay c0 s0 14 [(0, .ref l0), (1, .int l1), (2, .long l2), (4, .int l4)] [] m o (f_X6_addDay_14 n l0 l1 l2 l4 m o)
  | 0, _, _, _, _, _, _ => Mh_out rfl
  | n + 1, l0, l1, l2, l4, m, o => t_X6_addDay_14b l E c0 s0 (f_X6_addDay_14 n) (t_X6_addDay_14 l E c0 s0 n) l0 l1 l2 l4 m o
def f_X6_addDay_0 (l0 : Nat) (l1 : Int32) (m : Mm) (o : Prop) : Unit × Mm × Prop := f_X6_addDay_14 1000 l0 l1 (0 : Int64) (if (0 : Int32) < ((gI m l0 1) - l1) then ((gI m l0 1) - l1) else (0 : Int32)) m (o ∧ gT m l0 = 7)
set_option maxRecDepth 10000 in
theorem t_X6_addDay_0 (l : Launch) (E : En) (c0 s0 : Nat) (l0 : Nat) (l1 : Int32) (m : Mm) (o : Prop) : Mh wU l E mi_X6_addDay c0 s0 0 [(0, .ref l0), (1, .int l1)] [] m o (f_X6_addDay_0 l0 l1 m o) := by
  refine Mh_lconst (v := 0) dX6_addDay_0 (by decide) ?_
  refine Mh_lstore_n (lv' := [(2, .long (0 : Int64)), (0, .ref l0), (1, .int l1)]) dX6_addDay_1 (Nat.le_of_ble_eq_true rfl) rfl ?_
  refine Mh_iconst (v := 0) dX6_addDay_2 (by decide) ?_
  refine Mh_aload_n 1 rfl dX6_addDay_3 ?_
  refine Mh_gI fd_6_1 fl_RX6_13 dX6_addDay_4 ?_
  refine Mh_iload_n 2 rfl dX6_addDay_7 ?_
  refine Mh_isub dX6_addDay_8 ?_
  refine Mh_max (by decide) ml_RX6_25 ma_max_1 ma_2 ma_max_3 (Nat.le_of_ble_eq_true rfl) dX6_addDay_9 ?_
  refine Mh_istore (lv' := [(4, .int (if (0 : Int32) < ((gI m l0 1) - l1) then ((gI m l0 1) - l1) else (0 : Int32))), (2, .long (0 : Int64)), (0, .ref l0), (1, .int l1)]) dX6_addDay_12 (Nat.le_of_ble_eq_true rfl) rfl ?_
  refine Mh_sub (lv' := [(0, .ref l0), (1, .int l1), (2, .long (0 : Int64)), (4, .int (if (0 : Int32) < ((gI m l0 1) - l1) then ((gI m l0 1) - l1) else (0 : Int32)))]) [2, 3, 1, 0] rfl ?_
  exact t_X6_addDay_14 l E c0 s0 _ _ _ _ _ _ _
def F_X6_addDay (a0 : Nat) (a1 : Int32) (m : Mm) (o : Prop) : Unit × Mm × Prop := f_X6_addDay_0 a0 a1 m o
theorem T_X6_addDay (l : Launch) (E : En) (a0 : Nat) (a1 : Int32) (m : Mm) (o : Prop) : Mt wU l E yX6_addDay mi_X6_addDay [.ref a0, .int a1] m o (F_X6_addDay a0 a1 m o) :=
  Mt_U (by decide) rfl (fun h => by cases h) rfl (Nat.le_of_ble_eq_true rfl) rfl (t_X6_addDay_0 l E _ _ _ _ _ _)
def f_X6_throwDays_36 (k21 : Nat → Int32 → Int32 → Int32 → Mm → Prop → Unit × Mm × Prop) (l0 : Nat) (l1 : Int32) (l2 : Int32) (l3 : Int32) (m : Mm) (o : Prop) : Unit × Mm × Prop := k21 l0 l1 l2 (l3 + 1) m o
set_option maxRecDepth 10000 in
theorem t_X6_throwDays_36 (l : Launch) (E : En) (c0 s0 : Nat) (k21 : Nat → Int32 → Int32 → Int32 → Mm → Prop → Unit × Mm × Prop) (hk21 : ∀ (l0 : Nat) (l1 : Int32) (l2 : Int32) (l3 : Int32) (m : Mm) (o : Prop), Mh wU l E mi_X6_throwDays c0 s0 21 [(0, .ref l0), (1, .int l1), (2, .int l2), (3, .int l3)] [] m o (k21 l0 l1 l2 l3 m o)) (l0 : Nat) (l1 : Int32) (l2 : Int32) (l3 : Int32) (m : Mm) (o : Prop) : Mh wU l E mi_X6_throwDays c0 s0 36 [(0, .ref l0), (1, .int l1), (2, .int l2), (3, .int l3)] [] m o (f_X6_throwDays_36 k21 l0 l1 l2 l3 m o) := by
  refine Mh_iinc (v := l3 + 1) (lv' := [(3, .int (l3 + 1)), (0, .ref l0), (1, .int l1), (2, .int l2)]) 3 dX6_throwDays_36 rfl rfl (Nat.le_of_ble_eq_true rfl) rfl ?_
  refine Mh_goto (tgt := 21) dX6_throwDays_39 (by decide) ?_
  refine Mh_sub (lv' := [(0, .ref l0), (1, .int l1), (2, .int l2), (3, .int (l3 + 1))]) [1, 2, 3, 0] rfl ?_
  exact hk21 _ _ _ _ _ _
def f_X6_throwDays_67 (k44 : Nat → Int32 → Int32 → Int32 → Mm → Prop → Unit × Mm × Prop) (l0 : Nat) (l1 : Int32) (l2 : Int32) (l3 : Int32) (m : Mm) (o : Prop) : Unit × Mm × Prop := k44 l0 l1 l2 (l3 + 1) m o
set_option maxRecDepth 10000 in
theorem t_X6_throwDays_67 (l : Launch) (E : En) (c0 s0 : Nat) (k44 : Nat → Int32 → Int32 → Int32 → Mm → Prop → Unit × Mm × Prop) (hk44 : ∀ (l0 : Nat) (l1 : Int32) (l2 : Int32) (l3 : Int32) (m : Mm) (o : Prop), Mh wU l E mi_X6_throwDays c0 s0 44 [(0, .ref l0), (1, .int l1), (2, .int l2), (3, .int l3)] [] m o (k44 l0 l1 l2 l3 m o)) (l0 : Nat) (l1 : Int32) (l2 : Int32) (l3 : Int32) (m : Mm) (o : Prop) : Mh wU l E mi_X6_throwDays c0 s0 67 [(0, .ref l0), (1, .int l1), (2, .int l2), (3, .int l3)] [] m o (f_X6_throwDays_67 k44 l0 l1 l2 l3 m o) := by
  refine Mh_iinc (v := l3 + 1) (lv' := [(3, .int (l3 + 1)), (0, .ref l0), (1, .int l1), (2, .int l2)]) 3 dX6_throwDays_67 rfl rfl (Nat.le_of_ble_eq_true rfl) rfl ?_
  refine Mh_goto (tgt := 44) dX6_throwDays_70 (by decide) ?_
  refine Mh_sub (lv' := [(0, .ref l0), (1, .int l1), (2, .int l2), (3, .int (l3 + 1))]) [1, 2, 3, 0] rfl ?_
  exact hk44 _ _ _ _ _ _
def f_X6_throwDays_62 (k44 : Nat → Int32 → Int32 → Int32 → Mm → Prop → Unit × Mm × Prop) (l0 : Nat) (l1 : Int32) (l2 : Int32) (l3 : Int32) (m : Mm) (o : Prop) : Unit × Mm × Prop := bnd (F_X6_addDay l0 l2 m (o ∧ gT m l0 = 7)) (fun _ m1 o1 => f_X6_throwDays_67 k44 l0 l1 l2 l3 m1 o1)
set_option maxRecDepth 10000 in
theorem t_X6_throwDays_62 (l : Launch) (E : En) (c0 s0 : Nat) (k44 : Nat → Int32 → Int32 → Int32 → Mm → Prop → Unit × Mm × Prop) (hk44 : ∀ (l0 : Nat) (l1 : Int32) (l2 : Int32) (l3 : Int32) (m : Mm) (o : Prop), Mh wU l E mi_X6_throwDays c0 s0 44 [(0, .ref l0), (1, .int l1), (2, .int l2), (3, .int l3)] [] m o (k44 l0 l1 l2 l3 m o)) (l0 : Nat) (l1 : Int32) (l2 : Int32) (l3 : Int32) (m : Mm) (o : Prop) : Mh wU l E mi_X6_throwDays c0 s0 62 [(0, .ref l0), (1, .int l1), (2, .int l2), (3, .int l3)] [] m o (f_X6_throwDays_62 k44 l0 l1 l2 l3 m o) := by
  refine Mh_aload_n 0 rfl dX6_throwDays_62 ?_
  refine Mh_iload_n 2 rfl dX6_throwDays_63 ?_
  refine Mh_cvU (N := mi_X6_addDay) (q := l0) (ci := 6) (as := [.int l2]) (st := []) (id) cg_yX6_addDay (by decide) rfl rfl ml_RX6_21 iv_yX6_addDay pd_yX6_addDay rfl (by decide) (Nat.le_of_ble_eq_true rfl) rfl dX6_throwDays_64 (T_X6_addDay l E _ _ _ _) rfl ?_
  exact t_X6_throwDays_67 l E c0 s0 k44 hk44 _ _ _ _ _ _
def f_X6_throwDays_44b (k44 : Nat → Int32 → Int32 → Int32 → Mm → Prop → Unit × Mm × Prop) (l0 : Nat) (l1 : Int32) (l2 : Int32) (l3 : Int32) (m : Mm) (o : Prop) : Unit × Mm × Prop := if l1 ≤ l3 then ((), m, o) else (f_X6_throwDays_62 k44 l0 l1 l2 l3 (sL m l0 2 ((gL m l0 2) * (Int32.toInt64 (l2 + (1 : Int32))))) (o ∧ gT m l0 = 7))
set_option maxRecDepth 10000 in
theorem t_X6_throwDays_44b (l : Launch) (E : En) (c0 s0 : Nat) (k44 : Nat → Int32 → Int32 → Int32 → Mm → Prop → Unit × Mm × Prop) (hk44 : ∀ (l0 : Nat) (l1 : Int32) (l2 : Int32) (l3 : Int32) (m : Mm) (o : Prop), Mh wU l E mi_X6_throwDays c0 s0 44 [(0, .ref l0), (1, .int l1), (2, .int l2), (3, .int l3)] [] m o (k44 l0 l1 l2 l3 m o)) (l0 : Nat) (l1 : Int32) (l2 : Int32) (l3 : Int32) (m : Mm) (o : Prop) : Mh wU l E mi_X6_throwDays c0 s0 44 [(0, .ref l0), (1, .int l1), (2, .int l2), (3, .int l3)] [] m o (f_X6_throwDays_44b k44 l0 l1 l2 l3 m o) := by
  refine Mh_iload_n 3 rfl dX6_throwDays_44 ?_
  refine Mh_iload_n 1 rfl dX6_throwDays_45 ?_
  refine Mh_icmp_ge (tgt := 73) dX6_throwDays_46 (by decide) rfl (fun _ => ?_) (fun _ => ?_)
  · exact Mh_ret dX6_throwDays_73 rfl (fun _ => trivial) rfl
  · refine Mh_aload_n 0 rfl dX6_throwDays_49 ?_
    refine Mh_dup dX6_throwDays_50 rfl ?_
    refine Mh_gJ fd_6_2 fl_RX6_17 dX6_throwDays_51 ?_
    refine Mh_iload_n 2 rfl dX6_throwDays_54 ?_
    refine Mh_iconst (v := 1) dX6_throwDays_55 (by decide) ?_
    refine Mh_iadd dX6_throwDays_56 ?_
    refine Mh_i2l dX6_throwDays_57 ?_
    refine Mh_lmul dX6_throwDays_58 ?_
    refine Mh_pJ fd_6_2 ft_6 rfl fl_RX6_17 rfl dX6_throwDays_59 ?_
    refine Mh_ok (fun h => h.2) ?_
    exact t_X6_throwDays_62 l E c0 s0 k44 hk44 _ _ _ _ _ _
def f_X6_throwDays_44 : Nat → Nat → Int32 → Int32 → Int32 → Mm → Prop → Unit × Mm × Prop
  | 0, _, _, _, _, m, _ => ((), m, False)
  | n + 1, l0, l1, l2, l3, m, o => f_X6_throwDays_44b (f_X6_throwDays_44 n) l0 l1 l2 l3 m o
theorem t_X6_throwDays_44 (l : Launch) (E : En) (c0 s0 : Nat) : ∀ (n : Nat) (l0 : Nat) (l1 : Int32) (l2 : Int32) (l3 : Int32) (m : Mm) (o : Prop), Mh wU l E mi_X6_throwDays c0 s0 44 [(0, .ref l0), (1, .int l1), (2, .int l2), (3, .int l3)] [] m o (f_X6_throwDays_44 n l0 l1 l2 l3 m o)
  | 0, _, _, _, _, _, _ => Mh_out rfl
  | n + 1, l0, l1, l2, l3, m, o => t_X6_throwDays_44b l E c0 s0 (f_X6_throwDays_44 n) (t_X6_throwDays_44 l E c0 s0 n) l0 l1 l2 l3 m o
def f_X6_throwDays_21b (k21 : Nat → Int32 → Int32 → Int32 → Mm → Prop → Unit × Mm × Prop) (l0 : Nat) (l1 : Int32) (l2 : Int32) (l3 : Int32) (m : Mm) (o : Prop) : Unit × Mm × Prop := if (gI m l0 1) < l3 then (f_X6_throwDays_44 1000 l0 l1 l2 (0 : Int32) m (o ∧ gT m l0 = 7)) else (f_X6_throwDays_36 k21 l0 l1 l2 l3 (sL m (gR m l0 0) (ix l3) (0 : Int64)) (((o ∧ gT m l0 = 7) ∧ (gT m l0 = 7 ∧ gR m l0 0 ≠ 0)) ∧ (gT m (gR m l0 0) = 21 ∧ vp_in l3 (gN m (gR m l0 0)))))
set_option maxRecDepth 10000 in
theorem t_X6_throwDays_21b (l : Launch) (E : En) (c0 s0 : Nat) (k21 : Nat → Int32 → Int32 → Int32 → Mm → Prop → Unit × Mm × Prop) (hk21 : ∀ (l0 : Nat) (l1 : Int32) (l2 : Int32) (l3 : Int32) (m : Mm) (o : Prop), Mh wU l E mi_X6_throwDays c0 s0 21 [(0, .ref l0), (1, .int l1), (2, .int l2), (3, .int l3)] [] m o (k21 l0 l1 l2 l3 m o)) (l0 : Nat) (l1 : Int32) (l2 : Int32) (l3 : Int32) (m : Mm) (o : Prop) : Mh wU l E mi_X6_throwDays c0 s0 21 [(0, .ref l0), (1, .int l1), (2, .int l2), (3, .int l3)] [] m o (f_X6_throwDays_21b k21 l0 l1 l2 l3 m o) := by
  refine Mh_iload_n 3 rfl dX6_throwDays_21 ?_
  refine Mh_aload_n 0 rfl dX6_throwDays_22 ?_
  refine Mh_gI fd_6_1 fl_RX6_13 dX6_throwDays_23 ?_
  refine Mh_icmp_gt (tgt := 42) dX6_throwDays_26 (by decide) rfl (fun _ => ?_) (fun _ => ?_)
  · refine Mh_iconst (v := 0) dX6_throwDays_42 (by decide) ?_
    refine Mh_istore_n (lv' := [(3, .int (0 : Int32)), (0, .ref l0), (1, .int l1), (2, .int l2)]) dX6_throwDays_43 (Nat.le_of_ble_eq_true rfl) rfl ?_
    refine Mh_sub (lv' := [(0, .ref l0), (1, .int l1), (2, .int l2), (3, .int (0 : Int32))]) [1, 2, 3, 0] rfl ?_
    exact t_X6_throwDays_44 l E c0 s0 _ _ _ _ _ _ _
  · refine Mh_aload_n 0 rfl dX6_throwDays_29 ?_
    refine Mh_gR fd_6_0 fl_RX6_9 dX6_throwDays_30 ?_
    refine Mh_iload_n 3 rfl dX6_throwDays_33 ?_
    refine Mh_lconst (v := 0) dX6_throwDays_34 (by decide) ?_
    refine Mh_las dX6_throwDays_35 ?_
    exact t_X6_throwDays_36 l E c0 s0 k21 hk21 _ _ _ _ _ _
def f_X6_throwDays_21 : Nat → Nat → Int32 → Int32 → Int32 → Mm → Prop → Unit × Mm × Prop
  | 0, _, _, _, _, m, _ => ((), m, False)
  | n + 1, l0, l1, l2, l3, m, o => f_X6_throwDays_21b (f_X6_throwDays_21 n) l0 l1 l2 l3 m o
theorem t_X6_throwDays_21 (l : Launch) (E : En) (c0 s0 : Nat) : ∀ (n : Nat) (l0 : Nat) (l1 : Int32) (l2 : Int32) (l3 : Int32) (m : Mm) (o : Prop), Mh wU l E mi_X6_throwDays c0 s0 21 [(0, .ref l0), (1, .int l1), (2, .int l2), (3, .int l3)] [] m o (f_X6_throwDays_21 n l0 l1 l2 l3 m o)
  | 0, _, _, _, _, _, _ => Mh_out rfl
  | n + 1, l0, l1, l2, l3, m, o => t_X6_throwDays_21b l E c0 s0 (f_X6_throwDays_21 n) (t_X6_throwDays_21 l E c0 s0 n) l0 l1 l2 l3 m o
def f_X6_throwDays_19 (l0 : Nat) (l1 : Int32) (l2 : Int32) (m : Mm) (o : Prop) : Unit × Mm × Prop := f_X6_throwDays_21 1000 l0 l1 l2 (1 : Int32) m o
set_option maxRecDepth 10000 in
theorem t_X6_throwDays_19 (l : Launch) (E : En) (c0 s0 : Nat) (l0 : Nat) (l1 : Int32) (l2 : Int32) (m : Mm) (o : Prop) : Mh wU l E mi_X6_throwDays c0 s0 19 [(0, .ref l0), (1, .int l1), (2, .int l2)] [] m o (f_X6_throwDays_19 l0 l1 l2 m o) := by
  refine Mh_iconst (v := 1) dX6_throwDays_19 (by decide) ?_
  refine Mh_istore_n (lv' := [(3, .int (1 : Int32)), (0, .ref l0), (1, .int l1), (2, .int l2)]) dX6_throwDays_20 (Nat.le_of_ble_eq_true rfl) rfl ?_
  refine Mh_sub (lv' := [(0, .ref l0), (1, .int l1), (2, .int l2), (3, .int (1 : Int32))]) [1, 2, 3, 0] rfl ?_
  exact t_X6_throwDays_21 l E c0 s0 _ _ _ _ _ _ _
def f_X6_throwDays_12 (l0 : Nat) (l1 : Int32) (l2 : Int32) (m : Mm) (o : Prop) : Unit × Mm × Prop := f_X6_throwDays_19 l0 l1 l2 (sL m (gR m l0 0) (ix (0 : Int32)) (1 : Int64)) ((o ∧ (gT m l0 = 7 ∧ gR m l0 0 ≠ 0)) ∧ (gT m (gR m l0 0) = 21 ∧ vp_in (0 : Int32) (gN m (gR m l0 0))))
set_option maxRecDepth 10000 in
theorem t_X6_throwDays_12 (l : Launch) (E : En) (c0 s0 : Nat) (l0 : Nat) (l1 : Int32) (l2 : Int32) (m : Mm) (o : Prop) : Mh wU l E mi_X6_throwDays c0 s0 12 [(0, .ref l0), (1, .int l1), (2, .int l2)] [] m o (f_X6_throwDays_12 l0 l1 l2 m o) := by
  refine Mh_aload_n 0 rfl dX6_throwDays_12 ?_
  refine Mh_gR fd_6_0 fl_RX6_9 dX6_throwDays_13 ?_
  refine Mh_iconst (v := 0) dX6_throwDays_16 (by decide) ?_
  refine Mh_lconst (v := 1) dX6_throwDays_17 (by decide) ?_
  refine Mh_las dX6_throwDays_18 ?_
  exact t_X6_throwDays_19 l E c0 s0 _ _ _ _ _
def f_X6_throwDays_7 (l0 : Nat) (l1 : Int32) (l2 : Int32) (m : Mm) (o : Prop) : Unit × Mm × Prop := f_X6_throwDays_12 l0 l1 l2 (sL m l0 2 (1 : Int64)) (o ∧ gT m l0 = 7)
set_option maxRecDepth 10000 in
theorem t_X6_throwDays_7 (l : Launch) (E : En) (c0 s0 : Nat) (l0 : Nat) (l1 : Int32) (l2 : Int32) (m : Mm) (o : Prop) : Mh wU l E mi_X6_throwDays c0 s0 7 [(0, .ref l0), (1, .int l1), (2, .int l2)] [] m o (f_X6_throwDays_7 l0 l1 l2 m o) := by
  refine Mh_aload_n 0 rfl dX6_throwDays_7 ?_
  refine Mh_lconst (v := 1) dX6_throwDays_8 (by decide) ?_
  refine Mh_pJ fd_6_2 ft_6 rfl fl_RX6_17 rfl dX6_throwDays_9 ?_
  exact t_X6_throwDays_12 l E c0 s0 _ _ _ _ _
def f_X6_throwDays_0 (l0 : Nat) (l1 : Int32) (l2 : Int32) (m : Mm) (o : Prop) : Unit × Mm × Prop := f_X6_throwDays_7 l0 l1 l2 (sI m l0 1 (l1 * l2)) (o ∧ gT m l0 = 7)
set_option maxRecDepth 10000 in
theorem t_X6_throwDays_0 (l : Launch) (E : En) (c0 s0 : Nat) (l0 : Nat) (l1 : Int32) (l2 : Int32) (m : Mm) (o : Prop) : Mh wU l E mi_X6_throwDays c0 s0 0 [(0, .ref l0), (1, .int l1), (2, .int l2)] [] m o (f_X6_throwDays_0 l0 l1 l2 m o) := by
  refine Mh_aload_n 0 rfl dX6_throwDays_0 ?_
  refine Mh_iload_n 1 rfl dX6_throwDays_1 ?_
  refine Mh_iload_n 2 rfl dX6_throwDays_2 ?_
  refine Mh_imul dX6_throwDays_3 ?_
  refine Mh_pI fd_6_1 ft_6 rfl fl_RX6_13 rfl dX6_throwDays_4 ?_
  exact t_X6_throwDays_7 l E c0 s0 _ _ _ _ _
def F_X6_throwDays (a0 : Nat) (a1 : Int32) (a2 : Int32) (m : Mm) (o : Prop) : Unit × Mm × Prop := f_X6_throwDays_0 a0 a1 a2 m o
theorem T_X6_throwDays (l : Launch) (E : En) (a0 : Nat) (a1 : Int32) (a2 : Int32) (m : Mm) (o : Prop) : Mt wU l E yX6_throwDays mi_X6_throwDays [.ref a0, .int a1, .int a2] m o (F_X6_throwDays a0 a1 a2 m o) :=
  Mt_U (by decide) rfl (fun h => by cases h) rfl (Nat.le_of_ble_eq_true rfl) rfl (t_X6_throwDays_0 l E _ _ _ _ _ _ _)
