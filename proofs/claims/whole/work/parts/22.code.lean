def f_X11_burns_50 (m : Mm) (o : Prop) : Int64 × Mm × Prop := ((-1 : Int64), m, o)
set_option maxRecDepth 10000 in
theorem t_X11_burns_50 (l : Launch) (E : En) (c0 s0 : Nat) (m : Mm) (o : Prop) : Mh wJ l E mi_X11_burns c0 s0 50 [] [] m o (f_X11_burns_50  m o) := by
  refine Mh_ldc2 (v := (-1)) gl_RX11_243 dX11_burns_50 ?_
  exact Mh_ret dX11_burns_53 rfl (fun _ => rfl) rfl
def f_X11_burns_102 (y0 : Int64) (m : Mm) (o : Prop) : Int64 × Mm × Prop := (y0, m, o)
set_option maxRecDepth 10000 in
theorem t_X11_burns_102 (l : Launch) (E : En) (c0 s0 : Nat) (y0 : Int64) (m : Mm) (o : Prop) : Mh wJ l E mi_X11_burns c0 s0 102 [] [.long y0] m o (f_X11_burns_102 y0 m o) := by
  exact Mh_ret dX11_burns_102 rfl (fun _ => rfl) rfl
def f_X11_burns_86 (l0 : Nat) (l4 : Int32) (y0 : Int64) (m : Mm) (o : Prop) : Int64 × Mm × Prop := bnd (F_X11_lowestTerms y0 (gL m (gR m l0 8) 2) l4 m ((o ∧ (gT m l0 = 11 ∧ gR m l0 8 ≠ 0)) ∧ gT m (gR m l0 8) = 7)) (fun v1 m1 o1 => f_X11_burns_102 v1 m1 o1)
set_option maxRecDepth 10000 in
theorem t_X11_burns_86 (l : Launch) (E : En) (c0 s0 : Nat) (l0 : Nat) (l4 : Int32) (y0 : Int64) (m : Mm) (o : Prop) : Mh wJ l E mi_X11_burns c0 s0 86 [(0, .ref l0), (4, .int l4)] [.long y0] m o (f_X11_burns_86 l0 l4 y0 m o) := by
  refine Mh_lstore (lv' := [(6, .long y0), (0, .ref l0), (4, .int l4)]) dX11_burns_86 (Nat.le_of_ble_eq_true rfl) rfl ?_
  refine Mh_lload 0 rfl dX11_burns_88 ?_
  refine Mh_aload_n 1 rfl dX11_burns_90 ?_
  refine Mh_gR fd_10_8 fl_RX11_64 dX11_burns_91 ?_
  refine Mh_gJ fd_6_2 fl_RX11_274 dX11_burns_94 ?_
  refine Mh_iload 2 rfl dX11_burns_97 ?_
  refine Mh_csJ (N := mi_X11_lowestTerms) (as := [.long y0, .long (gL m (gR m l0 8) 2), .int l4]) (st := []) cg_yX11_lowestTerms (.inl ml_RX11_249) sv_yX11_lowestTerms pd_yX11_lowestTerms rfl (by decide) (Nat.le_of_ble_eq_true rfl) rfl dX11_burns_99 (T_X11_lowestTerms l E _ _ _ _ _) rfl ?_
  refine Mh_sub (lv' := []) [] rfl ?_
  exact t_X11_burns_102 l E c0 s0 _ _ _
def f_X11_burns_63 (l0 : Nat) (l1 : Int32) (l4 : Int32) (m : Mm) (o : Prop) : Int64 × Mm × Prop := bnd (F_X6_atLeast (gR m l0 8) ((500 : Int32) - (gI m (gR m (gR m (gR m l0 0) 0) (ix l1)) 6)) m ((((((o ∧ (gT m l0 = 11 ∧ gR m l0 8 ≠ 0)) ∧ (gT m l0 = 11 ∧ gR m l0 0 ≠ 0)) ∧ (gT m (gR m l0 0) = 6 ∧ gR m (gR m l0 0) 0 ≠ 0)) ∧ (gT m (gR m (gR m l0 0) 0) = 24 ∧ vp_in l1 (gN m (gR m (gR m l0 0) 0)) ∧ gR m (gR m (gR m l0 0) 0) (ix l1) ≠ 0)) ∧ gT m (gR m (gR m (gR m l0 0) 0) (ix l1)) = 8) ∧ gT m (gR m l0 8) = 7)) (fun v1 m1 o1 => f_X11_burns_86 l0 l4 v1 m1 o1)
set_option maxRecDepth 10000 in
theorem t_X11_burns_63 (l : Launch) (E : En) (c0 s0 : Nat) (l0 : Nat) (l1 : Int32) (l4 : Int32) (m : Mm) (o : Prop) : Mh wJ l E mi_X11_burns c0 s0 63 [(0, .ref l0), (1, .int l1), (4, .int l4)] [] m o (f_X11_burns_63 l0 l1 l4 m o) := by
  refine Mh_aload_n 0 rfl dX11_burns_63 ?_
  refine Mh_gR fd_10_8 fl_RX11_64 dX11_burns_64 ?_
  refine Mh_sipush (v := 500) dX11_burns_67 (by decide) ?_
  refine Mh_aload_n 0 rfl dX11_burns_70 ?_
  refine Mh_gR fd_10_0 fl_RX11_10 dX11_burns_71 ?_
  refine Mh_gR fd_5_0 fl_RX11_101 dX11_burns_74 ?_
  refine Mh_iload_n 1 rfl dX11_burns_77 ?_
  refine Mh_aal 24 (.inl rfl) dX11_burns_78 ?_
  refine Mh_gI fd_7_6 fl_RX11_200 dX11_burns_79 ?_
  refine Mh_isub dX11_burns_82 ?_
  refine Mh_cvJ (N := mi_X6_atLeast) (q := gR m l0 8) (ci := 6) (as := [.int ((500 : Int32) - (gI m (gR m (gR m (gR m l0 0) 0) (ix l1)) 6))]) (st := []) (id) cg_yX6_atLeast (by decide) rfl rfl ml_RX11_271 iv_yX6_atLeast pd_yX6_atLeast rfl (by decide) (Nat.le_of_ble_eq_true rfl) rfl dX11_burns_83 (T_X6_atLeast l E _ _ _ _) rfl ?_
  refine Mh_sub (lv' := [(0, .ref l0), (4, .int l4)]) [0, 2] rfl ?_
  exact t_X11_burns_86 l E c0 s0 _ _ _ _ _
def f_X11_burns_47 (l0 : Nat) (l1 : Int32) (l2 : Int32) (l3 : Int32) (l4 : Int32) (y0 : Int32) (m : Mm) (o : Prop) : Int64 × Mm × Prop := if y0 = 0 then (f_X11_burns_50  m o) else (bnd (F_X6_throwDays (gR m l0 8) l2 l3 m ((o ∧ (gT m l0 = 11 ∧ gR m l0 8 ≠ 0)) ∧ gT m (gR m l0 8) = 7)) (fun _ m1 o1 => f_X11_burns_63 l0 l1 l4 m1 o1))
set_option maxRecDepth 10000 in
theorem t_X11_burns_47 (l : Launch) (E : En) (c0 s0 : Nat) (l0 : Nat) (l1 : Int32) (l2 : Int32) (l3 : Int32) (l4 : Int32) (y0 : Int32) (m : Mm) (o : Prop) : Mh wJ l E mi_X11_burns c0 s0 47 [(0, .ref l0), (1, .int l1), (2, .int l2), (3, .int l3), (4, .int l4)] [.int y0] m o (f_X11_burns_47 l0 l1 l2 l3 l4 y0 m o) := by
  refine Mh_if_ne (tgt := 54) dX11_burns_47 (by decide) rfl (fun _ => ?_) (fun _ => ?_)
  · refine Mh_aload_n 0 rfl dX11_burns_54 ?_
    refine Mh_gR fd_10_8 fl_RX11_64 dX11_burns_55 ?_
    refine Mh_iload_n 2 rfl dX11_burns_58 ?_
    refine Mh_iload_n 3 rfl dX11_burns_59 ?_
    refine Mh_cvU (N := mi_X6_throwDays) (q := gR m l0 8) (ci := 6) (as := [.int l2, .int l3]) (st := []) (id) cg_yX6_throwDays (by decide) rfl rfl ml_RX11_268 iv_yX6_throwDays pd_yX6_throwDays rfl (by decide) (Nat.le_of_ble_eq_true rfl) rfl dX11_burns_60 (T_X6_throwDays l E _ _ _ _ _) rfl ?_
    refine Mh_sub (lv' := [(0, .ref l0), (1, .int l1), (4, .int l4)]) [0, 1, 4] rfl ?_
    exact t_X11_burns_63 l E c0 s0 _ _ _ _ _
  · refine Mh_sub (lv' := []) [] rfl ?_
    exact t_X11_burns_50 l E c0 s0  _ _
def f_X11_burns_35 (l0 : Nat) (l1 : Int32) (l2 : Int32) (l3 : Int32) (l4 : Int32) (y0 : Int32) (m : Mm) (o : Prop) : Int64 × Mm × Prop := if y0 = 0 then (f_X11_burns_50  m o) else (bnd (F_X11_isStanding l0 l1 m (o ∧ gT m l0 = 11)) (fun v1 m1 o1 => f_X11_burns_47 l0 l1 l2 l3 l4 v1 m1 o1))
set_option maxRecDepth 10000 in
theorem t_X11_burns_35 (l : Launch) (E : En) (c0 s0 : Nat) (l0 : Nat) (l1 : Int32) (l2 : Int32) (l3 : Int32) (l4 : Int32) (y0 : Int32) (m : Mm) (o : Prop) : Mh wJ l E mi_X11_burns c0 s0 35 [(0, .ref l0), (1, .int l1), (2, .int l2), (3, .int l3), (4, .int l4)] [.int y0] m o (f_X11_burns_35 l0 l1 l2 l3 l4 y0 m o) := by
  refine Mh_istore (lv' := [(5, .int y0), (0, .ref l0), (1, .int l1), (2, .int l2), (3, .int l3), (4, .int l4)]) dX11_burns_35 (Nat.le_of_ble_eq_true rfl) rfl ?_
  refine Mh_iload 0 rfl dX11_burns_37 ?_
  refine Mh_if_eq (tgt := 50) dX11_burns_39 (by decide) rfl (fun _ => ?_) (fun _ => ?_)
  · refine Mh_sub (lv' := []) [] rfl ?_
    exact t_X11_burns_50 l E c0 s0  _ _
  · refine Mh_aload_n 1 rfl dX11_burns_42 ?_
    refine Mh_iload_n 2 rfl dX11_burns_43 ?_
    refine Mh_cvI (N := mi_X11_isStanding) (q := l0) (ci := 10) (as := [.int l1]) (st := []) (id) cg_yX11_isStanding (by decide) rfl rfl ml_RX11_135 iv_yX11_isStanding pd_yX11_isStanding rfl (by decide) (Nat.le_of_ble_eq_true rfl) rfl dX11_burns_44 (T_X11_isStanding l E _ _ _ _) rfl ?_
    refine Mh_sub (lv' := [(0, .ref l0), (1, .int l1), (2, .int l2), (3, .int l3), (4, .int l4)]) [1, 2, 3, 4, 5] rfl ?_
    exact t_X11_burns_47 l E c0 s0 _ _ _ _ _ _ _ _
def f_X11_burns_34 (l0 : Nat) (l1 : Int32) (l2 : Int32) (l3 : Int32) (l4 : Int32) (m : Mm) (o : Prop) : Int64 × Mm × Prop := f_X11_burns_35 l0 l1 l2 l3 l4 (0 : Int32) m o
set_option maxRecDepth 10000 in
theorem t_X11_burns_34 (l : Launch) (E : En) (c0 s0 : Nat) (l0 : Nat) (l1 : Int32) (l2 : Int32) (l3 : Int32) (l4 : Int32) (m : Mm) (o : Prop) : Mh wJ l E mi_X11_burns c0 s0 34 [(0, .ref l0), (1, .int l1), (2, .int l2), (3, .int l3), (4, .int l4)] [] m o (f_X11_burns_34 l0 l1 l2 l3 l4 m o) := by
  refine Mh_iconst (v := 0) dX11_burns_34 (by decide) ?_
  exact t_X11_burns_35 l E c0 s0 _ _ _ _ _ _ _ _
def f_X11_burns_27 (l0 : Nat) (l1 : Int32) (l2 : Int32) (l3 : Int32) (l4 : Int32) (y0 : Int32) (m : Mm) (o : Prop) : Int64 × Mm × Prop := if y0 = 0 then (f_X11_burns_34 l0 l1 l2 l3 l4 m o) else (f_X11_burns_35 l0 l1 l2 l3 l4 (1 : Int32) m o)
set_option maxRecDepth 10000 in
theorem t_X11_burns_27 (l : Launch) (E : En) (c0 s0 : Nat) (l0 : Nat) (l1 : Int32) (l2 : Int32) (l3 : Int32) (l4 : Int32) (y0 : Int32) (m : Mm) (o : Prop) : Mh wJ l E mi_X11_burns c0 s0 27 [(0, .ref l0), (1, .int l1), (2, .int l2), (3, .int l3), (4, .int l4)] [.int y0] m o (f_X11_burns_27 l0 l1 l2 l3 l4 y0 m o) := by
  refine Mh_if_eq (tgt := 34) dX11_burns_27 (by decide) rfl (fun _ => ?_) (fun _ => ?_)
  · exact t_X11_burns_34 l E c0 s0 _ _ _ _ _ _ _
  · refine Mh_iconst (v := 1) dX11_burns_30 (by decide) ?_
    refine Mh_goto (tgt := 35) dX11_burns_31 (by decide) ?_
    exact t_X11_burns_35 l E c0 s0 _ _ _ _ _ _ _ _
def f_X11_burns_17 (l0 : Nat) (l1 : Int32) (l2 : Int32) (l3 : Int32) (l4 : Int32) (y0 : Int32) (m : Mm) (o : Prop) : Int64 × Mm × Prop := if y0 = 0 then (f_X11_burns_34 l0 l1 l2 l3 l4 m o) else (bnd (F_X11_isWithin l4 (0 : Int32) (1 : Int32) m o) (fun v1 m1 o1 => f_X11_burns_27 l0 l1 l2 l3 l4 v1 m1 o1))
set_option maxRecDepth 10000 in
theorem t_X11_burns_17 (l : Launch) (E : En) (c0 s0 : Nat) (l0 : Nat) (l1 : Int32) (l2 : Int32) (l3 : Int32) (l4 : Int32) (y0 : Int32) (m : Mm) (o : Prop) : Mh wJ l E mi_X11_burns c0 s0 17 [(0, .ref l0), (1, .int l1), (2, .int l2), (3, .int l3), (4, .int l4)] [.int y0] m o (f_X11_burns_17 l0 l1 l2 l3 l4 y0 m o) := by
  refine Mh_if_eq (tgt := 34) dX11_burns_17 (by decide) rfl (fun _ => ?_) (fun _ => ?_)
  · exact t_X11_burns_34 l E c0 s0 _ _ _ _ _ _ _
  · refine Mh_iload 4 rfl dX11_burns_20 ?_
    refine Mh_iconst (v := 0) dX11_burns_22 (by decide) ?_
    refine Mh_iconst (v := 1) dX11_burns_23 (by decide) ?_
    refine Mh_csI (N := mi_X11_isWithin) (as := [.int l4, .int (0 : Int32), .int (1 : Int32)]) (st := []) cg_yX11_isWithin (.inl ml_RX11_90) sv_yX11_isWithin pd_yX11_isWithin rfl (by decide) (Nat.le_of_ble_eq_true rfl) rfl dX11_burns_24 (T_X11_isWithin l E _ _ _ _ _) rfl ?_
    exact t_X11_burns_27 l E c0 s0 _ _ _ _ _ _ _ _
def f_X11_burns_7 (l0 : Nat) (l1 : Int32) (l2 : Int32) (l3 : Int32) (l4 : Int32) (y0 : Int32) (m : Mm) (o : Prop) : Int64 × Mm × Prop := if y0 = 0 then (f_X11_burns_34 l0 l1 l2 l3 l4 m o) else (bnd (F_X11_isWithin l3 (1 : Int32) (30 : Int32) m o) (fun v1 m1 o1 => f_X11_burns_17 l0 l1 l2 l3 l4 v1 m1 o1))
set_option maxRecDepth 10000 in
theorem t_X11_burns_7 (l : Launch) (E : En) (c0 s0 : Nat) (l0 : Nat) (l1 : Int32) (l2 : Int32) (l3 : Int32) (l4 : Int32) (y0 : Int32) (m : Mm) (o : Prop) : Mh wJ l E mi_X11_burns c0 s0 7 [(0, .ref l0), (1, .int l1), (2, .int l2), (3, .int l3), (4, .int l4)] [.int y0] m o (f_X11_burns_7 l0 l1 l2 l3 l4 y0 m o) := by
  refine Mh_if_eq (tgt := 34) dX11_burns_7 (by decide) rfl (fun _ => ?_) (fun _ => ?_)
  · exact t_X11_burns_34 l E c0 s0 _ _ _ _ _ _ _
  · refine Mh_iload_n 3 rfl dX11_burns_10 ?_
    refine Mh_iconst (v := 1) dX11_burns_11 (by decide) ?_
    refine Mh_bipush (v := 30) dX11_burns_12 (by decide) ?_
    refine Mh_csI (N := mi_X11_isWithin) (as := [.int l3, .int (1 : Int32), .int (30 : Int32)]) (st := []) cg_yX11_isWithin (.inl ml_RX11_90) sv_yX11_isWithin pd_yX11_isWithin rfl (by decide) (Nat.le_of_ble_eq_true rfl) rfl dX11_burns_14 (T_X11_isWithin l E _ _ _ _ _) rfl ?_
    exact t_X11_burns_17 l E c0 s0 _ _ _ _ _ _ _ _
def f_X11_burns_0 (l0 : Nat) (l1 : Int32) (l2 : Int32) (l3 : Int32) (l4 : Int32) (m : Mm) (o : Prop) : Int64 × Mm × Prop := bnd (F_X11_isWithin l2 (1 : Int32) (12 : Int32) m o) (fun v1 m1 o1 => f_X11_burns_7 l0 l1 l2 l3 l4 v1 m1 o1)
set_option maxRecDepth 10000 in
theorem t_X11_burns_0 (l : Launch) (E : En) (c0 s0 : Nat) (l0 : Nat) (l1 : Int32) (l2 : Int32) (l3 : Int32) (l4 : Int32) (m : Mm) (o : Prop) : Mh wJ l E mi_X11_burns c0 s0 0 [(0, .ref l0), (1, .int l1), (2, .int l2), (3, .int l3), (4, .int l4)] [] m o (f_X11_burns_0 l0 l1 l2 l3 l4 m o) := by
  refine Mh_iload_n 2 rfl dX11_burns_0 ?_
  refine Mh_iconst (v := 1) dX11_burns_1 (by decide) ?_
  refine Mh_bipush (v := 12) dX11_burns_2 (by decide) ?_
  refine Mh_csI (N := mi_X11_isWithin) (as := [.int l2, .int (1 : Int32), .int (12 : Int32)]) (st := []) cg_yX11_isWithin (.inl ml_RX11_90) sv_yX11_isWithin pd_yX11_isWithin rfl (by decide) (Nat.le_of_ble_eq_true rfl) rfl dX11_burns_4 (T_X11_isWithin l E _ _ _ _ _) rfl ?_
  exact t_X11_burns_7 l E c0 s0 _ _ _ _ _ _ _ _
def F_X11_burns (a0 : Nat) (a1 : Int32) (a2 : Int32) (a3 : Int32) (a4 : Int32) (m : Mm) (o : Prop) : Int64 × Mm × Prop := f_X11_burns_0 a0 a1 a2 a3 a4 m o
theorem T_X11_burns (l : Launch) (E : En) (a0 : Nat) (a1 : Int32) (a2 : Int32) (a3 : Int32) (a4 : Int32) (m : Mm) (o : Prop) : Mt wJ l E yX11_burns mi_X11_burns [.ref a0, .int a1, .int a2, .int a3, .int a4] m o (F_X11_burns a0 a1 a2 a3 a4 m o) :=
  Mt_J (by decide) rfl rfl rfl (Nat.le_of_ble_eq_true rfl) rfl (t_X11_burns_0 l E _ _ _ _ _ _ _ _ _)
def f_X11_isColour_6 (y0 : Int32) (m : Mm) (o : Prop) : Int32 × Mm × Prop := (y0, m, o ∧ (y0 = 0 ∨ y0 = 1))
set_option maxRecDepth 10000 in
theorem t_X11_isColour_6 (l : Launch) (E : En) (c0 s0 : Nat) (y0 : Int32) (m : Mm) (o : Prop) : Mh wI l E mi_X11_isColour c0 s0 6 [] [.int y0] m o (f_X11_isColour_6 y0 m o) := by
  exact Mh_retZ dX11_isColour_6 (.inl rfl) rfl
def f_X11_isColour_0 (l0 : Int32) (m : Mm) (o : Prop) : Int32 × Mm × Prop := bnd (F_X11_isWithin l0 (0 : Int32) (4 : Int32) m o) (fun v1 m1 o1 => f_X11_isColour_6 v1 m1 o1)
set_option maxRecDepth 10000 in
theorem t_X11_isColour_0 (l : Launch) (E : En) (c0 s0 : Nat) (l0 : Int32) (m : Mm) (o : Prop) : Mh wI l E mi_X11_isColour c0 s0 0 [(0, .int l0)] [] m o (f_X11_isColour_0 l0 m o) := by
  refine Mh_iload_n 0 rfl dX11_isColour_0 ?_
  refine Mh_iconst (v := 0) dX11_isColour_1 (by decide) ?_
  refine Mh_iconst (v := 4) dX11_isColour_2 (by decide) ?_
  refine Mh_csI (N := mi_X11_isWithin) (as := [.int l0, .int (0 : Int32), .int (4 : Int32)]) (st := []) cg_yX11_isWithin (.inl ml_RX11_90) sv_yX11_isWithin pd_yX11_isWithin rfl (by decide) (Nat.le_of_ble_eq_true rfl) rfl dX11_isColour_3 (T_X11_isWithin l E _ _ _ _ _) rfl ?_
  refine Mh_sub (lv' := []) [] rfl ?_
  exact t_X11_isColour_6 l E c0 s0 _ _ _
def F_X11_isColour (a0 : Int32) (m : Mm) (o : Prop) : Int32 × Mm × Prop := f_X11_isColour_0 a0 m o
theorem T_X11_isColour (l : Launch) (E : En) (a0 : Int32) (m : Mm) (o : Prop) : Mt wI l E yX11_isColour mi_X11_isColour [.int a0] m o (F_X11_isColour a0 m o) :=
  Mt_I (by decide) rfl rfl rfl (Nat.le_of_ble_eq_true rfl) rfl (.inr (.inl rfl)) (t_X11_isColour_0 l E _ _ _ _ _)
def f_X7_addClover_15 (m : Mm) (o : Prop) : Unit × Mm × Prop := ((), m, o)
set_option maxRecDepth 10000 in
theorem t_X7_addClover_15 (l : Launch) (E : En) (c0 s0 : Nat) (m : Mm) (o : Prop) : Mh wU l E mi_X7_addClover c0 s0 15 [] [] m o (f_X7_addClover_15  m o) := by
  exact Mh_ret dX7_addClover_15 rfl (fun _ => trivial) rfl
def f_X7_addClover_0 (l0 : Nat) (l1 : Int32) (m : Mm) (o : Prop) : Unit × Mm × Prop := f_X7_addClover_15  (sI m l0 4 (if ((gI m l0 4) + l1) < (99 : Int32) then ((gI m l0 4) + l1) else (99 : Int32))) (o ∧ gT m l0 = 8)
set_option maxRecDepth 10000 in
theorem t_X7_addClover_0 (l : Launch) (E : En) (c0 s0 : Nat) (l0 : Nat) (l1 : Int32) (m : Mm) (o : Prop) : Mh wU l E mi_X7_addClover c0 s0 0 [(0, .ref l0), (1, .int l1)] [] m o (f_X7_addClover_0 l0 l1 m o) := by
  refine Mh_aload_n 0 rfl dX7_addClover_0 ?_
  refine Mh_bipush (v := 99) dX7_addClover_1 (by decide) ?_
  refine Mh_aload_n 0 rfl dX7_addClover_3 ?_
  refine Mh_gI fd_7_4 fl_RX7_28 dX7_addClover_4 ?_
  refine Mh_iload_n 1 rfl dX7_addClover_7 ?_
  refine Mh_iadd dX7_addClover_8 ?_
  refine Mh_min (by decide) ml_RX7_41 ma_min_1 ma_2 ma_min_3 (Nat.le_of_ble_eq_true rfl) dX7_addClover_9 ?_
  refine Mh_pI fd_7_4 ft_7 rfl fl_RX7_28 rfl dX7_addClover_12 ?_
  refine Mh_ok (fun h => h.2) ?_
  refine Mh_sub (lv' := []) [] rfl ?_
  exact t_X7_addClover_15 l E c0 s0  _ _
def F_X7_addClover (a0 : Nat) (a1 : Int32) (m : Mm) (o : Prop) : Unit × Mm × Prop := f_X7_addClover_0 a0 a1 m o
theorem T_X7_addClover (l : Launch) (E : En) (a0 : Nat) (a1 : Int32) (m : Mm) (o : Prop) : Mt wU l E yX7_addClover mi_X7_addClover [.ref a0, .int a1] m o (F_X7_addClover a0 a1 m o) :=
  Mt_U (by decide) rfl (fun h => by cases h) rfl (Nat.le_of_ble_eq_true rfl) rfl (t_X7_addClover_0 l E _ _ _ _ _ _)
def f_X0_spreadOn_30 (k2 : Nat → Nat → Int32 → Mm → Prop → Unit × Mm × Prop) (l0 : Nat) (l1 : Nat) (l2 : Int32) (m : Mm) (o : Prop) : Unit × Mm × Prop := k2 l0 l1 (l2 + 1) m o
set_option maxRecDepth 10000 in
theorem t_X0_spreadOn_30 (l : Launch) (E : En) (c0 s0 : Nat) (k2 : Nat → Nat → Int32 → Mm → Prop → Unit × Mm × Prop) (hk2 : ∀ (l0 : Nat) (l1 : Nat) (l2 : Int32) (m : Mm) (o : Prop), Mh wU l E mi_X0_spreadOn c0 s0 2 [(0, .ref l0), (1, .ref l1), (2, .int l2)] [] m o (k2 l0 l1 l2 m o)) (l0 : Nat) (l1 : Nat) (l2 : Int32) (m : Mm) (o : Prop) : Mh wU l E mi_X0_spreadOn c0 s0 30 [(0, .ref l0), (1, .ref l1), (2, .int l2)] [] m o (f_X0_spreadOn_30 k2 l0 l1 l2 m o) := by
  refine Mh_iinc (v := l2 + 1) (lv' := [(2, .int (l2 + 1)), (0, .ref l0), (1, .ref l1)]) 2 dX0_spreadOn_30 rfl rfl (Nat.le_of_ble_eq_true rfl) rfl ?_
  refine Mh_goto (tgt := 2) dX0_spreadOn_33 (by decide) ?_
  refine Mh_sub (lv' := [(0, .ref l0), (1, .ref l1), (2, .int (l2 + 1))]) [1, 2, 0] rfl ?_
  exact hk2 _ _ _ _ _
def f_X0_spreadOn_2b (k2 : Nat → Nat → Int32 → Mm → Prop → Unit × Mm × Prop) (l0 : Nat) (l1 : Nat) (l2 : Int32) (m : Mm) (o : Prop) : Unit × Mm × Prop := if (gI m l0 3) ≤ l2 then ((), m, (o ∧ gT m l0 = 1)) else (bnd (F_X7_addClover (gR m (gR m l1 0) (ix (gI m (gR m l0 0) (ix l2)))) (gI m (gR m l0 1) (ix l2)) m ((((((((o ∧ gT m l0 = 1) ∧ (gT m l1 = 6 ∧ gR m l1 0 ≠ 0)) ∧ (gT m l0 = 1 ∧ gR m l0 0 ≠ 0)) ∧ (gT m (gR m l0 0) = 20 ∧ vp_in l2 (gN m (gR m l0 0)))) ∧ (gT m (gR m l1 0) = 24 ∧ vp_in (gI m (gR m l0 0) (ix l2)) (gN m (gR m l1 0)) ∧ gR m (gR m l1 0) (ix (gI m (gR m l0 0) (ix l2))) ≠ 0)) ∧ (gT m l0 = 1 ∧ gR m l0 1 ≠ 0)) ∧ (gT m (gR m l0 1) = 20 ∧ vp_in l2 (gN m (gR m l0 1)))) ∧ gT m (gR m (gR m l1 0) (ix (gI m (gR m l0 0) (ix l2)))) = 8)) (fun _ m1 o1 => f_X0_spreadOn_30 k2 l0 l1 l2 m1 o1))
set_option maxRecDepth 10000 in
theorem t_X0_spreadOn_2b (l : Launch) (E : En) (c0 s0 : Nat) (k2 : Nat → Nat → Int32 → Mm → Prop → Unit × Mm × Prop) (hk2 : ∀ (l0 : Nat) (l1 : Nat) (l2 : Int32) (m : Mm) (o : Prop), Mh wU l E mi_X0_spreadOn c0 s0 2 [(0, .ref l0), (1, .ref l1), (2, .int l2)] [] m o (k2 l0 l1 l2 m o)) (l0 : Nat) (l1 : Nat) (l2 : Int32) (m : Mm) (o : Prop) : Mh wU l E mi_X0_spreadOn c0 s0 2 [(0, .ref l0), (1, .ref l1), (2, .int l2)] [] m o (f_X0_spreadOn_2b k2 l0 l1 l2 m o) := by
  refine Mh_iload_n 2 rfl dX0_spreadOn_2 ?_
  refine Mh_aload_n 0 rfl dX0_spreadOn_3 ?_
  refine Mh_gI fd_0_3 fl_RX0_22 dX0_spreadOn_4 ?_
  refine Mh_icmp_ge (tgt := 36) dX0_spreadOn_7 (by decide) rfl (fun _ => ?_) (fun _ => ?_)
  · exact Mh_ret dX0_spreadOn_36 rfl (fun _ => trivial) rfl
  · refine Mh_aload_n 1 rfl dX0_spreadOn_10 ?_
    refine Mh_gR fd_5_0 fl_RX0_31 dX0_spreadOn_11 ?_
    refine Mh_aload_n 0 rfl dX0_spreadOn_14 ?_
    refine Mh_gR fd_0_0 fl_RX0_11 dX0_spreadOn_15 ?_
    refine Mh_iload_n 2 rfl dX0_spreadOn_18 ?_
    refine Mh_ial dX0_spreadOn_19 ?_
    refine Mh_aal 24 (.inl rfl) dX0_spreadOn_20 ?_
    refine Mh_aload_n 0 rfl dX0_spreadOn_21 ?_
    refine Mh_gR fd_0_1 fl_RX0_15 dX0_spreadOn_22 ?_
    refine Mh_iload_n 2 rfl dX0_spreadOn_25 ?_
    refine Mh_ial dX0_spreadOn_26 ?_
    refine Mh_cvU (N := mi_X7_addClover) (q := gR m (gR m l1 0) (ix (gI m (gR m l0 0) (ix l2)))) (ci := 7) (as := [.int (gI m (gR m l0 1) (ix l2))]) (st := []) (id) cg_yX7_addClover (by decide) rfl rfl ml_RX0_70 iv_yX7_addClover pd_yX7_addClover rfl (by decide) (Nat.le_of_ble_eq_true rfl) rfl dX0_spreadOn_27 (T_X7_addClover l E _ _ _ _) rfl ?_
    exact t_X0_spreadOn_30 l E c0 s0 k2 hk2 _ _ _ _ _
def f_X0_spreadOn_2 : Nat → Nat → Nat → Int32 → Mm → Prop → Unit × Mm × Prop
  | 0, _, _, _, m, _ => ((), m, False)
  | n + 1, l0, l1, l2, m, o => f_X0_spreadOn_2b (f_X0_spreadOn_2 n) l0 l1 l2 m o
theorem t_X0_spreadOn_2 (l : Launch) (E : En) (c0 s0 : Nat) : ∀ (n : Nat) (l0 : Nat) (l1 : Nat) (l2 : Int32) (m : Mm) (o : Prop), Mh wU l E mi_X0_spreadOn c0 s0 2 [(0, .ref l0), (1, .ref l1), (2, .int l2)] [] m o (f_X0_spreadOn_2 n l0 l1 l2 m o)
  | 0, _, _, _, _, _ => Mh_out rfl
  | n + 1, l0, l1, l2, m, o => t_X0_spreadOn_2b l E c0 s0 (f_X0_spreadOn_2 n) (t_X0_spreadOn_2 l E c0 s0 n) l0 l1 l2 m o
def f_X0_spreadOn_0 (l0 : Nat) (l1 : Nat) (m : Mm) (o : Prop) : Unit × Mm × Prop := f_X0_spreadOn_2 1000 l0 l1 (0 : Int32) m o
set_option maxRecDepth 10000 in
theorem t_X0_spreadOn_0 (l : Launch) (E : En) (c0 s0 : Nat) (l0 : Nat) (l1 : Nat) (m : Mm) (o : Prop) : Mh wU l E mi_X0_spreadOn c0 s0 0 [(0, .ref l0), (1, .ref l1)] [] m o (f_X0_spreadOn_0 l0 l1 m o) := by
  refine Mh_iconst (v := 0) dX0_spreadOn_0 (by decide) ?_
  refine Mh_istore_n (lv' := [(2, .int (0 : Int32)), (0, .ref l0), (1, .ref l1)]) dX0_spreadOn_1 (Nat.le_of_ble_eq_true rfl) rfl ?_
  refine Mh_sub (lv' := [(0, .ref l0), (1, .ref l1), (2, .int (0 : Int32))]) [1, 2, 0] rfl ?_
  exact t_X0_spreadOn_2 l E c0 s0 _ _ _ _ _ _
def F_X0_spreadOn (a0 : Nat) (a1 : Nat) (m : Mm) (o : Prop) : Unit × Mm × Prop := f_X0_spreadOn_0 a0 a1 m o
theorem T_X0_spreadOn (l : Launch) (E : En) (a0 : Nat) (a1 : Nat) (m : Mm) (o : Prop) : Mt wU l E yX0_spreadOn mi_X0_spreadOn [.ref a0, .ref a1] m o (F_X0_spreadOn a0 a1 m o) :=
  Mt_U (by decide) rfl (fun h => by cases h) rfl (Nat.le_of_ble_eq_true rfl) rfl (t_X0_spreadOn_0 l E _ _ _ _ _ _)
def f_X3_looksOf_54 (l0 : Nat) (y1 : Int32) (y0 : Int32) (m : Mm) (o : Prop) : Int32 × Mm × Prop := (y0 ||| (y1 &&& (gI m (gR m l0 7) (ix (5 : Int32)))), m, ((o ∧ (gT m l0 = 4 ∧ gR m l0 7 ≠ 0)) ∧ (gT m (gR m l0 7) = 20 ∧ vp_in (5 : Int32) (gN m (gR m l0 7)))))
set_option maxRecDepth 10000 in
theorem t_X3_looksOf_54 (l : Launch) (E : En) (c0 s0 : Nat) (l0 : Nat) (y1 : Int32) (y0 : Int32) (m : Mm) (o : Prop) : Mh wI l E mi_X3_looksOf c0 s0 54 [(0, .ref l0)] [.int y1, .int y0] m o (f_X3_looksOf_54 l0 y1 y0 m o) := by
  refine Mh_aload_n 0 rfl dX3_looksOf_54 ?_
  refine Mh_gR fd_3_7 fl_RX3_31 dX3_looksOf_55 ?_
  refine Mh_iconst (v := 5) dX3_looksOf_58 (by decide) ?_
  refine Mh_ial dX3_looksOf_59 ?_
  refine Mh_iand dX3_looksOf_60 ?_
  refine Mh_ior dX3_looksOf_61 ?_
  exact Mh_ret dX3_looksOf_62 rfl (fun _ => rfl) rfl
def f_X3_looksOf_0 (l0 : Nat) (l1 : Nat) (l2 : Int32) (m : Mm) (o : Prop) : Int32 × Mm × Prop := if l2 = 0 then (f_X3_looksOf_54 l0 (0 : Int32) (((((gI m l1 3) &&& (gI m (gR m l0 7) (ix (0 : Int32)))) <<< ((18 : Int32) &&& 31)) ||| (((gI m l1 6) &&& (gI m (gR m l0 7) (ix (3 : Int32)))) <<< ((8 : Int32) &&& 31))) ||| (((gI m l1 4) &&& (gI m (gR m l0 7) (ix (1 : Int32)))) <<< ((1 : Int32) &&& 31))) m (((((o ∧ gT m l1 = 8) ∧ (gT m l0 = 4 ∧ gR m l0 7 ≠ 0)) ∧ (gT m (gR m l0 7) = 20 ∧ vp_in (0 : Int32) (gN m (gR m l0 7)))) ∧ (gT m (gR m l0 7) = 20 ∧ vp_in (3 : Int32) (gN m (gR m l0 7)))) ∧ (gT m (gR m l0 7) = 20 ∧ vp_in (1 : Int32) (gN m (gR m l0 7))))) else (f_X3_looksOf_54 l0 (1 : Int32) (((((gI m l1 3) &&& (gI m (gR m l0 7) (ix (0 : Int32)))) <<< ((18 : Int32) &&& 31)) ||| (((gI m l1 6) &&& (gI m (gR m l0 7) (ix (3 : Int32)))) <<< ((8 : Int32) &&& 31))) ||| (((gI m l1 4) &&& (gI m (gR m l0 7) (ix (1 : Int32)))) <<< ((1 : Int32) &&& 31))) m (((((o ∧ gT m l1 = 8) ∧ (gT m l0 = 4 ∧ gR m l0 7 ≠ 0)) ∧ (gT m (gR m l0 7) = 20 ∧ vp_in (0 : Int32) (gN m (gR m l0 7)))) ∧ (gT m (gR m l0 7) = 20 ∧ vp_in (3 : Int32) (gN m (gR m l0 7)))) ∧ (gT m (gR m l0 7) = 20 ∧ vp_in (1 : Int32) (gN m (gR m l0 7)))))
set_option maxRecDepth 10000 in
theorem t_X3_looksOf_0 (l : Launch) (E : En) (c0 s0 : Nat) (l0 : Nat) (l1 : Nat) (l2 : Int32) (m : Mm) (o : Prop) : Mh wI l E mi_X3_looksOf c0 s0 0 [(0, .ref l0), (1, .ref l1), (2, .int l2)] [] m o (f_X3_looksOf_0 l0 l1 l2 m o) := by
  refine Mh_aload_n 1 rfl dX3_looksOf_0 ?_
  refine Mh_gI fd_7_3 fl_RX3_44 dX3_looksOf_1 ?_
  refine Mh_aload_n 0 rfl dX3_looksOf_4 ?_
  refine Mh_gR fd_3_7 fl_RX3_31 dX3_looksOf_5 ?_
  refine Mh_iconst (v := 0) dX3_looksOf_8 (by decide) ?_
  refine Mh_ial dX3_looksOf_9 ?_
  refine Mh_iand dX3_looksOf_10 ?_
  refine Mh_bipush (v := 18) dX3_looksOf_11 (by decide) ?_
  refine Mh_ishl dX3_looksOf_13 ?_
  refine Mh_aload_n 1 rfl dX3_looksOf_14 ?_
  refine Mh_gI fd_7_6 fl_RX3_49 dX3_looksOf_15 ?_
  refine Mh_ok (fun h => h.1.1.2) ?_
  refine Mh_aload_n 0 rfl dX3_looksOf_18 ?_
  refine Mh_gR fd_3_7 fl_RX3_31 dX3_looksOf_19 ?_
  refine Mh_ok (fun h => h.1.2) ?_
  refine Mh_iconst (v := 3) dX3_looksOf_22 (by decide) ?_
  refine Mh_ial dX3_looksOf_23 ?_
  refine Mh_iand dX3_looksOf_24 ?_
  refine Mh_bipush (v := 8) dX3_looksOf_25 (by decide) ?_
  refine Mh_ishl dX3_looksOf_27 ?_
  refine Mh_ior dX3_looksOf_28 ?_
  refine Mh_istore_n (lv' := [(3, .int ((((gI m l1 3) &&& (gI m (gR m l0 7) (ix (0 : Int32)))) <<< ((18 : Int32) &&& 31)) ||| (((gI m l1 6) &&& (gI m (gR m l0 7) (ix (3 : Int32)))) <<< ((8 : Int32) &&& 31)))), (0, .ref l0), (1, .ref l1), (2, .int l2)]) dX3_looksOf_29 (Nat.le_of_ble_eq_true rfl) rfl ?_
  refine Mh_iload_n 0 rfl dX3_looksOf_30 ?_
  refine Mh_aload_n 2 rfl dX3_looksOf_31 ?_
  refine Mh_gI fd_7_4 fl_RX3_52 dX3_looksOf_32 ?_
  refine Mh_ok (fun h => h.1.1.1.2) ?_
  refine Mh_aload_n 1 rfl dX3_looksOf_35 ?_
  refine Mh_gR fd_3_7 fl_RX3_31 dX3_looksOf_36 ?_
  refine Mh_ok (fun h => h.1.1.2) ?_
  refine Mh_iconst (v := 1) dX3_looksOf_39 (by decide) ?_
  refine Mh_ial dX3_looksOf_40 ?_
  refine Mh_iand dX3_looksOf_41 ?_
  refine Mh_iconst (v := 1) dX3_looksOf_42 (by decide) ?_
  refine Mh_ishl dX3_looksOf_43 ?_
  refine Mh_ior dX3_looksOf_44 ?_
  refine Mh_iload_n 3 rfl dX3_looksOf_45 ?_
  refine Mh_if_eq (tgt := 53) dX3_looksOf_46 (by decide) rfl (fun _ => ?_) (fun _ => ?_)
  · refine Mh_iconst (v := 0) dX3_looksOf_53 (by decide) ?_
    refine Mh_sub (lv' := [(0, .ref l0)]) [1] rfl ?_
    exact t_X3_looksOf_54 l E c0 s0 _ _ _ _ _
  · refine Mh_iconst (v := 1) dX3_looksOf_49 (by decide) ?_
    refine Mh_goto (tgt := 54) dX3_looksOf_50 (by decide) ?_
    refine Mh_sub (lv' := [(0, .ref l0)]) [1] rfl ?_
    exact t_X3_looksOf_54 l E c0 s0 _ _ _ _ _
def F_X3_looksOf (a0 : Nat) (a1 : Nat) (a2 : Int32) (m : Mm) (o : Prop) : Int32 × Mm × Prop := f_X3_looksOf_0 a0 a1 a2 m o
theorem T_X3_looksOf (l : Launch) (E : En) (a0 : Nat) (a1 : Nat) (a2 : Int32) (m : Mm) (o : Prop) : Mt wI l E yX3_looksOf mi_X3_looksOf [.ref a0, .ref a1, .int a2] m o (F_X3_looksOf a0 a1 a2 m o) :=
  Mt_I (by decide) rfl rfl rfl (Nat.le_of_ble_eq_true rfl) rfl (.inl rfl) (t_X3_looksOf_0 l E _ _ _ _ _ _ _)
def f_X3_reckon_404 (k11 : Nat → Int32 → Int32 → Int32 → Int32 → Int32 → Mm → Prop → Int32 × Mm × Prop) (l0 : Nat) (l2 : Int32) (l3 : Int32) (l4 : Int32) (l5 : Int32) (l6 : Int32) (m : Mm) (o : Prop) : Int32 × Mm × Prop := k11 l0 l2 l3 l4 l5 (l6 + 1) m o
set_option maxRecDepth 10000 in
theorem t_X3_reckon_404 (l : Launch) (E : En) (c0 s0 : Nat) (k11 : Nat → Int32 → Int32 → Int32 → Int32 → Int32 → Mm → Prop → Int32 × Mm × Prop) (hk11 : ∀ (l0 : Nat) (l2 : Int32) (l3 : Int32) (l4 : Int32) (l5 : Int32) (l6 : Int32) (m : Mm) (o : Prop), Mh wI l E mi_X3_reckon c0 s0 11 [(0, .ref l0), (2, .int l2), (3, .int l3), (4, .int l4), (5, .int l5), (6, .int l6)] [] m o (k11 l0 l2 l3 l4 l5 l6 m o)) (l0 : Nat) (l2 : Int32) (l3 : Int32) (l4 : Int32) (l5 : Int32) (l6 : Int32) (m : Mm) (o : Prop) : Mh wI l E mi_X3_reckon c0 s0 404 [(0, .ref l0), (2, .int l2), (3, .int l3), (4, .int l4), (5, .int l5), (6, .int l6)] [] m o (f_X3_reckon_404 k11 l0 l2 l3 l4 l5 l6 m o) := by
  refine Mh_iinc (v := l6 + 1) (lv' := [(6, .int (l6 + 1)), (0, .ref l0), (2, .int l2), (3, .int l3), (4, .int l4), (5, .int l5)]) 5 dX3_reckon_404 rfl rfl (Nat.le_of_ble_eq_true rfl) rfl ?_
  refine Mh_goto (tgt := 11) dX3_reckon_407 (by decide) ?_
  refine Mh_sub (lv' := [(0, .ref l0), (2, .int l2), (3, .int l3), (4, .int l4), (5, .int l5), (6, .int (l6 + 1))]) [1, 2, 3, 4, 5, 0] rfl ?_
  exact hk11 _ _ _ _ _ _ _ _
def f_X3_reckon_138 (k11 : Nat → Int32 → Int32 → Int32 → Int32 → Int32 → Mm → Prop → Int32 × Mm × Prop) (l0 : Nat) (l2 : Int32) (l4 : Int32) (l5 : Int32) (l6 : Int32) (y0 : Int32) (m : Mm) (o : Prop) : Int32 × Mm × Prop := f_X3_reckon_404 k11 l0 l2 y0 l4 l5 l6 m o
set_option maxRecDepth 10000 in
theorem t_X3_reckon_138 (l : Launch) (E : En) (c0 s0 : Nat) (k11 : Nat → Int32 → Int32 → Int32 → Int32 → Int32 → Mm → Prop → Int32 × Mm × Prop) (hk11 : ∀ (l0 : Nat) (l2 : Int32) (l3 : Int32) (l4 : Int32) (l5 : Int32) (l6 : Int32) (m : Mm) (o : Prop), Mh wI l E mi_X3_reckon c0 s0 11 [(0, .ref l0), (2, .int l2), (3, .int l3), (4, .int l4), (5, .int l5), (6, .int l6)] [] m o (k11 l0 l2 l3 l4 l5 l6 m o)) (l0 : Nat) (l2 : Int32) (l4 : Int32) (l5 : Int32) (l6 : Int32) (y0 : Int32) (m : Mm) (o : Prop) : Mh wI l E mi_X3_reckon c0 s0 138 [(0, .ref l0), (2, .int l2), (4, .int l4), (5, .int l5), (6, .int l6)] [.int y0] m o (f_X3_reckon_138 k11 l0 l2 l4 l5 l6 y0 m o) := by
  refine Mh_istore_n (lv' := [(3, .int y0), (0, .ref l0), (2, .int l2), (4, .int l4), (5, .int l5), (6, .int l6)]) dX3_reckon_138 (Nat.le_of_ble_eq_true rfl) rfl ?_
  refine Mh_goto (tgt := 404) dX3_reckon_139 (by decide) ?_
  refine Mh_sub (lv' := [(0, .ref l0), (2, .int l2), (3, .int y0), (4, .int l4), (5, .int l5), (6, .int l6)]) [1, 2, 0, 3, 4, 5] rfl ?_
  exact t_X3_reckon_404 l E c0 s0 k11 hk11 _ _ _ _ _ _ _ _
def f_X3_reckon_117 (k11 : Nat → Int32 → Int32 → Int32 → Int32 → Int32 → Mm → Prop → Int32 × Mm × Prop) (l0 : Nat) (l2 : Int32) (l4 : Int32) (l5 : Int32) (l6 : Int32) (l7 : Int32) (l8 : Int32) (m : Mm) (o : Prop) : Int32 × Mm × Prop := if l7 = (1 : Int32) then (f_X3_reckon_138 k11 l0 l2 (l4 + 1) l5 l6 l8 m o) else (f_X3_reckon_138 k11 l0 l2 (l4 + 1) l5 l6 (gI m (gR m l0 6) (ix l8)) m ((o ∧ (gT m l0 = 4 ∧ gR m l0 6 ≠ 0)) ∧ (gT m (gR m l0 6) = 20 ∧ vp_in l8 (gN m (gR m l0 6)))))
set_option maxRecDepth 10000 in
theorem t_X3_reckon_117 (l : Launch) (E : En) (c0 s0 : Nat) (k11 : Nat → Int32 → Int32 → Int32 → Int32 → Int32 → Mm → Prop → Int32 × Mm × Prop) (hk11 : ∀ (l0 : Nat) (l2 : Int32) (l3 : Int32) (l4 : Int32) (l5 : Int32) (l6 : Int32) (m : Mm) (o : Prop), Mh wI l E mi_X3_reckon c0 s0 11 [(0, .ref l0), (2, .int l2), (3, .int l3), (4, .int l4), (5, .int l5), (6, .int l6)] [] m o (k11 l0 l2 l3 l4 l5 l6 m o)) (l0 : Nat) (l2 : Int32) (l4 : Int32) (l5 : Int32) (l6 : Int32) (l7 : Int32) (l8 : Int32) (m : Mm) (o : Prop) : Mh wI l E mi_X3_reckon c0 s0 117 [(0, .ref l0), (2, .int l2), (4, .int l4), (5, .int l5), (6, .int l6), (7, .int l7), (8, .int l8)] [] m o (f_X3_reckon_117 k11 l0 l2 l4 l5 l6 l7 l8 m o) := by
  refine Mh_iinc (v := l4 + 1) (lv' := [(4, .int (l4 + 1)), (0, .ref l0), (2, .int l2), (5, .int l5), (6, .int l6), (7, .int l7), (8, .int l8)]) 2 dX3_reckon_117 rfl rfl (Nat.le_of_ble_eq_true rfl) rfl ?_
  refine Mh_iload 5 rfl dX3_reckon_120 ?_
  refine Mh_iconst (v := 1) dX3_reckon_122 (by decide) ?_
  refine Mh_icmp_ne (tgt := 131) dX3_reckon_123 (by decide) rfl (fun _ => ?_) (fun _ => ?_)
  · refine Mh_aload_n 1 rfl dX3_reckon_131 ?_
    refine Mh_gR fd_3_6 fl_RX3_28 dX3_reckon_132 ?_
    refine Mh_iload 6 rfl dX3_reckon_135 ?_
    refine Mh_ial dX3_reckon_137 ?_
    refine Mh_sub (lv' := [(0, .ref l0), (2, .int l2), (4, .int (l4 + 1)), (5, .int l5), (6, .int l6)]) [1, 2, 0, 3, 4] rfl ?_
    exact t_X3_reckon_138 l E c0 s0 k11 hk11 _ _ _ _ _ _ _ _
  · refine Mh_iload 6 rfl dX3_reckon_126 ?_
    refine Mh_goto (tgt := 138) dX3_reckon_128 (by decide) ?_
    refine Mh_sub (lv' := [(0, .ref l0), (2, .int l2), (4, .int (l4 + 1)), (5, .int l5), (6, .int l6)]) [1, 2, 0, 3, 4] rfl ?_
    exact t_X3_reckon_138 l E c0 s0 k11 hk11 _ _ _ _ _ _ _ _
def f_X3_reckon_158 (k11 : Nat → Int32 → Int32 → Int32 → Int32 → Int32 → Mm → Prop → Int32 × Mm × Prop) (l0 : Nat) (l2 : Int32) (l3 : Int32) (l4 : Int32) (l5 : Int32) (l6 : Int32) (m : Mm) (o : Prop) : Int32 × Mm × Prop := f_X3_reckon_404 k11 l0 l2 l3 l4 l5 l6 m o
set_option maxRecDepth 10000 in
theorem t_X3_reckon_158 (l : Launch) (E : En) (c0 s0 : Nat) (k11 : Nat → Int32 → Int32 → Int32 → Int32 → Int32 → Mm → Prop → Int32 × Mm × Prop) (hk11 : ∀ (l0 : Nat) (l2 : Int32) (l3 : Int32) (l4 : Int32) (l5 : Int32) (l6 : Int32) (m : Mm) (o : Prop), Mh wI l E mi_X3_reckon c0 s0 11 [(0, .ref l0), (2, .int l2), (3, .int l3), (4, .int l4), (5, .int l5), (6, .int l6)] [] m o (k11 l0 l2 l3 l4 l5 l6 m o)) (l0 : Nat) (l2 : Int32) (l3 : Int32) (l4 : Int32) (l5 : Int32) (l6 : Int32) (m : Mm) (o : Prop) : Mh wI l E mi_X3_reckon c0 s0 158 [(0, .ref l0), (2, .int l2), (3, .int l3), (4, .int l4), (5, .int l5), (6, .int l6)] [] m o (f_X3_reckon_158 k11 l0 l2 l3 l4 l5 l6 m o) := by
  refine Mh_goto (tgt := 404) dX3_reckon_158 (by decide) ?_
  exact t_X3_reckon_404 l E c0 s0 k11 hk11 _ _ _ _ _ _ _ _
def f_X3_reckon_155 (k11 : Nat → Int32 → Int32 → Int32 → Int32 → Int32 → Mm → Prop → Int32 × Mm × Prop) (l0 : Nat) (l2 : Int32) (l3 : Int32) (l4 : Int32) (l5 : Int32) (l6 : Int32) (y1 : Int32) (y0 : Nat) (m : Mm) (o : Prop) : Int32 × Mm × Prop := f_X3_reckon_158 k11 l0 l2 l3 l4 l5 l6 (sI m y0 11 y1) (o ∧ (gT m y0 = 4 ∧ (y1 = 0 ∨ y1 = 1)))
set_option maxRecDepth 10000 in
theorem t_X3_reckon_155 (l : Launch) (E : En) (c0 s0 : Nat) (k11 : Nat → Int32 → Int32 → Int32 → Int32 → Int32 → Mm → Prop → Int32 × Mm × Prop) (hk11 : ∀ (l0 : Nat) (l2 : Int32) (l3 : Int32) (l4 : Int32) (l5 : Int32) (l6 : Int32) (m : Mm) (o : Prop), Mh wI l E mi_X3_reckon c0 s0 11 [(0, .ref l0), (2, .int l2), (3, .int l3), (4, .int l4), (5, .int l5), (6, .int l6)] [] m o (k11 l0 l2 l3 l4 l5 l6 m o)) (l0 : Nat) (l2 : Int32) (l3 : Int32) (l4 : Int32) (l5 : Int32) (l6 : Int32) (y1 : Int32) (y0 : Nat) (m : Mm) (o : Prop) : Mh wI l E mi_X3_reckon c0 s0 155 [(0, .ref l0), (2, .int l2), (3, .int l3), (4, .int l4), (5, .int l5), (6, .int l6)] [.int y1, .ref y0] m o (f_X3_reckon_155 k11 l0 l2 l3 l4 l5 l6 y1 y0 m o) := by
  refine Mh_pZ fd_3_11 ft_3 rfl fl_RX3_81 rfl dX3_reckon_155 ?_
  exact t_X3_reckon_158 l E c0 s0 k11 hk11 _ _ _ _ _ _ _ _
def f_X3_reckon_175 (k11 : Nat → Int32 → Int32 → Int32 → Int32 → Int32 → Mm → Prop → Int32 × Mm × Prop) (l0 : Nat) (l2 : Int32) (l3 : Int32) (l4 : Int32) (l6 : Int32) (y0 : Int32) (m : Mm) (o : Prop) : Int32 × Mm × Prop := f_X3_reckon_404 k11 l0 l2 l3 l4 y0 l6 m o
set_option maxRecDepth 10000 in
theorem t_X3_reckon_175 (l : Launch) (E : En) (c0 s0 : Nat) (k11 : Nat → Int32 → Int32 → Int32 → Int32 → Int32 → Mm → Prop → Int32 × Mm × Prop) (hk11 : ∀ (l0 : Nat) (l2 : Int32) (l3 : Int32) (l4 : Int32) (l5 : Int32) (l6 : Int32) (m : Mm) (o : Prop), Mh wI l E mi_X3_reckon c0 s0 11 [(0, .ref l0), (2, .int l2), (3, .int l3), (4, .int l4), (5, .int l5), (6, .int l6)] [] m o (k11 l0 l2 l3 l4 l5 l6 m o)) (l0 : Nat) (l2 : Int32) (l3 : Int32) (l4 : Int32) (l6 : Int32) (y0 : Int32) (m : Mm) (o : Prop) : Mh wI l E mi_X3_reckon c0 s0 175 [(0, .ref l0), (2, .int l2), (3, .int l3), (4, .int l4), (6, .int l6)] [.int y0] m o (f_X3_reckon_175 k11 l0 l2 l3 l4 l6 y0 m o) := by
  refine Mh_istore (lv' := [(5, .int y0), (0, .ref l0), (2, .int l2), (3, .int l3), (4, .int l4), (6, .int l6)]) dX3_reckon_175 (Nat.le_of_ble_eq_true rfl) rfl ?_
  refine Mh_goto (tgt := 404) dX3_reckon_177 (by decide) ?_
  refine Mh_sub (lv' := [(0, .ref l0), (2, .int l2), (3, .int l3), (4, .int l4), (5, .int y0), (6, .int l6)]) [1, 2, 3, 4, 0, 5] rfl ?_
  exact t_X3_reckon_404 l E c0 s0 k11 hk11 _ _ _ _ _ _ _ _
def f_X3_reckon_194 (k11 : Nat → Int32 → Int32 → Int32 → Int32 → Int32 → Mm → Prop → Int32 × Mm × Prop) (l0 : Nat) (l2 : Int32) (l3 : Int32) (l4 : Int32) (l6 : Int32) (y0 : Int32) (m : Mm) (o : Prop) : Int32 × Mm × Prop := f_X3_reckon_404 k11 l0 l2 l3 l4 y0 l6 m o
set_option maxRecDepth 10000 in
theorem t_X3_reckon_194 (l : Launch) (E : En) (c0 s0 : Nat) (k11 : Nat → Int32 → Int32 → Int32 → Int32 → Int32 → Mm → Prop → Int32 × Mm × Prop) (hk11 : ∀ (l0 : Nat) (l2 : Int32) (l3 : Int32) (l4 : Int32) (l5 : Int32) (l6 : Int32) (m : Mm) (o : Prop), Mh wI l E mi_X3_reckon c0 s0 11 [(0, .ref l0), (2, .int l2), (3, .int l3), (4, .int l4), (5, .int l5), (6, .int l6)] [] m o (k11 l0 l2 l3 l4 l5 l6 m o)) (l0 : Nat) (l2 : Int32) (l3 : Int32) (l4 : Int32) (l6 : Int32) (y0 : Int32) (m : Mm) (o : Prop) : Mh wI l E mi_X3_reckon c0 s0 194 [(0, .ref l0), (2, .int l2), (3, .int l3), (4, .int l4), (6, .int l6)] [.int y0] m o (f_X3_reckon_194 k11 l0 l2 l3 l4 l6 y0 m o) := by
  refine Mh_istore (lv' := [(5, .int y0), (0, .ref l0), (2, .int l2), (3, .int l3), (4, .int l4), (6, .int l6)]) dX3_reckon_194 (Nat.le_of_ble_eq_true rfl) rfl ?_
  refine Mh_goto (tgt := 404) dX3_reckon_196 (by decide) ?_
  refine Mh_sub (lv' := [(0, .ref l0), (2, .int l2), (3, .int l3), (4, .int l4), (5, .int y0), (6, .int l6)]) [1, 2, 3, 4, 0, 5] rfl ?_
  exact t_X3_reckon_404 l E c0 s0 k11 hk11 _ _ _ _ _ _ _ _
def f_X3_reckon_223 (m : Mm) (o : Prop) : Int32 × Mm × Prop := ((0 : Int32), m, o)
set_option maxRecDepth 10000 in
theorem t_X3_reckon_223 (l : Launch) (E : En) (c0 s0 : Nat) (m : Mm) (o : Prop) : Mh wI l E mi_X3_reckon c0 s0 223 [] [] m o (f_X3_reckon_223  m o) := by
  refine Mh_iconst (v := 0) dX3_reckon_223 (by decide) ?_
  exact Mh_ret dX3_reckon_224 rfl (fun _ => rk0Z) rfl
def f_X3_reckon_359 (k11 : Nat → Int32 → Int32 → Int32 → Int32 → Int32 → Mm → Prop → Int32 × Mm × Prop) (l0 : Nat) (l2 : Int32) (l3 : Int32) (l5 : Int32) (l6 : Int32) (m : Mm) (o : Prop) : Int32 × Mm × Prop := f_X3_reckon_404 k11 l0 l2 l3 (0 : Int32) l5 l6 m o
set_option maxRecDepth 10000 in
theorem t_X3_reckon_359 (l : Launch) (E : En) (c0 s0 : Nat) (k11 : Nat → Int32 → Int32 → Int32 → Int32 → Int32 → Mm → Prop → Int32 × Mm × Prop) (hk11 : ∀ (l0 : Nat) (l2 : Int32) (l3 : Int32) (l4 : Int32) (l5 : Int32) (l6 : Int32) (m : Mm) (o : Prop), Mh wI l E mi_X3_reckon c0 s0 11 [(0, .ref l0), (2, .int l2), (3, .int l3), (4, .int l4), (5, .int l5), (6, .int l6)] [] m o (k11 l0 l2 l3 l4 l5 l6 m o)) (l0 : Nat) (l2 : Int32) (l3 : Int32) (l5 : Int32) (l6 : Int32) (m : Mm) (o : Prop) : Mh wI l E mi_X3_reckon c0 s0 359 [(0, .ref l0), (2, .int l2), (3, .int l3), (5, .int l5), (6, .int l6)] [] m o (f_X3_reckon_359 k11 l0 l2 l3 l5 l6 m o) := by
  refine Mh_iconst (v := 0) dX3_reckon_359 (by decide) ?_
  refine Mh_istore (lv' := [(4, .int (0 : Int32)), (0, .ref l0), (2, .int l2), (3, .int l3), (5, .int l5), (6, .int l6)]) dX3_reckon_360 (Nat.le_of_ble_eq_true rfl) rfl ?_
  refine Mh_goto (tgt := 404) dX3_reckon_362 (by decide) ?_
  refine Mh_sub (lv' := [(0, .ref l0), (2, .int l2), (3, .int l3), (4, .int (0 : Int32)), (5, .int l5), (6, .int l6)]) [1, 2, 3, 0, 4, 5] rfl ?_
  exact t_X3_reckon_404 l E c0 s0 k11 hk11 _ _ _ _ _ _ _ _
def f_X3_reckon_356 (k11 : Nat → Int32 → Int32 → Int32 → Int32 → Int32 → Mm → Prop → Int32 × Mm × Prop) (l0 : Nat) (l2 : Int32) (l3 : Int32) (l5 : Int32) (l6 : Int32) (y1 : Int32) (y0 : Nat) (m : Mm) (o : Prop) : Int32 × Mm × Prop := f_X3_reckon_359 k11 l0 l2 l3 l5 l6 (sI m y0 11 y1) (o ∧ (gT m y0 = 4 ∧ (y1 = 0 ∨ y1 = 1)))
set_option maxRecDepth 10000 in
theorem t_X3_reckon_356 (l : Launch) (E : En) (c0 s0 : Nat) (k11 : Nat → Int32 → Int32 → Int32 → Int32 → Int32 → Mm → Prop → Int32 × Mm × Prop) (hk11 : ∀ (l0 : Nat) (l2 : Int32) (l3 : Int32) (l4 : Int32) (l5 : Int32) (l6 : Int32) (m : Mm) (o : Prop), Mh wI l E mi_X3_reckon c0 s0 11 [(0, .ref l0), (2, .int l2), (3, .int l3), (4, .int l4), (5, .int l5), (6, .int l6)] [] m o (k11 l0 l2 l3 l4 l5 l6 m o)) (l0 : Nat) (l2 : Int32) (l3 : Int32) (l5 : Int32) (l6 : Int32) (y1 : Int32) (y0 : Nat) (m : Mm) (o : Prop) : Mh wI l E mi_X3_reckon c0 s0 356 [(0, .ref l0), (2, .int l2), (3, .int l3), (5, .int l5), (6, .int l6)] [.int y1, .ref y0] m o (f_X3_reckon_356 k11 l0 l2 l3 l5 l6 y1 y0 m o) := by
  refine Mh_pZ fd_3_11 ft_3 rfl fl_RX3_81 rfl dX3_reckon_356 ?_
  exact t_X3_reckon_359 l E c0 s0 k11 hk11 _ _ _ _ _ _ _
def f_X3_reckon_380 (k11 : Nat → Int32 → Int32 → Int32 → Int32 → Int32 → Mm → Prop → Int32 × Mm × Prop) (l0 : Nat) (l2 : Int32) (l3 : Int32) (l5 : Int32) (l6 : Int32) (m : Mm) (o : Prop) : Int32 × Mm × Prop := f_X3_reckon_404 k11 l0 l2 l3 (0 : Int32) l5 l6 m o
set_option maxRecDepth 10000 in
theorem t_X3_reckon_380 (l : Launch) (E : En) (c0 s0 : Nat) (k11 : Nat → Int32 → Int32 → Int32 → Int32 → Int32 → Mm → Prop → Int32 × Mm × Prop) (hk11 : ∀ (l0 : Nat) (l2 : Int32) (l3 : Int32) (l4 : Int32) (l5 : Int32) (l6 : Int32) (m : Mm) (o : Prop), Mh wI l E mi_X3_reckon c0 s0 11 [(0, .ref l0), (2, .int l2), (3, .int l3), (4, .int l4), (5, .int l5), (6, .int l6)] [] m o (k11 l0 l2 l3 l4 l5 l6 m o)) (l0 : Nat) (l2 : Int32) (l3 : Int32) (l5 : Int32) (l6 : Int32) (m : Mm) (o : Prop) : Mh wI l E mi_X3_reckon c0 s0 380 [(0, .ref l0), (2, .int l2), (3, .int l3), (5, .int l5), (6, .int l6)] [] m o (f_X3_reckon_380 k11 l0 l2 l3 l5 l6 m o) := by
  refine Mh_iconst (v := 0) dX3_reckon_380 (by decide) ?_
  refine Mh_istore (lv' := [(4, .int (0 : Int32)), (0, .ref l0), (2, .int l2), (3, .int l3), (5, .int l5), (6, .int l6)]) dX3_reckon_381 (Nat.le_of_ble_eq_true rfl) rfl ?_
  refine Mh_goto (tgt := 404) dX3_reckon_383 (by decide) ?_
  refine Mh_sub (lv' := [(0, .ref l0), (2, .int l2), (3, .int l3), (4, .int (0 : Int32)), (5, .int l5), (6, .int l6)]) [1, 2, 3, 0, 4, 5] rfl ?_
  exact t_X3_reckon_404 l E c0 s0 k11 hk11 _ _ _ _ _ _ _ _
def f_X3_reckon_377 (k11 : Nat → Int32 → Int32 → Int32 → Int32 → Int32 → Mm → Prop → Int32 × Mm × Prop) (l0 : Nat) (l2 : Int32) (l3 : Int32) (l5 : Int32) (l6 : Int32) (y1 : Int32) (y0 : Nat) (m : Mm) (o : Prop) : Int32 × Mm × Prop := f_X3_reckon_380 k11 l0 l2 l3 l5 l6 (sI m y0 11 y1) (o ∧ (gT m y0 = 4 ∧ (y1 = 0 ∨ y1 = 1)))
set_option maxRecDepth 10000 in
theorem t_X3_reckon_377 (l : Launch) (E : En) (c0 s0 : Nat) (k11 : Nat → Int32 → Int32 → Int32 → Int32 → Int32 → Mm → Prop → Int32 × Mm × Prop) (hk11 : ∀ (l0 : Nat) (l2 : Int32) (l3 : Int32) (l4 : Int32) (l5 : Int32) (l6 : Int32) (m : Mm) (o : Prop), Mh wI l E mi_X3_reckon c0 s0 11 [(0, .ref l0), (2, .int l2), (3, .int l3), (4, .int l4), (5, .int l5), (6, .int l6)] [] m o (k11 l0 l2 l3 l4 l5 l6 m o)) (l0 : Nat) (l2 : Int32) (l3 : Int32) (l5 : Int32) (l6 : Int32) (y1 : Int32) (y0 : Nat) (m : Mm) (o : Prop) : Mh wI l E mi_X3_reckon c0 s0 377 [(0, .ref l0), (2, .int l2), (3, .int l3), (5, .int l5), (6, .int l6)] [.int y1, .ref y0] m o (f_X3_reckon_377 k11 l0 l2 l3 l5 l6 y1 y0 m o) := by
  refine Mh_pZ fd_3_11 ft_3 rfl fl_RX3_81 rfl dX3_reckon_377 ?_
  exact t_X3_reckon_380 l E c0 s0 k11 hk11 _ _ _ _ _ _ _
def f_X3_reckon_401 (k11 : Nat → Int32 → Int32 → Int32 → Int32 → Int32 → Mm → Prop → Int32 × Mm × Prop) (l0 : Nat) (l2 : Int32) (l3 : Int32) (l5 : Int32) (l6 : Int32) (m : Mm) (o : Prop) : Int32 × Mm × Prop := f_X3_reckon_404 k11 l0 l2 l3 (0 : Int32) l5 l6 m o
set_option maxRecDepth 10000 in
theorem t_X3_reckon_401 (l : Launch) (E : En) (c0 s0 : Nat) (k11 : Nat → Int32 → Int32 → Int32 → Int32 → Int32 → Mm → Prop → Int32 × Mm × Prop) (hk11 : ∀ (l0 : Nat) (l2 : Int32) (l3 : Int32) (l4 : Int32) (l5 : Int32) (l6 : Int32) (m : Mm) (o : Prop), Mh wI l E mi_X3_reckon c0 s0 11 [(0, .ref l0), (2, .int l2), (3, .int l3), (4, .int l4), (5, .int l5), (6, .int l6)] [] m o (k11 l0 l2 l3 l4 l5 l6 m o)) (l0 : Nat) (l2 : Int32) (l3 : Int32) (l5 : Int32) (l6 : Int32) (m : Mm) (o : Prop) : Mh wI l E mi_X3_reckon c0 s0 401 [(0, .ref l0), (2, .int l2), (3, .int l3), (5, .int l5), (6, .int l6)] [] m o (f_X3_reckon_401 k11 l0 l2 l3 l5 l6 m o) := by
  refine Mh_iconst (v := 0) dX3_reckon_401 (by decide) ?_
  refine Mh_istore (lv' := [(4, .int (0 : Int32)), (0, .ref l0), (2, .int l2), (3, .int l3), (5, .int l5), (6, .int l6)]) dX3_reckon_402 (Nat.le_of_ble_eq_true rfl) rfl ?_
  refine Mh_sub (lv' := [(0, .ref l0), (2, .int l2), (3, .int l3), (4, .int (0 : Int32)), (5, .int l5), (6, .int l6)]) [1, 2, 3, 0, 4, 5] rfl ?_
  exact t_X3_reckon_404 l E c0 s0 k11 hk11 _ _ _ _ _ _ _ _
def f_X3_reckon_398 (k11 : Nat → Int32 → Int32 → Int32 → Int32 → Int32 → Mm → Prop → Int32 × Mm × Prop) (l0 : Nat) (l2 : Int32) (l3 : Int32) (l5 : Int32) (l6 : Int32) (y1 : Int32) (y0 : Nat) (m : Mm) (o : Prop) : Int32 × Mm × Prop := f_X3_reckon_401 k11 l0 l2 l3 l5 l6 (sI m y0 11 y1) (o ∧ (gT m y0 = 4 ∧ (y1 = 0 ∨ y1 = 1)))
set_option maxRecDepth 10000 in
theorem t_X3_reckon_398 (l : Launch) (E : En) (c0 s0 : Nat) (k11 : Nat → Int32 → Int32 → Int32 → Int32 → Int32 → Mm → Prop → Int32 × Mm × Prop) (hk11 : ∀ (l0 : Nat) (l2 : Int32) (l3 : Int32) (l4 : Int32) (l5 : Int32) (l6 : Int32) (m : Mm) (o : Prop), Mh wI l E mi_X3_reckon c0 s0 11 [(0, .ref l0), (2, .int l2), (3, .int l3), (4, .int l4), (5, .int l5), (6, .int l6)] [] m o (k11 l0 l2 l3 l4 l5 l6 m o)) (l0 : Nat) (l2 : Int32) (l3 : Int32) (l5 : Int32) (l6 : Int32) (y1 : Int32) (y0 : Nat) (m : Mm) (o : Prop) : Mh wI l E mi_X3_reckon c0 s0 398 [(0, .ref l0), (2, .int l2), (3, .int l3), (5, .int l5), (6, .int l6)] [.int y1, .ref y0] m o (f_X3_reckon_398 k11 l0 l2 l3 l5 l6 y1 y0 m o) := by
  refine Mh_pZ fd_3_11 ft_3 rfl fl_RX3_81 rfl dX3_reckon_398 ?_
  exact t_X3_reckon_401 l E c0 s0 k11 hk11 _ _ _ _ _ _ _
def f_X3_reckon_225 (k11 : Nat → Int32 → Int32 → Int32 → Int32 → Int32 → Mm → Prop → Int32 × Mm × Prop) (l0 : Nat) (l2 : Int32) (l3 : Int32) (l4 : Int32) (l5 : Int32) (l6 : Int32) (l7 : Int32) (m : Mm) (o : Prop) : Int32 × Mm × Prop := if l7 = 37 then (f_X3_reckon_404 k11 l0 l2 (irm (gI m (gR m l0 8) (ix (l4 + (-1)))) l3) (l4 + (-1)) l5 l6 m (((o ∧ (gT m l0 = 4 ∧ gR m l0 8 ≠ 0)) ∧ (gT m (gR m l0 8) = 20 ∧ vp_in (l4 + (-1)) (gN m (gR m l0 8)))) ∧ ¬ l3 = 0)) else if l7 = 42 then (f_X3_reckon_404 k11 l0 l2 ((gI m (gR m l0 8) (ix (l4 + (-1)))) * l3) (l4 + (-1)) l5 l6 m ((o ∧ (gT m l0 = 4 ∧ gR m l0 8 ≠ 0)) ∧ (gT m (gR m l0 8) = 20 ∧ vp_in (l4 + (-1)) (gN m (gR m l0 8))))) else if l7 = 43 then (f_X3_reckon_404 k11 l0 l2 ((gI m (gR m l0 8) (ix (l4 + (-1)))) + l3) (l4 + (-1)) l5 l6 m ((o ∧ (gT m l0 = 4 ∧ gR m l0 8 ≠ 0)) ∧ (gT m (gR m l0 8) = 20 ∧ vp_in (l4 + (-1)) (gN m (gR m l0 8))))) else if l7 = 45 then (f_X3_reckon_404 k11 l0 l2 ((gI m (gR m l0 8) (ix (l4 + (-1)))) - l3) (l4 + (-1)) l5 l6 m ((o ∧ (gT m l0 = 4 ∧ gR m l0 8 ≠ 0)) ∧ (gT m (gR m l0 8) = 20 ∧ vp_in (l4 + (-1)) (gN m (gR m l0 8))))) else if l7 = 47 then (f_X3_reckon_404 k11 l0 l2 ((gI m (gR m l0 8) (ix (l4 + (-1)))) / l3) (l4 + (-1)) l5 l6 m (((o ∧ (gT m l0 = 4 ∧ gR m l0 8 ≠ 0)) ∧ (gT m (gR m l0 8) = 20 ∧ vp_in (l4 + (-1)) (gN m (gR m l0 8)))) ∧ ¬ l3 = 0)) else if l7 = 60 then (if l3 ≤ (gI m (gR m l0 8) (ix (l4 + (-1)))) then (f_X3_reckon_356 k11 l0 l2 l3 l5 l6 (0 : Int32) l0 m ((o ∧ (gT m l0 = 4 ∧ gR m l0 8 ≠ 0)) ∧ (gT m (gR m l0 8) = 20 ∧ vp_in (l4 + (-1)) (gN m (gR m l0 8))))) else (f_X3_reckon_356 k11 l0 l2 l3 l5 l6 (1 : Int32) l0 m ((o ∧ (gT m l0 = 4 ∧ gR m l0 8 ≠ 0)) ∧ (gT m (gR m l0 8) = 20 ∧ vp_in (l4 + (-1)) (gN m (gR m l0 8)))))) else if l7 = 62 then (if (gI m (gR m l0 8) (ix (l4 + (-1)))) ≤ l3 then (f_X3_reckon_377 k11 l0 l2 l3 l5 l6 (0 : Int32) l0 m ((o ∧ (gT m l0 = 4 ∧ gR m l0 8 ≠ 0)) ∧ (gT m (gR m l0 8) = 20 ∧ vp_in (l4 + (-1)) (gN m (gR m l0 8))))) else (f_X3_reckon_377 k11 l0 l2 l3 l5 l6 (1 : Int32) l0 m ((o ∧ (gT m l0 = 4 ∧ gR m l0 8 ≠ 0)) ∧ (gT m (gR m l0 8) = 20 ∧ vp_in (l4 + (-1)) (gN m (gR m l0 8)))))) else (if (gI m (gR m l0 8) (ix (l4 + (-1)))) = l3 then (f_X3_reckon_398 k11 l0 l2 l3 l5 l6 (1 : Int32) l0 m ((o ∧ (gT m l0 = 4 ∧ gR m l0 8 ≠ 0)) ∧ (gT m (gR m l0 8) = 20 ∧ vp_in (l4 + (-1)) (gN m (gR m l0 8))))) else (f_X3_reckon_398 k11 l0 l2 l3 l5 l6 (0 : Int32) l0 m ((o ∧ (gT m l0 = 4 ∧ gR m l0 8 ≠ 0)) ∧ (gT m (gR m l0 8) = 20 ∧ vp_in (l4 + (-1)) (gN m (gR m l0 8))))))
set_option maxRecDepth 10000 in
theorem t_X3_reckon_225 (l : Launch) (E : En) (c0 s0 : Nat) (k11 : Nat → Int32 → Int32 → Int32 → Int32 → Int32 → Mm → Prop → Int32 × Mm × Prop) (hk11 : ∀ (l0 : Nat) (l2 : Int32) (l3 : Int32) (l4 : Int32) (l5 : Int32) (l6 : Int32) (m : Mm) (o : Prop), Mh wI l E mi_X3_reckon c0 s0 11 [(0, .ref l0), (2, .int l2), (3, .int l3), (4, .int l4), (5, .int l5), (6, .int l6)] [] m o (k11 l0 l2 l3 l4 l5 l6 m o)) (l0 : Nat) (l2 : Int32) (l3 : Int32) (l4 : Int32) (l5 : Int32) (l6 : Int32) (l7 : Int32) (m : Mm) (o : Prop) : Mh wI l E mi_X3_reckon c0 s0 225 [(0, .ref l0), (2, .int l2), (3, .int l3), (4, .int l4), (5, .int l5), (6, .int l6), (7, .int l7)] [] m o (f_X3_reckon_225 k11 l0 l2 l3 l4 l5 l6 l7 m o) := by
  refine Mh_iinc (v := l4 + (-1)) (lv' := [(4, .int (l4 + (-1))), (0, .ref l0), (2, .int l2), (3, .int l3), (5, .int l5), (6, .int l6), (7, .int l7)]) 3 dX3_reckon_225 rfl rfl (Nat.le_of_ble_eq_true rfl) rfl ?_
  refine Mh_aload_n 1 rfl dX3_reckon_228 ?_
  refine Mh_gR fd_3_8 fl_RX3_34 dX3_reckon_229 ?_
  refine Mh_iload 0 rfl dX3_reckon_232 ?_
  refine Mh_ial dX3_reckon_234 ?_
  refine Mh_istore (lv' := [(9, .int (gI m (gR m l0 8) (ix (l4 + (-1))))), (4, .int (l4 + (-1))), (0, .ref l0), (2, .int l2), (3, .int l3), (5, .int l5), (6, .int l6), (7, .int l7)]) dX3_reckon_235 (Nat.le_of_ble_eq_true rfl) rfl ?_
  refine Mh_iload 7 rfl dX3_reckon_237 ?_
  refine Mh_ite (C := l7 = 37) rfl (fun hs37 => ?_) (fun hs37 => ?_)
  · refine Mh_lsw (off := 97) (tgt := 336) dX3_reckon_239 (by decide) (by rw [hs37]; decide) (by decide) ?_
    refine Mh_iload 0 rfl dX3_reckon_336 ?_
    refine Mh_iload_n 4 rfl dX3_reckon_338 ?_
    refine Mh_irem dX3_reckon_339 ?_
    refine Mh_istore_n (lv' := [(3, .int (irm (gI m (gR m l0 8) (ix (l4 + (-1)))) l3)), (9, .int (gI m (gR m l0 8) (ix (l4 + (-1))))), (4, .int (l4 + (-1))), (0, .ref l0), (2, .int l2), (5, .int l5), (6, .int l6), (7, .int l7)]) dX3_reckon_340 (Nat.le_of_ble_eq_true rfl) rfl ?_
    refine Mh_goto (tgt := 404) dX3_reckon_341 (by decide) ?_
    refine Mh_sub (lv' := [(0, .ref l0), (2, .int l2), (3, .int (irm (gI m (gR m l0 8) (ix (l4 + (-1)))) l3)), (4, .int (l4 + (-1))), (5, .int l5), (6, .int l6)]) [3, 4, 0, 2, 5, 6] rfl ?_
    exact t_X3_reckon_404 l E c0 s0 k11 hk11 _ _ _ _ _ _ _ _
  refine Mh_ite (C := l7 = 42) rfl (fun hs42 => ?_) (fun hs42 => ?_)
  · refine Mh_lsw (off := 81) (tgt := 320) dX3_reckon_239 (by decide) (by rw [hs42]; decide) (by decide) ?_
    refine Mh_iload 0 rfl dX3_reckon_320 ?_
    refine Mh_iload_n 4 rfl dX3_reckon_322 ?_
    refine Mh_imul dX3_reckon_323 ?_
    refine Mh_istore_n (lv' := [(3, .int ((gI m (gR m l0 8) (ix (l4 + (-1)))) * l3)), (9, .int (gI m (gR m l0 8) (ix (l4 + (-1))))), (4, .int (l4 + (-1))), (0, .ref l0), (2, .int l2), (5, .int l5), (6, .int l6), (7, .int l7)]) dX3_reckon_324 (Nat.le_of_ble_eq_true rfl) rfl ?_
    refine Mh_goto (tgt := 404) dX3_reckon_325 (by decide) ?_
    refine Mh_sub (lv' := [(0, .ref l0), (2, .int l2), (3, .int ((gI m (gR m l0 8) (ix (l4 + (-1)))) * l3)), (4, .int (l4 + (-1))), (5, .int l5), (6, .int l6)]) [3, 4, 0, 2, 5, 6] rfl ?_
    exact t_X3_reckon_404 l E c0 s0 k11 hk11 _ _ _ _ _ _ _ _
  refine Mh_ite (C := l7 = 43) rfl (fun hs43 => ?_) (fun hs43 => ?_)
  · refine Mh_lsw (off := 65) (tgt := 304) dX3_reckon_239 (by decide) (by rw [hs43]; decide) (by decide) ?_
    refine Mh_iload 0 rfl dX3_reckon_304 ?_
    refine Mh_iload_n 4 rfl dX3_reckon_306 ?_
    refine Mh_iadd dX3_reckon_307 ?_
    refine Mh_istore_n (lv' := [(3, .int ((gI m (gR m l0 8) (ix (l4 + (-1)))) + l3)), (9, .int (gI m (gR m l0 8) (ix (l4 + (-1))))), (4, .int (l4 + (-1))), (0, .ref l0), (2, .int l2), (5, .int l5), (6, .int l6), (7, .int l7)]) dX3_reckon_308 (Nat.le_of_ble_eq_true rfl) rfl ?_
    refine Mh_goto (tgt := 404) dX3_reckon_309 (by decide) ?_
    refine Mh_sub (lv' := [(0, .ref l0), (2, .int l2), (3, .int ((gI m (gR m l0 8) (ix (l4 + (-1)))) + l3)), (4, .int (l4 + (-1))), (5, .int l5), (6, .int l6)]) [3, 4, 0, 2, 5, 6] rfl ?_
    exact t_X3_reckon_404 l E c0 s0 k11 hk11 _ _ _ _ _ _ _ _
  refine Mh_ite (C := l7 = 45) rfl (fun hs45 => ?_) (fun hs45 => ?_)
  · refine Mh_lsw (off := 73) (tgt := 312) dX3_reckon_239 (by decide) (by rw [hs45]; decide) (by decide) ?_
    refine Mh_iload 0 rfl dX3_reckon_312 ?_
    refine Mh_iload_n 4 rfl dX3_reckon_314 ?_
    refine Mh_isub dX3_reckon_315 ?_
    refine Mh_istore_n (lv' := [(3, .int ((gI m (gR m l0 8) (ix (l4 + (-1)))) - l3)), (9, .int (gI m (gR m l0 8) (ix (l4 + (-1))))), (4, .int (l4 + (-1))), (0, .ref l0), (2, .int l2), (5, .int l5), (6, .int l6), (7, .int l7)]) dX3_reckon_316 (Nat.le_of_ble_eq_true rfl) rfl ?_
    refine Mh_goto (tgt := 404) dX3_reckon_317 (by decide) ?_
    refine Mh_sub (lv' := [(0, .ref l0), (2, .int l2), (3, .int ((gI m (gR m l0 8) (ix (l4 + (-1)))) - l3)), (4, .int (l4 + (-1))), (5, .int l5), (6, .int l6)]) [3, 4, 0, 2, 5, 6] rfl ?_
    exact t_X3_reckon_404 l E c0 s0 k11 hk11 _ _ _ _ _ _ _ _
  refine Mh_ite (C := l7 = 47) rfl (fun hs47 => ?_) (fun hs47 => ?_)
  · refine Mh_lsw (off := 89) (tgt := 328) dX3_reckon_239 (by decide) (by rw [hs47]; decide) (by decide) ?_
    refine Mh_iload 0 rfl dX3_reckon_328 ?_
    refine Mh_iload_n 4 rfl dX3_reckon_330 ?_
    refine Mh_idiv dX3_reckon_331 ?_
    refine Mh_istore_n (lv' := [(3, .int ((gI m (gR m l0 8) (ix (l4 + (-1)))) / l3)), (9, .int (gI m (gR m l0 8) (ix (l4 + (-1))))), (4, .int (l4 + (-1))), (0, .ref l0), (2, .int l2), (5, .int l5), (6, .int l6), (7, .int l7)]) dX3_reckon_332 (Nat.le_of_ble_eq_true rfl) rfl ?_
    refine Mh_goto (tgt := 404) dX3_reckon_333 (by decide) ?_
    refine Mh_sub (lv' := [(0, .ref l0), (2, .int l2), (3, .int ((gI m (gR m l0 8) (ix (l4 + (-1)))) / l3)), (4, .int (l4 + (-1))), (5, .int l5), (6, .int l6)]) [3, 4, 0, 2, 5, 6] rfl ?_
    exact t_X3_reckon_404 l E c0 s0 k11 hk11 _ _ _ _ _ _ _ _
  refine Mh_ite (C := l7 = 60) rfl (fun hs60 => ?_) (fun hs60 => ?_)
  · refine Mh_lsw (off := 105) (tgt := 344) dX3_reckon_239 (by decide) (by rw [hs60]; decide) (by decide) ?_
    refine Mh_aload_n 2 rfl dX3_reckon_344 ?_
    refine Mh_iload 0 rfl dX3_reckon_345 ?_
    refine Mh_iload_n 4 rfl dX3_reckon_347 ?_
    refine Mh_icmp_ge (tgt := 355) dX3_reckon_348 (by decide) rfl (fun _ => ?_) (fun _ => ?_)
    · refine Mh_iconst (v := 0) dX3_reckon_355 (by decide) ?_
      refine Mh_sub (lv' := [(0, .ref l0), (2, .int l2), (3, .int l3), (5, .int l5), (6, .int l6)]) [2, 3, 4, 5, 6] rfl ?_
      exact t_X3_reckon_356 l E c0 s0 k11 hk11 _ _ _ _ _ _ _ _ _
    · refine Mh_iconst (v := 1) dX3_reckon_351 (by decide) ?_
      refine Mh_goto (tgt := 356) dX3_reckon_352 (by decide) ?_
      refine Mh_sub (lv' := [(0, .ref l0), (2, .int l2), (3, .int l3), (5, .int l5), (6, .int l6)]) [2, 3, 4, 5, 6] rfl ?_
      exact t_X3_reckon_356 l E c0 s0 k11 hk11 _ _ _ _ _ _ _ _ _
  refine Mh_ite (C := l7 = 62) rfl (fun hs62 => ?_) (fun hs62 => ?_)
  · refine Mh_lsw (off := 126) (tgt := 365) dX3_reckon_239 (by decide) (by rw [hs62]; decide) (by decide) ?_
    refine Mh_aload_n 2 rfl dX3_reckon_365 ?_
    refine Mh_iload 0 rfl dX3_reckon_366 ?_
    refine Mh_iload_n 4 rfl dX3_reckon_368 ?_
    refine Mh_icmp_le (tgt := 376) dX3_reckon_369 (by decide) rfl (fun _ => ?_) (fun _ => ?_)
    · refine Mh_iconst (v := 0) dX3_reckon_376 (by decide) ?_
      refine Mh_sub (lv' := [(0, .ref l0), (2, .int l2), (3, .int l3), (5, .int l5), (6, .int l6)]) [2, 3, 4, 5, 6] rfl ?_
      exact t_X3_reckon_377 l E c0 s0 k11 hk11 _ _ _ _ _ _ _ _ _
    · refine Mh_iconst (v := 1) dX3_reckon_372 (by decide) ?_
      refine Mh_goto (tgt := 377) dX3_reckon_373 (by decide) ?_
      refine Mh_sub (lv' := [(0, .ref l0), (2, .int l2), (3, .int l3), (5, .int l5), (6, .int l6)]) [2, 3, 4, 5, 6] rfl ?_
      exact t_X3_reckon_377 l E c0 s0 k11 hk11 _ _ _ _ _ _ _ _ _
  refine Mh_lsw (off := 147) (tgt := 386) dX3_reckon_239 (by decide) (by rw [lv_osw hs37 (by decide)]; rw [lv_osw hs42 (by decide)]; rw [lv_osw hs43 (by decide)]; rw [lv_osw hs45 (by decide)]; rw [lv_osw hs47 (by decide)]; rw [lv_osw hs60 (by decide)]; rw [lv_osw hs62 (by decide)]; rfl) (by decide) ?_
  refine Mh_aload_n 2 rfl dX3_reckon_386 ?_
  refine Mh_iload 0 rfl dX3_reckon_387 ?_
  refine Mh_iload_n 4 rfl dX3_reckon_389 ?_
  refine Mh_icmp_ne (tgt := 397) dX3_reckon_390 (by decide) rfl (fun _ => ?_) (fun _ => ?_)
  · refine Mh_iconst (v := 0) dX3_reckon_397 (by decide) ?_
    refine Mh_sub (lv' := [(0, .ref l0), (2, .int l2), (3, .int l3), (5, .int l5), (6, .int l6)]) [2, 3, 4, 5, 6] rfl ?_
    exact t_X3_reckon_398 l E c0 s0 k11 hk11 _ _ _ _ _ _ _ _ _
  · refine Mh_iconst (v := 1) dX3_reckon_393 (by decide) ?_
    refine Mh_goto (tgt := 398) dX3_reckon_394 (by decide) ?_
    refine Mh_sub (lv' := [(0, .ref l0), (2, .int l2), (3, .int l3), (5, .int l5), (6, .int l6)]) [2, 3, 4, 5, 6] rfl ?_
    exact t_X3_reckon_398 l E c0 s0 k11 hk11 _ _ _ _ _ _ _ _ _
def f_X3_reckon_415 (m : Mm) (o : Prop) : Int32 × Mm × Prop := ((1 : Int32), m, o)
set_option maxRecDepth 10000 in
theorem t_X3_reckon_415 (l : Launch) (E : En) (c0 s0 : Nat) (m : Mm) (o : Prop) : Mh wI l E mi_X3_reckon c0 s0 415 [] [] m o (f_X3_reckon_415  m o) := by
  refine Mh_iconst (v := 1) dX3_reckon_415 (by decide) ?_
  exact Mh_ret dX3_reckon_416 rfl (fun _ => rk1Z) rfl
def f_X3_reckon_410 (l0 : Nat) (l3 : Int32) (m : Mm) (o : Prop) : Int32 × Mm × Prop := f_X3_reckon_415  (sI m l0 12 l3) (o ∧ gT m l0 = 4)
set_option maxRecDepth 10000 in
theorem t_X3_reckon_410 (l : Launch) (E : En) (c0 s0 : Nat) (l0 : Nat) (l3 : Int32) (m : Mm) (o : Prop) : Mh wI l E mi_X3_reckon c0 s0 410 [(0, .ref l0), (3, .int l3)] [] m o (f_X3_reckon_410 l0 l3 m o) := by
  refine Mh_aload_n 0 rfl dX3_reckon_410 ?_
  refine Mh_iload_n 1 rfl dX3_reckon_411 ?_
  refine Mh_pI fd_3_12 ft_3 rfl fl_RX3_120 rfl dX3_reckon_412 ?_
  refine Mh_sub (lv' := []) [] rfl ?_
  exact t_X3_reckon_415 l E c0 s0  _ _
def f_X3_reckon_11b (k11 : Nat → Int32 → Int32 → Int32 → Int32 → Int32 → Mm → Prop → Int32 × Mm × Prop) (l0 : Nat) (l2 : Int32) (l3 : Int32) (l4 : Int32) (l5 : Int32) (l6 : Int32) (m : Mm) (o : Prop) : Int32 × Mm × Prop := if (200 : Int32) ≤ l6 then (f_X3_reckon_410 l0 l3 m o) else (if l2 ≤ l5 then (f_X3_reckon_410 l0 l3 m o) else (if (gI m (gR m l0 0) (ix l5)) = 1 then (if l4 < (32 : Int32) then (f_X3_reckon_117 k11 l0 l2 l4 (l5 + 1) l6 (gI m (gR m l0 0) (ix l5)) (gI m (gR m l0 1) (ix l5)) (sI m (gR m l0 8) (ix l4) l3) ((((((o ∧ (gT m l0 = 4 ∧ gR m l0 0 ≠ 0)) ∧ (gT m (gR m l0 0) = 20 ∧ vp_in l5 (gN m (gR m l0 0)))) ∧ (gT m l0 = 4 ∧ gR m l0 1 ≠ 0)) ∧ (gT m (gR m l0 1) = 20 ∧ vp_in l5 (gN m (gR m l0 1)))) ∧ (gT m l0 = 4 ∧ gR m l0 8 ≠ 0)) ∧ (gT m (gR m l0 8) = 20 ∧ vp_in l4 (gN m (gR m l0 8))))) else ((0 : Int32), m, ((((o ∧ (gT m l0 = 4 ∧ gR m l0 0 ≠ 0)) ∧ (gT m (gR m l0 0) = 20 ∧ vp_in l5 (gN m (gR m l0 0)))) ∧ (gT m l0 = 4 ∧ gR m l0 1 ≠ 0)) ∧ (gT m (gR m l0 1) = 20 ∧ vp_in l5 (gN m (gR m l0 1)))))) else if (gI m (gR m l0 0) (ix l5)) = 2 then (if l4 < (32 : Int32) then (f_X3_reckon_117 k11 l0 l2 l4 (l5 + 1) l6 (gI m (gR m l0 0) (ix l5)) (gI m (gR m l0 1) (ix l5)) (sI m (gR m l0 8) (ix l4) l3) ((((((o ∧ (gT m l0 = 4 ∧ gR m l0 0 ≠ 0)) ∧ (gT m (gR m l0 0) = 20 ∧ vp_in l5 (gN m (gR m l0 0)))) ∧ (gT m l0 = 4 ∧ gR m l0 1 ≠ 0)) ∧ (gT m (gR m l0 1) = 20 ∧ vp_in l5 (gN m (gR m l0 1)))) ∧ (gT m l0 = 4 ∧ gR m l0 8 ≠ 0)) ∧ (gT m (gR m l0 8) = 20 ∧ vp_in l4 (gN m (gR m l0 8))))) else ((0 : Int32), m, ((((o ∧ (gT m l0 = 4 ∧ gR m l0 0 ≠ 0)) ∧ (gT m (gR m l0 0) = 20 ∧ vp_in l5 (gN m (gR m l0 0)))) ∧ (gT m l0 = 4 ∧ gR m l0 1 ≠ 0)) ∧ (gT m (gR m l0 1) = 20 ∧ vp_in l5 (gN m (gR m l0 1)))))) else if (gI m (gR m l0 0) (ix l5)) = 33 then (if (gI m l0 11) = 0 then (f_X3_reckon_155 k11 l0 l2 l3 l4 (l5 + 1) l6 (1 : Int32) l0 m (((((o ∧ (gT m l0 = 4 ∧ gR m l0 0 ≠ 0)) ∧ (gT m (gR m l0 0) = 20 ∧ vp_in l5 (gN m (gR m l0 0)))) ∧ (gT m l0 = 4 ∧ gR m l0 1 ≠ 0)) ∧ (gT m (gR m l0 1) = 20 ∧ vp_in l5 (gN m (gR m l0 1)))) ∧ gT m l0 = 4)) else (f_X3_reckon_155 k11 l0 l2 l3 l4 (l5 + 1) l6 (0 : Int32) l0 m (((((o ∧ (gT m l0 = 4 ∧ gR m l0 0 ≠ 0)) ∧ (gT m (gR m l0 0) = 20 ∧ vp_in l5 (gN m (gR m l0 0)))) ∧ (gT m l0 = 4 ∧ gR m l0 1 ≠ 0)) ∧ (gT m (gR m l0 1) = 20 ∧ vp_in l5 (gN m (gR m l0 1)))) ∧ gT m l0 = 4))) else if (gI m (gR m l0 0) (ix l5)) = 38 then (if (gI m l0 11) = 0 then (f_X3_reckon_175 k11 l0 l2 l3 l4 l6 (gI m (gR m l0 1) (ix l5)) m (((((o ∧ (gT m l0 = 4 ∧ gR m l0 0 ≠ 0)) ∧ (gT m (gR m l0 0) = 20 ∧ vp_in l5 (gN m (gR m l0 0)))) ∧ (gT m l0 = 4 ∧ gR m l0 1 ≠ 0)) ∧ (gT m (gR m l0 1) = 20 ∧ vp_in l5 (gN m (gR m l0 1)))) ∧ gT m l0 = 4)) else (f_X3_reckon_175 k11 l0 l2 l3 l4 l6 (l5 + 1) m (((((o ∧ (gT m l0 = 4 ∧ gR m l0 0 ≠ 0)) ∧ (gT m (gR m l0 0) = 20 ∧ vp_in l5 (gN m (gR m l0 0)))) ∧ (gT m l0 = 4 ∧ gR m l0 1 ≠ 0)) ∧ (gT m (gR m l0 1) = 20 ∧ vp_in l5 (gN m (gR m l0 1)))) ∧ gT m l0 = 4))) else if (gI m (gR m l0 0) (ix l5)) = 124 then (if (gI m l0 11) = 0 then (f_X3_reckon_194 k11 l0 l2 l3 l4 l6 (l5 + 1) m (((((o ∧ (gT m l0 = 4 ∧ gR m l0 0 ≠ 0)) ∧ (gT m (gR m l0 0) = 20 ∧ vp_in l5 (gN m (gR m l0 0)))) ∧ (gT m l0 = 4 ∧ gR m l0 1 ≠ 0)) ∧ (gT m (gR m l0 1) = 20 ∧ vp_in l5 (gN m (gR m l0 1)))) ∧ gT m l0 = 4)) else (f_X3_reckon_194 k11 l0 l2 l3 l4 l6 (gI m (gR m l0 1) (ix l5)) m (((((o ∧ (gT m l0 = 4 ∧ gR m l0 0 ≠ 0)) ∧ (gT m (gR m l0 0) = 20 ∧ vp_in l5 (gN m (gR m l0 0)))) ∧ (gT m l0 = 4 ∧ gR m l0 1 ≠ 0)) ∧ (gT m (gR m l0 1) = 20 ∧ vp_in l5 (gN m (gR m l0 1)))) ∧ gT m l0 = 4))) else (if l4 < (1 : Int32) then (f_X3_reckon_223  m ((((o ∧ (gT m l0 = 4 ∧ gR m l0 0 ≠ 0)) ∧ (gT m (gR m l0 0) = 20 ∧ vp_in l5 (gN m (gR m l0 0)))) ∧ (gT m l0 = 4 ∧ gR m l0 1 ≠ 0)) ∧ (gT m (gR m l0 1) = 20 ∧ vp_in l5 (gN m (gR m l0 1))))) else (if l3 = 0 then (if (gI m (gR m l0 0) (ix l5)) = (47 : Int32) then (f_X3_reckon_223  m ((((o ∧ (gT m l0 = 4 ∧ gR m l0 0 ≠ 0)) ∧ (gT m (gR m l0 0) = 20 ∧ vp_in l5 (gN m (gR m l0 0)))) ∧ (gT m l0 = 4 ∧ gR m l0 1 ≠ 0)) ∧ (gT m (gR m l0 1) = 20 ∧ vp_in l5 (gN m (gR m l0 1))))) else (if (gI m (gR m l0 0) (ix l5)) = (37 : Int32) then (f_X3_reckon_223  m ((((o ∧ (gT m l0 = 4 ∧ gR m l0 0 ≠ 0)) ∧ (gT m (gR m l0 0) = 20 ∧ vp_in l5 (gN m (gR m l0 0)))) ∧ (gT m l0 = 4 ∧ gR m l0 1 ≠ 0)) ∧ (gT m (gR m l0 1) = 20 ∧ vp_in l5 (gN m (gR m l0 1))))) else (f_X3_reckon_225 k11 l0 l2 l3 l4 (l5 + 1) l6 (gI m (gR m l0 0) (ix l5)) m ((((o ∧ (gT m l0 = 4 ∧ gR m l0 0 ≠ 0)) ∧ (gT m (gR m l0 0) = 20 ∧ vp_in l5 (gN m (gR m l0 0)))) ∧ (gT m l0 = 4 ∧ gR m l0 1 ≠ 0)) ∧ (gT m (gR m l0 1) = 20 ∧ vp_in l5 (gN m (gR m l0 1))))))) else (f_X3_reckon_225 k11 l0 l2 l3 l4 (l5 + 1) l6 (gI m (gR m l0 0) (ix l5)) m ((((o ∧ (gT m l0 = 4 ∧ gR m l0 0 ≠ 0)) ∧ (gT m (gR m l0 0) = 20 ∧ vp_in l5 (gN m (gR m l0 0)))) ∧ (gT m l0 = 4 ∧ gR m l0 1 ≠ 0)) ∧ (gT m (gR m l0 1) = 20 ∧ vp_in l5 (gN m (gR m l0 1)))))))))
set_option maxRecDepth 10000 in
theorem t_X3_reckon_11b (l : Launch) (E : En) (c0 s0 : Nat) (k11 : Nat → Int32 → Int32 → Int32 → Int32 → Int32 → Mm → Prop → Int32 × Mm × Prop) (hk11 : ∀ (l0 : Nat) (l2 : Int32) (l3 : Int32) (l4 : Int32) (l5 : Int32) (l6 : Int32) (m : Mm) (o : Prop), Mh wI l E mi_X3_reckon c0 s0 11 [(0, .ref l0), (2, .int l2), (3, .int l3), (4, .int l4), (5, .int l5), (6, .int l6)] [] m o (k11 l0 l2 l3 l4 l5 l6 m o)) (l0 : Nat) (l2 : Int32) (l3 : Int32) (l4 : Int32) (l5 : Int32) (l6 : Int32) (m : Mm) (o : Prop) : Mh wI l E mi_X3_reckon c0 s0 11 [(0, .ref l0), (2, .int l2), (3, .int l3), (4, .int l4), (5, .int l5), (6, .int l6)] [] m o (f_X3_reckon_11b k11 l0 l2 l3 l4 l5 l6 m o) := by
  refine Mh_iload 5 rfl dX3_reckon_11 ?_
  refine Mh_sipush (v := 200) dX3_reckon_13 (by decide) ?_
  refine Mh_icmp_ge (tgt := 410) dX3_reckon_16 (by decide) rfl (fun _ => ?_) (fun _ => ?_)
  · refine Mh_sub (lv' := [(0, .ref l0), (3, .int l3)]) [0, 2] rfl ?_
    exact t_X3_reckon_410 l E c0 s0 _ _ _ _
  · refine Mh_iload 4 rfl dX3_reckon_19 ?_
    refine Mh_iload_n 1 rfl dX3_reckon_21 ?_
    refine Mh_icmp_ge (tgt := 410) dX3_reckon_22 (by decide) rfl (fun _ => ?_) (fun _ => ?_)
    · refine Mh_sub (lv' := [(0, .ref l0), (3, .int l3)]) [0, 2] rfl ?_
      exact t_X3_reckon_410 l E c0 s0 _ _ _ _
    · refine Mh_aload_n 0 rfl dX3_reckon_25 ?_
      refine Mh_gR fd_3_0 fl_RX3_9 dX3_reckon_26 ?_
      refine Mh_iload 4 rfl dX3_reckon_29 ?_
      refine Mh_ial dX3_reckon_31 ?_
      refine Mh_istore (lv' := [(7, .int (gI m (gR m l0 0) (ix l5))), (0, .ref l0), (2, .int l2), (3, .int l3), (4, .int l4), (5, .int l5), (6, .int l6)]) dX3_reckon_32 (Nat.le_of_ble_eq_true rfl) rfl ?_
      refine Mh_aload_n 1 rfl dX3_reckon_34 ?_
      refine Mh_gR fd_3_1 fl_RX3_13 dX3_reckon_35 ?_
      refine Mh_iload 5 rfl dX3_reckon_38 ?_
      refine Mh_ial dX3_reckon_40 ?_
      refine Mh_istore (lv' := [(8, .int (gI m (gR m l0 1) (ix l5))), (7, .int (gI m (gR m l0 0) (ix l5))), (0, .ref l0), (2, .int l2), (3, .int l3), (4, .int l4), (5, .int l5), (6, .int l6)]) dX3_reckon_41 (Nat.le_of_ble_eq_true rfl) rfl ?_
      refine Mh_iinc (v := l5 + 1) (lv' := [(5, .int (l5 + 1)), (8, .int (gI m (gR m l0 1) (ix l5))), (7, .int (gI m (gR m l0 0) (ix l5))), (0, .ref l0), (2, .int l2), (3, .int l3), (4, .int l4), (6, .int l6)]) 6 dX3_reckon_43 rfl rfl (Nat.le_of_ble_eq_true rfl) rfl ?_
      refine Mh_iload 2 rfl dX3_reckon_46 ?_
      refine Mh_ite (C := (gI m (gR m l0 0) (ix l5)) = 1) rfl (fun hs1 => ?_) (fun hs1 => ?_)
      · refine Mh_lsw (off := 52) (tgt := 100) dX3_reckon_48 (by decide) (by rw [hs1]; decide) (by decide) ?_
        refine Mh_iload 6 rfl dX3_reckon_100 ?_
        refine Mh_bipush (v := 32) dX3_reckon_102 (by decide) ?_
        refine Mh_icmp_lt (tgt := 109) dX3_reckon_104 (by decide) rfl (fun _ => ?_) (fun _ => ?_)
        · refine Mh_aload_n 3 rfl dX3_reckon_109 ?_
          refine Mh_gR fd_3_8 fl_RX3_34 dX3_reckon_110 ?_
          refine Mh_iload 6 rfl dX3_reckon_113 ?_
          refine Mh_iload_n 5 rfl dX3_reckon_115 ?_
          refine Mh_ias dX3_reckon_116 ?_
          refine Mh_sub (lv' := [(0, .ref l0), (2, .int l2), (4, .int l4), (5, .int (l5 + 1)), (6, .int l6), (7, .int (gI m (gR m l0 0) (ix l5))), (8, .int (gI m (gR m l0 1) (ix l5)))]) [3, 4, 6, 0, 7, 2, 1] rfl ?_
          exact t_X3_reckon_117 l E c0 s0 k11 hk11 _ _ _ _ _ _ _ _ _
        · refine Mh_iconst (v := 0) dX3_reckon_107 (by decide) ?_
          exact Mh_ret dX3_reckon_108 rfl (fun _ => rk0Z) rfl
      refine Mh_ite (C := (gI m (gR m l0 0) (ix l5)) = 2) rfl (fun hs2 => ?_) (fun hs2 => ?_)
      · refine Mh_lsw (off := 52) (tgt := 100) dX3_reckon_48 (by decide) (by rw [hs2]; decide) (by decide) ?_
        refine Mh_iload 6 rfl dX3_reckon_100 ?_
        refine Mh_bipush (v := 32) dX3_reckon_102 (by decide) ?_
        refine Mh_icmp_lt (tgt := 109) dX3_reckon_104 (by decide) rfl (fun _ => ?_) (fun _ => ?_)
        · refine Mh_aload_n 3 rfl dX3_reckon_109 ?_
          refine Mh_gR fd_3_8 fl_RX3_34 dX3_reckon_110 ?_
          refine Mh_iload 6 rfl dX3_reckon_113 ?_
          refine Mh_iload_n 5 rfl dX3_reckon_115 ?_
          refine Mh_ias dX3_reckon_116 ?_
          refine Mh_sub (lv' := [(0, .ref l0), (2, .int l2), (4, .int l4), (5, .int (l5 + 1)), (6, .int l6), (7, .int (gI m (gR m l0 0) (ix l5))), (8, .int (gI m (gR m l0 1) (ix l5)))]) [3, 4, 6, 0, 7, 2, 1] rfl ?_
          exact t_X3_reckon_117 l E c0 s0 k11 hk11 _ _ _ _ _ _ _ _ _
        · refine Mh_iconst (v := 0) dX3_reckon_107 (by decide) ?_
          exact Mh_ret dX3_reckon_108 rfl (fun _ => rk0Z) rfl
      refine Mh_ite (C := (gI m (gR m l0 0) (ix l5)) = 33) rfl (fun hs33 => ?_) (fun hs33 => ?_)
      · refine Mh_lsw (off := 94) (tgt := 142) dX3_reckon_48 (by decide) (by rw [hs33]; decide) (by decide) ?_
        refine Mh_aload_n 3 rfl dX3_reckon_142 ?_
        refine Mh_aload_n 3 rfl dX3_reckon_143 ?_
        refine Mh_gI fd_3_11 fl_RX3_81 dX3_reckon_144 ?_
        refine Mh_if_ne (tgt := 154) dX3_reckon_147 (by decide) rfl (fun _ => ?_) (fun _ => ?_)
        · refine Mh_iconst (v := 0) dX3_reckon_154 (by decide) ?_
          refine Mh_sub (lv' := [(0, .ref l0), (2, .int l2), (3, .int l3), (4, .int l4), (5, .int (l5 + 1)), (6, .int l6)]) [3, 4, 5, 6, 0, 7] rfl ?_
          exact t_X3_reckon_155 l E c0 s0 k11 hk11 _ _ _ _ _ _ _ _ _ _
        · refine Mh_iconst (v := 1) dX3_reckon_150 (by decide) ?_
          refine Mh_goto (tgt := 155) dX3_reckon_151 (by decide) ?_
          refine Mh_sub (lv' := [(0, .ref l0), (2, .int l2), (3, .int l3), (4, .int l4), (5, .int (l5 + 1)), (6, .int l6)]) [3, 4, 5, 6, 0, 7] rfl ?_
          exact t_X3_reckon_155 l E c0 s0 k11 hk11 _ _ _ _ _ _ _ _ _ _
      refine Mh_ite (C := (gI m (gR m l0 0) (ix l5)) = 38) rfl (fun hs38 => ?_) (fun hs38 => ?_)
      · refine Mh_lsw (off := 113) (tgt := 161) dX3_reckon_48 (by decide) (by rw [hs38]; decide) (by decide) ?_
        refine Mh_aload_n 3 rfl dX3_reckon_161 ?_
        refine Mh_gI fd_3_11 fl_RX3_81 dX3_reckon_162 ?_
        refine Mh_if_eq (tgt := 173) dX3_reckon_165 (by decide) rfl (fun _ => ?_) (fun _ => ?_)
        · refine Mh_iload 1 rfl dX3_reckon_173 ?_
          refine Mh_sub (lv' := [(0, .ref l0), (2, .int l2), (3, .int l3), (4, .int l4), (6, .int l6)]) [3, 4, 5, 6, 7] rfl ?_
          exact t_X3_reckon_175 l E c0 s0 k11 hk11 _ _ _ _ _ _ _ _
        · refine Mh_iload 0 rfl dX3_reckon_168 ?_
          refine Mh_goto (tgt := 175) dX3_reckon_170 (by decide) ?_
          refine Mh_sub (lv' := [(0, .ref l0), (2, .int l2), (3, .int l3), (4, .int l4), (6, .int l6)]) [3, 4, 5, 6, 7] rfl ?_
          exact t_X3_reckon_175 l E c0 s0 k11 hk11 _ _ _ _ _ _ _ _
      refine Mh_ite (C := (gI m (gR m l0 0) (ix l5)) = 124) rfl (fun hs124 => ?_) (fun hs124 => ?_)
      · refine Mh_lsw (off := 132) (tgt := 180) dX3_reckon_48 (by decide) (by rw [hs124]; decide) (by decide) ?_
        refine Mh_aload_n 3 rfl dX3_reckon_180 ?_
        refine Mh_gI fd_3_11 fl_RX3_81 dX3_reckon_181 ?_
        refine Mh_if_eq (tgt := 192) dX3_reckon_184 (by decide) rfl (fun _ => ?_) (fun _ => ?_)
        · refine Mh_iload 0 rfl dX3_reckon_192 ?_
          refine Mh_sub (lv' := [(0, .ref l0), (2, .int l2), (3, .int l3), (4, .int l4), (6, .int l6)]) [3, 4, 5, 6, 7] rfl ?_
          exact t_X3_reckon_194 l E c0 s0 k11 hk11 _ _ _ _ _ _ _ _
        · refine Mh_iload 1 rfl dX3_reckon_187 ?_
          refine Mh_goto (tgt := 194) dX3_reckon_189 (by decide) ?_
          refine Mh_sub (lv' := [(0, .ref l0), (2, .int l2), (3, .int l3), (4, .int l4), (6, .int l6)]) [3, 4, 5, 6, 7] rfl ?_
          exact t_X3_reckon_194 l E c0 s0 k11 hk11 _ _ _ _ _ _ _ _
      refine Mh_lsw (off := 151) (tgt := 199) dX3_reckon_48 (by decide) (by rw [lv_osw hs1 (by decide)]; rw [lv_osw hs2 (by decide)]; rw [lv_osw hs33 (by decide)]; rw [lv_osw hs38 (by decide)]; rw [lv_osw hs124 (by decide)]; rfl) (by decide) ?_
      refine Mh_iload 6 rfl dX3_reckon_199 ?_
      refine Mh_iconst (v := 1) dX3_reckon_201 (by decide) ?_
      refine Mh_icmp_lt (tgt := 223) dX3_reckon_202 (by decide) rfl (fun _ => ?_) (fun _ => ?_)
      · refine Mh_sub (lv' := []) [] rfl ?_
        exact t_X3_reckon_223 l E c0 s0  _ _
      · refine Mh_iload_n 5 rfl dX3_reckon_205 ?_
        refine Mh_if_ne (tgt := 225) dX3_reckon_206 (by decide) rfl (fun _ => ?_) (fun _ => ?_)
        · refine Mh_sub (lv' := [(0, .ref l0), (2, .int l2), (3, .int l3), (4, .int l4), (5, .int (l5 + 1)), (6, .int l6), (7, .int (gI m (gR m l0 0) (ix l5)))]) [3, 4, 5, 6, 0, 7, 2] rfl ?_
          exact t_X3_reckon_225 l E c0 s0 k11 hk11 _ _ _ _ _ _ _ _ _
        · refine Mh_iload 2 rfl dX3_reckon_209 ?_
          refine Mh_bipush (v := 47) dX3_reckon_211 (by decide) ?_
          refine Mh_icmp_eq (tgt := 223) dX3_reckon_213 (by decide) rfl (fun _ => ?_) (fun _ => ?_)
          · refine Mh_sub (lv' := []) [] rfl ?_
            exact t_X3_reckon_223 l E c0 s0  _ _
          · refine Mh_iload 2 rfl dX3_reckon_216 ?_
            refine Mh_bipush (v := 37) dX3_reckon_218 (by decide) ?_
            refine Mh_icmp_ne (tgt := 225) dX3_reckon_220 (by decide) rfl (fun _ => ?_) (fun _ => ?_)
            · refine Mh_sub (lv' := [(0, .ref l0), (2, .int l2), (3, .int l3), (4, .int l4), (5, .int (l5 + 1)), (6, .int l6), (7, .int (gI m (gR m l0 0) (ix l5)))]) [3, 4, 5, 6, 0, 7, 2] rfl ?_
              exact t_X3_reckon_225 l E c0 s0 k11 hk11 _ _ _ _ _ _ _ _ _
            · refine Mh_sub (lv' := []) [] rfl ?_
              exact t_X3_reckon_223 l E c0 s0  _ _
def f_X3_reckon_11 : Nat → Nat → Int32 → Int32 → Int32 → Int32 → Int32 → Mm → Prop → Int32 × Mm × Prop
  | 0, _, _, _, _, _, _, m, _ => (0, m, False)
  | n + 1, l0, l2, l3, l4, l5, l6, m, o => f_X3_reckon_11b (f_X3_reckon_11 n) l0 l2 l3 l4 l5 l6 m o
theorem t_X3_reckon_11 (l : Launch) (E : En) (c0 s0 : Nat) : ∀ (n : Nat) (l0 : Nat) (l2 : Int32) (l3 : Int32) (l4 : Int32) (l5 : Int32) (l6 : Int32) (m : Mm) (o : Prop), Mh wI l E mi_X3_reckon c0 s0 11 [(0, .ref l0), (2, .int l2), (3, .int l3), (4, .int l4), (5, .int l5), (6, .int l6)] [] m o (f_X3_reckon_11 n l0 l2 l3 l4 l5 l6 m o)
  | 0, _, _, _, _, _, _, _, _ => Mh_out rfl
  | n + 1, l0, l2, l3, l4, l5, l6, m, o => t_X3_reckon_11b l E c0 s0 (f_X3_reckon_11 n) (t_X3_reckon_11 l E c0 s0 n) l0 l2 l3 l4 l5 l6 m o
def f_X3_reckon_0 (l0 : Nat) (l1 : Int32) (l2 : Int32) (m : Mm) (o : Prop) : Int32 × Mm × Prop := f_X3_reckon_11 1000 l0 l2 (0 : Int32) (0 : Int32) l1 (0 : Int32) m o
set_option maxRecDepth 10000 in
theorem t_X3_reckon_0 (l : Launch) (E : En) (c0 s0 : Nat) (l0 : Nat) (l1 : Int32) (l2 : Int32) (m : Mm) (o : Prop) : Mh wI l E mi_X3_reckon c0 s0 0 [(0, .ref l0), (1, .int l1), (2, .int l2)] [] m o (f_X3_reckon_0 l0 l1 l2 m o) := by
  refine Mh_iconst (v := 0) dX3_reckon_0 (by decide) ?_
  refine Mh_istore_n (lv' := [(3, .int (0 : Int32)), (0, .ref l0), (1, .int l1), (2, .int l2)]) dX3_reckon_1 (Nat.le_of_ble_eq_true rfl) rfl ?_
  refine Mh_iconst (v := 0) dX3_reckon_2 (by decide) ?_
  refine Mh_istore (lv' := [(4, .int (0 : Int32)), (3, .int (0 : Int32)), (0, .ref l0), (1, .int l1), (2, .int l2)]) dX3_reckon_3 (Nat.le_of_ble_eq_true rfl) rfl ?_
  refine Mh_iload_n 3 rfl dX3_reckon_5 ?_
  refine Mh_istore (lv' := [(5, .int l1), (4, .int (0 : Int32)), (3, .int (0 : Int32)), (0, .ref l0), (1, .int l1), (2, .int l2)]) dX3_reckon_6 (Nat.le_of_ble_eq_true rfl) rfl ?_
  refine Mh_iconst (v := 0) dX3_reckon_8 (by decide) ?_
  refine Mh_istore (lv' := [(6, .int (0 : Int32)), (5, .int l1), (4, .int (0 : Int32)), (3, .int (0 : Int32)), (0, .ref l0), (1, .int l1), (2, .int l2)]) dX3_reckon_9 (Nat.le_of_ble_eq_true rfl) rfl ?_
  refine Mh_sub (lv' := [(0, .ref l0), (2, .int l2), (3, .int (0 : Int32)), (4, .int (0 : Int32)), (5, .int l1), (6, .int (0 : Int32))]) [4, 6, 3, 2, 1, 0] rfl ?_
  exact t_X3_reckon_11 l E c0 s0 _ _ _ _ _ _ _ _ _
def F_X3_reckon (a0 : Nat) (a1 : Int32) (a2 : Int32) (m : Mm) (o : Prop) : Int32 × Mm × Prop := f_X3_reckon_0 a0 a1 a2 m o
theorem T_X3_reckon (l : Launch) (E : En) (a0 : Nat) (a1 : Int32) (a2 : Int32) (m : Mm) (o : Prop) : Mt wI l E yX3_reckon mi_X3_reckon [.ref a0, .int a1, .int a2] m o (F_X3_reckon a0 a1 a2 m o) :=
  Mt_I (by decide) rfl rfl rfl (Nat.le_of_ble_eq_true rfl) rfl (.inr (.inl rfl)) (t_X3_reckon_0 l E _ _ _ _ _ _ _)
def f_X3_firstValue_85 (y0 : Int32) (m : Mm) (o : Prop) : Int32 × Mm × Prop := (y0, m, o)
set_option maxRecDepth 10000 in
theorem t_X3_firstValue_85 (l : Launch) (E : En) (c0 s0 : Nat) (y0 : Int32) (m : Mm) (o : Prop) : Mh wI l E mi_X3_firstValue c0 s0 85 [] [.int y0] m o (f_X3_firstValue_85 y0 m o) := by
  exact Mh_ret dX3_firstValue_85 rfl (fun _ => rfl) rfl
def f_X3_firstValue_62 (l0 : Nat) (l2 : Int32) (y0 : Int32) (m : Mm) (o : Prop) : Int32 × Mm × Prop := if y0 = 0 then (f_X3_firstValue_85 (0 : Int32) m o) else (f_X3_firstValue_85 (if (0 : Int32) < (if (gI m l0 12) < l2 then (gI m l0 12) else l2) then (if (gI m l0 12) < l2 then (gI m l0 12) else l2) else (0 : Int32)) m (o ∧ gT m l0 = 4))
set_option maxRecDepth 10000 in
theorem t_X3_firstValue_62 (l : Launch) (E : En) (c0 s0 : Nat) (l0 : Nat) (l2 : Int32) (y0 : Int32) (m : Mm) (o : Prop) : Mh wI l E mi_X3_firstValue c0 s0 62 [(0, .ref l0), (2, .int l2)] [.int y0] m o (f_X3_firstValue_62 l0 l2 y0 m o) := by
  refine Mh_istore (lv' := [(4, .int y0), (0, .ref l0), (2, .int l2)]) dX3_firstValue_62 (Nat.le_of_ble_eq_true rfl) rfl ?_
  refine Mh_iload 0 rfl dX3_firstValue_64 ?_
  refine Mh_if_eq (tgt := 84) dX3_firstValue_66 (by decide) rfl (fun _ => ?_) (fun _ => ?_)
  · refine Mh_iconst (v := 0) dX3_firstValue_84 (by decide) ?_
    refine Mh_sub (lv' := []) [] rfl ?_
    exact t_X3_firstValue_85 l E c0 s0 _ _ _
  · refine Mh_iconst (v := 0) dX3_firstValue_69 (by decide) ?_
    refine Mh_iload_n 2 rfl dX3_firstValue_70 ?_
    refine Mh_aload_n 1 rfl dX3_firstValue_71 ?_
    refine Mh_gI fd_3_12 fl_RX3_120 dX3_firstValue_72 ?_
    refine Mh_min (by decide) ml_RX3_123 ma_min_1 ma_2 ma_min_3 (Nat.le_of_ble_eq_true rfl) dX3_firstValue_75 ?_
    refine Mh_max (by decide) ml_RX3_126 ma_max_1 ma_2 ma_max_3 (Nat.le_of_ble_eq_true rfl) dX3_firstValue_78 ?_
    refine Mh_goto (tgt := 85) dX3_firstValue_81 (by decide) ?_
    refine Mh_sub (lv' := []) [] rfl ?_
    exact t_X3_firstValue_85 l E c0 s0 _ _ _
def f_X3_firstValue_86 (k2 : Nat → Int32 → Int32 → Int32 → Mm → Prop → Int32 × Mm × Prop) (l0 : Nat) (l1 : Int32) (l2 : Int32) (l3 : Int32) (m : Mm) (o : Prop) : Int32 × Mm × Prop := k2 l0 l1 l2 (l3 + 1) m o
set_option maxRecDepth 10000 in
theorem t_X3_firstValue_86 (l : Launch) (E : En) (c0 s0 : Nat) (k2 : Nat → Int32 → Int32 → Int32 → Mm → Prop → Int32 × Mm × Prop) (hk2 : ∀ (l0 : Nat) (l1 : Int32) (l2 : Int32) (l3 : Int32) (m : Mm) (o : Prop), Mh wI l E mi_X3_firstValue c0 s0 2 [(0, .ref l0), (1, .int l1), (2, .int l2), (3, .int l3)] [] m o (k2 l0 l1 l2 l3 m o)) (l0 : Nat) (l1 : Int32) (l2 : Int32) (l3 : Int32) (m : Mm) (o : Prop) : Mh wI l E mi_X3_firstValue c0 s0 86 [(0, .ref l0), (1, .int l1), (2, .int l2), (3, .int l3)] [] m o (f_X3_firstValue_86 k2 l0 l1 l2 l3 m o) := by
  refine Mh_iinc (v := l3 + 1) (lv' := [(3, .int (l3 + 1)), (0, .ref l0), (1, .int l1), (2, .int l2)]) 3 dX3_firstValue_86 rfl rfl (Nat.le_of_ble_eq_true rfl) rfl ?_
  refine Mh_goto (tgt := 2) dX3_firstValue_89 (by decide) ?_
  refine Mh_sub (lv' := [(0, .ref l0), (1, .int l1), (2, .int l2), (3, .int (l3 + 1))]) [1, 2, 3, 0] rfl ?_
  exact hk2 _ _ _ _ _ _
def f_X3_firstValue_36 (k2 : Nat → Int32 → Int32 → Int32 → Mm → Prop → Int32 × Mm × Prop) (l0 : Nat) (l1 : Int32) (l2 : Int32) (l3 : Int32) (y0 : Int32) (m : Mm) (o : Prop) : Int32 × Mm × Prop := if y0 = 0 then (f_X3_firstValue_86 k2 l0 l1 l2 l3 m o) else (if (gI m l0 11) = 0 then (f_X3_firstValue_86 k2 l0 l1 l2 l3 m (o ∧ gT m l0 = 4)) else (bnd (F_X3_reckon l0 (gI m (gR m l0 3) (ix l3)) (gI m (gR m l0 4) (ix l3)) m (((((o ∧ gT m l0 = 4) ∧ (gT m l0 = 4 ∧ gR m l0 3 ≠ 0)) ∧ (gT m (gR m l0 3) = 20 ∧ vp_in l3 (gN m (gR m l0 3)))) ∧ (gT m l0 = 4 ∧ gR m l0 4 ≠ 0)) ∧ (gT m (gR m l0 4) = 20 ∧ vp_in l3 (gN m (gR m l0 4))))) (fun v1 m1 o1 => f_X3_firstValue_62 l0 l2 v1 m1 o1)))
set_option maxRecDepth 10000 in
theorem t_X3_firstValue_36 (l : Launch) (E : En) (c0 s0 : Nat) (k2 : Nat → Int32 → Int32 → Int32 → Mm → Prop → Int32 × Mm × Prop) (hk2 : ∀ (l0 : Nat) (l1 : Int32) (l2 : Int32) (l3 : Int32) (m : Mm) (o : Prop), Mh wI l E mi_X3_firstValue c0 s0 2 [(0, .ref l0), (1, .int l1), (2, .int l2), (3, .int l3)] [] m o (k2 l0 l1 l2 l3 m o)) (l0 : Nat) (l1 : Int32) (l2 : Int32) (l3 : Int32) (y0 : Int32) (m : Mm) (o : Prop) : Mh wI l E mi_X3_firstValue c0 s0 36 [(0, .ref l0), (1, .int l1), (2, .int l2), (3, .int l3)] [.int y0] m o (f_X3_firstValue_36 k2 l0 l1 l2 l3 y0 m o) := by
  refine Mh_if_eq (tgt := 86) dX3_firstValue_36 (by decide) rfl (fun _ => ?_) (fun _ => ?_)
  · exact t_X3_firstValue_86 l E c0 s0 k2 hk2 _ _ _ _ _ _
  · refine Mh_aload_n 0 rfl dX3_firstValue_39 ?_
    refine Mh_gI fd_3_11 fl_RX3_81 dX3_firstValue_40 ?_
    refine Mh_if_eq (tgt := 86) dX3_firstValue_43 (by decide) rfl (fun _ => ?_) (fun _ => ?_)
    · exact t_X3_firstValue_86 l E c0 s0 k2 hk2 _ _ _ _ _ _
    · refine Mh_aload_n 0 rfl dX3_firstValue_46 ?_
      refine Mh_aload_n 0 rfl dX3_firstValue_47 ?_
      refine Mh_gR fd_3_3 fl_RX3_19 dX3_firstValue_48 ?_
      refine Mh_iload_n 3 rfl dX3_firstValue_51 ?_
      refine Mh_ial dX3_firstValue_52 ?_
      refine Mh_aload_n 0 rfl dX3_firstValue_53 ?_
      refine Mh_gR fd_3_4 fl_RX3_22 dX3_firstValue_54 ?_
      refine Mh_iload_n 3 rfl dX3_firstValue_57 ?_
      refine Mh_ial dX3_firstValue_58 ?_
      refine Mh_cvI (N := mi_X3_reckon) (q := l0) (ci := 3) (as := [.int (gI m (gR m l0 3) (ix l3)), .int (gI m (gR m l0 4) (ix l3))]) (st := []) (fun h => ⟨h, (fun h => h.1.1.1.1.2) h⟩) cg_yX3_reckon (by decide) rfl rfl ml_RX3_77 iv_yX3_reckon pd_yX3_reckon rfl (by decide) (Nat.le_of_ble_eq_true rfl) rfl dX3_firstValue_59 (T_X3_reckon l E _ _ _ _ _) rfl ?_
      refine Mh_sub (lv' := [(0, .ref l0), (2, .int l2)]) [0, 2] rfl ?_
      exact t_X3_firstValue_62 l E c0 s0 _ _ _ _ _
def f_X3_firstValue_2b (k2 : Nat → Int32 → Int32 → Int32 → Mm → Prop → Int32 × Mm × Prop) (l0 : Nat) (l1 : Int32) (l2 : Int32) (l3 : Int32) (m : Mm) (o : Prop) : Int32 × Mm × Prop := if (gI m l0 10) ≤ l3 then ((0 : Int32), m, (o ∧ gT m l0 = 4)) else (if (gI m (gR m l0 2) (ix l3)) = l1 then (bnd (F_X3_reckon l0 (gI m (gR m l0 4) (ix l3)) (gI m (gR m l0 5) (ix l3)) m (((((((o ∧ gT m l0 = 4) ∧ (gT m l0 = 4 ∧ gR m l0 2 ≠ 0)) ∧ (gT m (gR m l0 2) = 20 ∧ vp_in l3 (gN m (gR m l0 2)))) ∧ (gT m l0 = 4 ∧ gR m l0 4 ≠ 0)) ∧ (gT m (gR m l0 4) = 20 ∧ vp_in l3 (gN m (gR m l0 4)))) ∧ (gT m l0 = 4 ∧ gR m l0 5 ≠ 0)) ∧ (gT m (gR m l0 5) = 20 ∧ vp_in l3 (gN m (gR m l0 5))))) (fun v1 m1 o1 => f_X3_firstValue_36 k2 l0 l1 l2 l3 v1 m1 o1)) else (f_X3_firstValue_86 k2 l0 l1 l2 l3 m (((o ∧ gT m l0 = 4) ∧ (gT m l0 = 4 ∧ gR m l0 2 ≠ 0)) ∧ (gT m (gR m l0 2) = 20 ∧ vp_in l3 (gN m (gR m l0 2))))))
set_option maxRecDepth 10000 in
theorem t_X3_firstValue_2b (l : Launch) (E : En) (c0 s0 : Nat) (k2 : Nat → Int32 → Int32 → Int32 → Mm → Prop → Int32 × Mm × Prop) (hk2 : ∀ (l0 : Nat) (l1 : Int32) (l2 : Int32) (l3 : Int32) (m : Mm) (o : Prop), Mh wI l E mi_X3_firstValue c0 s0 2 [(0, .ref l0), (1, .int l1), (2, .int l2), (3, .int l3)] [] m o (k2 l0 l1 l2 l3 m o)) (l0 : Nat) (l1 : Int32) (l2 : Int32) (l3 : Int32) (m : Mm) (o : Prop) : Mh wI l E mi_X3_firstValue c0 s0 2 [(0, .ref l0), (1, .int l1), (2, .int l2), (3, .int l3)] [] m o (f_X3_firstValue_2b k2 l0 l1 l2 l3 m o) := by
  refine Mh_iload_n 3 rfl dX3_firstValue_2 ?_
  refine Mh_aload_n 0 rfl dX3_firstValue_3 ?_
  refine Mh_gI fd_3_10 fl_RX3_41 dX3_firstValue_4 ?_
  refine Mh_icmp_ge (tgt := 92) dX3_firstValue_7 (by decide) rfl (fun _ => ?_) (fun _ => ?_)
  · refine Mh_iconst (v := 0) dX3_firstValue_92 (by decide) ?_
    exact Mh_ret dX3_firstValue_93 rfl (fun _ => rfl) rfl
  · refine Mh_aload_n 0 rfl dX3_firstValue_10 ?_
    refine Mh_gR fd_3_2 fl_RX3_16 dX3_firstValue_11 ?_
    refine Mh_iload_n 3 rfl dX3_firstValue_14 ?_
    refine Mh_ial dX3_firstValue_15 ?_
    refine Mh_iload_n 1 rfl dX3_firstValue_16 ?_
    refine Mh_icmp_ne (tgt := 86) dX3_firstValue_17 (by decide) rfl (fun _ => ?_) (fun _ => ?_)
    · exact t_X3_firstValue_86 l E c0 s0 k2 hk2 _ _ _ _ _ _
    · refine Mh_aload_n 0 rfl dX3_firstValue_20 ?_
      refine Mh_aload_n 0 rfl dX3_firstValue_21 ?_
      refine Mh_gR fd_3_4 fl_RX3_22 dX3_firstValue_22 ?_
      refine Mh_iload_n 3 rfl dX3_firstValue_25 ?_
      refine Mh_ial dX3_firstValue_26 ?_
      refine Mh_aload_n 0 rfl dX3_firstValue_27 ?_
      refine Mh_gR fd_3_5 fl_RX3_25 dX3_firstValue_28 ?_
      refine Mh_iload_n 3 rfl dX3_firstValue_31 ?_
      refine Mh_ial dX3_firstValue_32 ?_
      refine Mh_cvI (N := mi_X3_reckon) (q := l0) (ci := 3) (as := [.int (gI m (gR m l0 4) (ix l3)), .int (gI m (gR m l0 5) (ix l3))]) (st := []) (fun h => ⟨h, (fun h => h.1.1.1.1.1.1.2) h⟩) cg_yX3_reckon (by decide) rfl rfl ml_RX3_77 iv_yX3_reckon pd_yX3_reckon rfl (by decide) (Nat.le_of_ble_eq_true rfl) rfl dX3_firstValue_33 (T_X3_reckon l E _ _ _ _ _) rfl ?_
      exact t_X3_firstValue_36 l E c0 s0 k2 hk2 _ _ _ _ _ _ _
def f_X3_firstValue_2 : Nat → Nat → Int32 → Int32 → Int32 → Mm → Prop → Int32 × Mm × Prop
  | 0, _, _, _, _, m, _ => (0, m, False)
  | n + 1, l0, l1, l2, l3, m, o => f_X3_firstValue_2b (f_X3_firstValue_2 n) l0 l1 l2 l3 m o
theorem t_X3_firstValue_2 (l : Launch) (E : En) (c0 s0 : Nat) : ∀ (n : Nat) (l0 : Nat) (l1 : Int32) (l2 : Int32) (l3 : Int32) (m : Mm) (o : Prop), Mh wI l E mi_X3_firstValue c0 s0 2 [(0, .ref l0), (1, .int l1), (2, .int l2), (3, .int l3)] [] m o (f_X3_firstValue_2 n l0 l1 l2 l3 m o)
  | 0, _, _, _, _, _, _ => Mh_out rfl
  | n + 1, l0, l1, l2, l3, m, o => t_X3_firstValue_2b l E c0 s0 (f_X3_firstValue_2 n) (t_X3_firstValue_2 l E c0 s0 n) l0 l1 l2 l3 m o
def f_X3_firstValue_0 (l0 : Nat) (l1 : Int32) (l2 : Int32) (m : Mm) (o : Prop) : Int32 × Mm × Prop := f_X3_firstValue_2 1000 l0 l1 l2 (0 : Int32) m o
set_option maxRecDepth 10000 in
theorem t_X3_firstValue_0 (l : Launch) (E : En) (c0 s0 : Nat) (l0 : Nat) (l1 : Int32) (l2 : Int32) (m : Mm) (o : Prop) : Mh wI l E mi_X3_firstValue c0 s0 0 [(0, .ref l0), (1, .int l1), (2, .int l2)] [] m o (f_X3_firstValue_0 l0 l1 l2 m o) := by
  refine Mh_iconst (v := 0) dX3_firstValue_0 (by decide) ?_
  refine Mh_istore_n (lv' := [(3, .int (0 : Int32)), (0, .ref l0), (1, .int l1), (2, .int l2)]) dX3_firstValue_1 (Nat.le_of_ble_eq_true rfl) rfl ?_
  refine Mh_sub (lv' := [(0, .ref l0), (1, .int l1), (2, .int l2), (3, .int (0 : Int32))]) [1, 2, 3, 0] rfl ?_
  exact t_X3_firstValue_2 l E c0 s0 _ _ _ _ _ _ _
def F_X3_firstValue (a0 : Nat) (a1 : Int32) (a2 : Int32) (m : Mm) (o : Prop) : Int32 × Mm × Prop := f_X3_firstValue_0 a0 a1 a2 m o
theorem T_X3_firstValue (l : Launch) (E : En) (a0 : Nat) (a1 : Int32) (a2 : Int32) (m : Mm) (o : Prop) : Mt wI l E yX3_firstValue mi_X3_firstValue [.ref a0, .int a1, .int a2] m o (F_X3_firstValue a0 a1 a2 m o) :=
  Mt_I (by decide) rfl rfl rfl (Nat.le_of_ble_eq_true rfl) rfl (.inl rfl) (t_X3_firstValue_0 l E _ _ _ _ _ _ _)
