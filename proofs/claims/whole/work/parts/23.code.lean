def f_X3_lookAtCow_70 (m : Mm) (o : Prop) : Unit × Mm × Prop := ((), m, o)
set_option maxRecDepth 10000 in
theorem t_X3_lookAtCow_70 (l : Launch) (E : En) (c0 s0 : Nat) (m : Mm) (o : Prop) : Mh wU l E mi_X3_lookAtCow c0 s0 70 [] [] m o (f_X3_lookAtCow_70  m o) := by
  exact Mh_ret dX3_lookAtCow_70 rfl (fun _ => trivial) rfl
def f_X3_lookAtCow_59 (l0 : Nat) (l1 : Nat) (m : Mm) (o : Prop) : Unit × Mm × Prop := f_X3_lookAtCow_70  (sI m (gR m l0 6) (ix (9 : Int32)) (gI m l1 3)) (((o ∧ (gT m l0 = 4 ∧ gR m l0 6 ≠ 0)) ∧ gT m l1 = 2) ∧ (gT m (gR m l0 6) = 20 ∧ vp_in (9 : Int32) (gN m (gR m l0 6))))
set_option maxRecDepth 10000 in
theorem t_X3_lookAtCow_59 (l : Launch) (E : En) (c0 s0 : Nat) (l0 : Nat) (l1 : Nat) (m : Mm) (o : Prop) : Mh wU l E mi_X3_lookAtCow c0 s0 59 [(0, .ref l0), (1, .ref l1)] [] m o (f_X3_lookAtCow_59 l0 l1 m o) := by
  refine Mh_aload_n 0 rfl dX3_lookAtCow_59 ?_
  refine Mh_gR fd_3_6 fl_RX3_28 dX3_lookAtCow_60 ?_
  refine Mh_bipush (v := 9) dX3_lookAtCow_63 (by decide) ?_
  refine Mh_aload_n 1 rfl dX3_lookAtCow_65 ?_
  refine Mh_gI fd_1_3 fl_RX3_117 dX3_lookAtCow_66 ?_
  refine Mh_ias dX3_lookAtCow_69 ?_
  refine Mh_sub (lv' := []) [] rfl ?_
  exact t_X3_lookAtCow_70 l E c0 s0  _ _
def f_X3_lookAtCow_48 (l0 : Nat) (l1 : Nat) (m : Mm) (o : Prop) : Unit × Mm × Prop := f_X3_lookAtCow_59 l0 l1 (sI m (gR m l0 6) (ix (8 : Int32)) (gI m l1 2)) (((o ∧ (gT m l0 = 4 ∧ gR m l0 6 ≠ 0)) ∧ gT m l1 = 2) ∧ (gT m (gR m l0 6) = 20 ∧ vp_in (8 : Int32) (gN m (gR m l0 6))))
set_option maxRecDepth 10000 in
theorem t_X3_lookAtCow_48 (l : Launch) (E : En) (c0 s0 : Nat) (l0 : Nat) (l1 : Nat) (m : Mm) (o : Prop) : Mh wU l E mi_X3_lookAtCow c0 s0 48 [(0, .ref l0), (1, .ref l1)] [] m o (f_X3_lookAtCow_48 l0 l1 m o) := by
  refine Mh_aload_n 0 rfl dX3_lookAtCow_48 ?_
  refine Mh_gR fd_3_6 fl_RX3_28 dX3_lookAtCow_49 ?_
  refine Mh_bipush (v := 8) dX3_lookAtCow_52 (by decide) ?_
  refine Mh_aload_n 1 rfl dX3_lookAtCow_54 ?_
  refine Mh_gI fd_1_2 fl_RX3_114 dX3_lookAtCow_55 ?_
  refine Mh_ias dX3_lookAtCow_58 ?_
  exact t_X3_lookAtCow_59 l E c0 s0 _ _ _ _
def f_X3_lookAtCow_16 (l0 : Nat) (l1 : Nat) (l2 : Nat) (m : Mm) (o : Prop) : Unit × Mm × Prop := f_X3_lookAtCow_48 l0 l1 (sI m (gR m l0 6) (ix (7 : Int32)) ((if 0 ≤ ((gI m l1 0) - (gI m l2 0)) then ((gI m l1 0) - (gI m l2 0)) else 0 - ((gI m l1 0) - (gI m l2 0))) + (if 0 ≤ ((gI m l1 1) - (gI m l2 1)) then ((gI m l1 1) - (gI m l2 1)) else 0 - ((gI m l1 1) - (gI m l2 1))))) ((((o ∧ (gT m l0 = 4 ∧ gR m l0 6 ≠ 0)) ∧ gT m l1 = 2) ∧ gT m l2 = 8) ∧ (gT m (gR m l0 6) = 20 ∧ vp_in (7 : Int32) (gN m (gR m l0 6))))
set_option maxRecDepth 10000 in
theorem t_X3_lookAtCow_16 (l : Launch) (E : En) (c0 s0 : Nat) (l0 : Nat) (l1 : Nat) (l2 : Nat) (m : Mm) (o : Prop) : Mh wU l E mi_X3_lookAtCow c0 s0 16 [(0, .ref l0), (1, .ref l1), (2, .ref l2)] [] m o (f_X3_lookAtCow_16 l0 l1 l2 m o) := by
  refine Mh_aload_n 0 rfl dX3_lookAtCow_16 ?_
  refine Mh_gR fd_3_6 fl_RX3_28 dX3_lookAtCow_17 ?_
  refine Mh_bipush (v := 7) dX3_lookAtCow_20 (by decide) ?_
  refine Mh_aload_n 1 rfl dX3_lookAtCow_22 ?_
  refine Mh_gI fd_1_0 fl_RX3_100 dX3_lookAtCow_23 ?_
  refine Mh_aload_n 2 rfl dX3_lookAtCow_26 ?_
  refine Mh_gI fd_7_0 fl_RX3_103 dX3_lookAtCow_27 ?_
  refine Mh_isub dX3_lookAtCow_30 ?_
  refine Mh_abs (by decide) ml_RX3_104 ma_abs_1 ma_2 ma_abs_3 (Nat.le_of_ble_eq_true rfl) dX3_lookAtCow_31 ?_
  refine Mh_aload_n 1 rfl dX3_lookAtCow_34 ?_
  refine Mh_gI fd_1_1 fl_RX3_110 dX3_lookAtCow_35 ?_
  refine Mh_ok (fun h => h.1.2) ?_
  refine Mh_aload_n 2 rfl dX3_lookAtCow_38 ?_
  refine Mh_gI fd_7_1 fl_RX3_113 dX3_lookAtCow_39 ?_
  refine Mh_ok (fun h => h.2) ?_
  refine Mh_isub dX3_lookAtCow_42 ?_
  refine Mh_abs (by decide) ml_RX3_104 ma_abs_1 ma_2 ma_abs_3 (Nat.le_of_ble_eq_true rfl) dX3_lookAtCow_43 ?_
  refine Mh_iadd dX3_lookAtCow_46 ?_
  refine Mh_ias dX3_lookAtCow_47 ?_
  refine Mh_sub (lv' := [(0, .ref l0), (1, .ref l1)]) [0, 1] rfl ?_
  exact t_X3_lookAtCow_48 l E c0 s0 _ _ _ _
def f_X3_lookAtCow_0 (l0 : Nat) (l1 : Nat) (l2 : Nat) (m : Mm) (o : Prop) : Unit × Mm × Prop := f_X3_lookAtCow_16 l0 l1 l2 (sI m (gR m l0 6) (ix (6 : Int32)) (gI m (gR m l1 5) (ix (gI m l2 2)))) (((((o ∧ (gT m l0 = 4 ∧ gR m l0 6 ≠ 0)) ∧ (gT m l1 = 2 ∧ gR m l1 5 ≠ 0)) ∧ gT m l2 = 8) ∧ (gT m (gR m l1 5) = 20 ∧ vp_in (gI m l2 2) (gN m (gR m l1 5)))) ∧ (gT m (gR m l0 6) = 20 ∧ vp_in (6 : Int32) (gN m (gR m l0 6))))
set_option maxRecDepth 10000 in
theorem t_X3_lookAtCow_0 (l : Launch) (E : En) (c0 s0 : Nat) (l0 : Nat) (l1 : Nat) (l2 : Nat) (m : Mm) (o : Prop) : Mh wU l E mi_X3_lookAtCow c0 s0 0 [(0, .ref l0), (1, .ref l1), (2, .ref l2)] [] m o (f_X3_lookAtCow_0 l0 l1 l2 m o) := by
  refine Mh_aload_n 0 rfl dX3_lookAtCow_0 ?_
  refine Mh_gR fd_3_6 fl_RX3_28 dX3_lookAtCow_1 ?_
  refine Mh_bipush (v := 6) dX3_lookAtCow_4 (by decide) ?_
  refine Mh_aload_n 1 rfl dX3_lookAtCow_6 ?_
  refine Mh_gR fd_1_5 fl_RX3_95 dX3_lookAtCow_7 ?_
  refine Mh_aload_n 2 rfl dX3_lookAtCow_10 ?_
  refine Mh_gI fd_7_2 fl_RX3_88 dX3_lookAtCow_11 ?_
  refine Mh_ial dX3_lookAtCow_14 ?_
  refine Mh_ias dX3_lookAtCow_15 ?_
  exact t_X3_lookAtCow_16 l E c0 s0 _ _ _ _ _
def F_X3_lookAtCow (a0 : Nat) (a1 : Nat) (a2 : Nat) (m : Mm) (o : Prop) : Unit × Mm × Prop := f_X3_lookAtCow_0 a0 a1 a2 m o
theorem T_X3_lookAtCow (l : Launch) (E : En) (a0 : Nat) (a1 : Nat) (a2 : Nat) (m : Mm) (o : Prop) : Mt wU l E yX3_lookAtCow mi_X3_lookAtCow [.ref a0, .ref a1, .ref a2] m o (F_X3_lookAtCow a0 a1 a2 m o) :=
  Mt_U (by decide) rfl (fun h => by cases h) rfl (Nat.le_of_ble_eq_true rfl) rfl (t_X3_lookAtCow_0 l E _ _ _ _ _ _ _)
def f_X5_isSalted_24 (y0 : Int32) (m : Mm) (o : Prop) : Int32 × Mm × Prop := (y0, m, o ∧ (y0 = 0 ∨ y0 = 1))
set_option maxRecDepth 10000 in
theorem t_X5_isSalted_24 (l : Launch) (E : En) (c0 s0 : Nat) (y0 : Int32) (m : Mm) (o : Prop) : Mh wI l E mi_X5_isSalted c0 s0 24 [] [.int y0] m o (f_X5_isSalted_24 y0 m o) := by
  exact Mh_retZ dX5_isSalted_24 (.inl rfl) rfl
def f_X5_isSalted_23 (m : Mm) (o : Prop) : Int32 × Mm × Prop := f_X5_isSalted_24 (0 : Int32) m o
set_option maxRecDepth 10000 in
theorem t_X5_isSalted_23 (l : Launch) (E : En) (c0 s0 : Nat) (m : Mm) (o : Prop) : Mh wI l E mi_X5_isSalted c0 s0 23 [] [] m o (f_X5_isSalted_23  m o) := by
  refine Mh_iconst (v := 0) dX5_isSalted_23 (by decide) ?_
  exact t_X5_isSalted_24 l E c0 s0 _ _ _
def f_X5_isSalted_0 (l0 : Nat) (l1 : Int32) (m : Mm) (o : Prop) : Int32 × Mm × Prop := if l1 = (gI m l0 8) then (if (gI m l0 10) < (gI m l0 9) then (f_X5_isSalted_23  m (o ∧ gT m l0 = 6)) else (f_X5_isSalted_24 (1 : Int32) m (o ∧ gT m l0 = 6))) else (f_X5_isSalted_23  m (o ∧ gT m l0 = 6))
set_option maxRecDepth 10000 in
theorem t_X5_isSalted_0 (l : Launch) (E : En) (c0 s0 : Nat) (l0 : Nat) (l1 : Int32) (m : Mm) (o : Prop) : Mh wI l E mi_X5_isSalted c0 s0 0 [(0, .ref l0), (1, .int l1)] [] m o (f_X5_isSalted_0 l0 l1 m o) := by
  refine Mh_iload_n 1 rfl dX5_isSalted_0 ?_
  refine Mh_aload_n 0 rfl dX5_isSalted_1 ?_
  refine Mh_gI fd_5_8 fl_RX5_36 dX5_isSalted_2 ?_
  refine Mh_icmp_ne (tgt := 23) dX5_isSalted_5 (by decide) rfl (fun _ => ?_) (fun _ => ?_)
  · refine Mh_sub (lv' := []) [] rfl ?_
    exact t_X5_isSalted_23 l E c0 s0  _ _
  · refine Mh_aload_n 0 rfl dX5_isSalted_8 ?_
    refine Mh_gI fd_5_10 fl_RX5_54 dX5_isSalted_9 ?_
    refine Mh_ok (fun h => h.2) ?_
    refine Mh_aload_n 0 rfl dX5_isSalted_12 ?_
    refine Mh_gI fd_5_9 fl_RX5_40 dX5_isSalted_13 ?_
    refine Mh_ok (fun h => h.2) ?_
    refine Mh_icmp_lt (tgt := 23) dX5_isSalted_16 (by decide) rfl (fun _ => ?_) (fun _ => ?_)
    · refine Mh_sub (lv' := []) [] rfl ?_
      exact t_X5_isSalted_23 l E c0 s0  _ _
    · refine Mh_iconst (v := 1) dX5_isSalted_19 (by decide) ?_
      refine Mh_goto (tgt := 24) dX5_isSalted_20 (by decide) ?_
      refine Mh_sub (lv' := []) [] rfl ?_
      exact t_X5_isSalted_24 l E c0 s0 _ _ _
def F_X5_isSalted (a0 : Nat) (a1 : Int32) (m : Mm) (o : Prop) : Int32 × Mm × Prop := f_X5_isSalted_0 a0 a1 m o
theorem T_X5_isSalted (l : Launch) (E : En) (a0 : Nat) (a1 : Int32) (m : Mm) (o : Prop) : Mt wI l E yX5_isSalted mi_X5_isSalted [.ref a0, .int a1] m o (F_X5_isSalted a0 a1 m o) :=
  Mt_I (by decide) rfl rfl rfl (Nat.le_of_ble_eq_true rfl) rfl (.inr (.inl rfl)) (t_X5_isSalted_0 l E _ _ _ _ _ _)
def f_X3_lookAtStack_76 (m : Mm) (o : Prop) : Unit × Mm × Prop := ((), m, o)
set_option maxRecDepth 10000 in
theorem t_X3_lookAtStack_76 (l : Launch) (E : En) (c0 s0 : Nat) (m : Mm) (o : Prop) : Mh wU l E mi_X3_lookAtStack c0 s0 76 [] [] m o (f_X3_lookAtStack_76  m o) := by
  exact Mh_ret dX3_lookAtStack_76 rfl (fun _ => trivial) rfl
def f_X3_lookAtStack_75 (y2 : Int32) (y1 : Int32) (y0 : Nat) (m : Mm) (o : Prop) : Unit × Mm × Prop := f_X3_lookAtStack_76  (sI m y0 (ix y1) y2) (o ∧ (gT m y0 = 20 ∧ vp_in y1 (gN m y0)))
set_option maxRecDepth 10000 in
theorem t_X3_lookAtStack_75 (l : Launch) (E : En) (c0 s0 : Nat) (y2 : Int32) (y1 : Int32) (y0 : Nat) (m : Mm) (o : Prop) : Mh wU l E mi_X3_lookAtStack c0 s0 75 [] [.int y2, .int y1, .ref y0] m o (f_X3_lookAtStack_75 y2 y1 y0 m o) := by
  refine Mh_ias dX3_lookAtStack_75 ?_
  exact t_X3_lookAtStack_76 l E c0 s0  _ _
def f_X3_lookAtStack_67 (y2 : Int32) (y1 : Int32) (y0 : Nat) (m : Mm) (o : Prop) : Unit × Mm × Prop := if y2 = 0 then (f_X3_lookAtStack_75 (0 : Int32) y1 y0 m o) else (f_X3_lookAtStack_75 (1 : Int32) y1 y0 m o)
set_option maxRecDepth 10000 in
theorem t_X3_lookAtStack_67 (l : Launch) (E : En) (c0 s0 : Nat) (y2 : Int32) (y1 : Int32) (y0 : Nat) (m : Mm) (o : Prop) : Mh wU l E mi_X3_lookAtStack c0 s0 67 [] [.int y2, .int y1, .ref y0] m o (f_X3_lookAtStack_67 y2 y1 y0 m o) := by
  refine Mh_if_eq (tgt := 74) dX3_lookAtStack_67 (by decide) rfl (fun _ => ?_) (fun _ => ?_)
  · refine Mh_iconst (v := 0) dX3_lookAtStack_74 (by decide) ?_
    exact t_X3_lookAtStack_75 l E c0 s0 _ _ _ _ _
  · refine Mh_iconst (v := 1) dX3_lookAtStack_70 (by decide) ?_
    refine Mh_goto (tgt := 75) dX3_lookAtStack_71 (by decide) ?_
    exact t_X3_lookAtStack_75 l E c0 s0 _ _ _ _ _
def f_X3_lookAtStack_57 (l0 : Nat) (l1 : Nat) (l2 : Int32) (m : Mm) (o : Prop) : Unit × Mm × Prop := bnd (F_X5_isSalted l1 l2 m ((o ∧ (gT m l0 = 4 ∧ gR m l0 6 ≠ 0)) ∧ gT m l1 = 6)) (fun v1 m1 o1 => f_X3_lookAtStack_67 v1 (5 : Int32) (gR m l0 6) m1 o1)
set_option maxRecDepth 10000 in
theorem t_X3_lookAtStack_57 (l : Launch) (E : En) (c0 s0 : Nat) (l0 : Nat) (l1 : Nat) (l2 : Int32) (m : Mm) (o : Prop) : Mh wU l E mi_X3_lookAtStack c0 s0 57 [(0, .ref l0), (1, .ref l1), (2, .int l2)] [] m o (f_X3_lookAtStack_57 l0 l1 l2 m o) := by
  refine Mh_aload_n 0 rfl dX3_lookAtStack_57 ?_
  refine Mh_gR fd_3_6 fl_RX3_28 dX3_lookAtStack_58 ?_
  refine Mh_iconst (v := 5) dX3_lookAtStack_61 (by decide) ?_
  refine Mh_aload_n 1 rfl dX3_lookAtStack_62 ?_
  refine Mh_iload_n 2 rfl dX3_lookAtStack_63 ?_
  refine Mh_cvI (N := mi_X5_isSalted) (q := l1) (ci := 5) (as := [.int l2]) (st := [.int (5 : Int32), .ref (gR m l0 6)]) (id) cg_yX5_isSalted (by decide) rfl rfl ml_RX3_91 iv_yX5_isSalted pd_yX5_isSalted rfl (by decide) (Nat.le_of_ble_eq_true rfl) rfl dX3_lookAtStack_64 (T_X5_isSalted l E _ _ _ _) rfl ?_
  refine Mh_sub (lv' := []) [] rfl ?_
  exact t_X3_lookAtStack_67 l E c0 s0 _ _ _ _ _
def f_X3_lookAtStack_47 (l0 : Nat) (l1 : Nat) (l2 : Int32) (l3 : Nat) (m : Mm) (o : Prop) : Unit × Mm × Prop := f_X3_lookAtStack_57 l0 l1 l2 (sI m (gR m l0 6) (ix (4 : Int32)) (gI m l3 2)) (((o ∧ (gT m l0 = 4 ∧ gR m l0 6 ≠ 0)) ∧ gT m l3 = 8) ∧ (gT m (gR m l0 6) = 20 ∧ vp_in (4 : Int32) (gN m (gR m l0 6))))
set_option maxRecDepth 10000 in
theorem t_X3_lookAtStack_47 (l : Launch) (E : En) (c0 s0 : Nat) (l0 : Nat) (l1 : Nat) (l2 : Int32) (l3 : Nat) (m : Mm) (o : Prop) : Mh wU l E mi_X3_lookAtStack c0 s0 47 [(0, .ref l0), (1, .ref l1), (2, .int l2), (3, .ref l3)] [] m o (f_X3_lookAtStack_47 l0 l1 l2 l3 m o) := by
  refine Mh_aload_n 0 rfl dX3_lookAtStack_47 ?_
  refine Mh_gR fd_3_6 fl_RX3_28 dX3_lookAtStack_48 ?_
  refine Mh_iconst (v := 4) dX3_lookAtStack_51 (by decide) ?_
  refine Mh_aload_n 3 rfl dX3_lookAtStack_52 ?_
  refine Mh_gI fd_7_2 fl_RX3_88 dX3_lookAtStack_53 ?_
  refine Mh_ias dX3_lookAtStack_56 ?_
  refine Mh_sub (lv' := [(0, .ref l0), (1, .ref l1), (2, .int l2)]) [0, 1, 2] rfl ?_
  exact t_X3_lookAtStack_57 l E c0 s0 _ _ _ _ _
def f_X3_lookAtStack_37 (l0 : Nat) (l1 : Nat) (l2 : Int32) (l3 : Nat) (m : Mm) (o : Prop) : Unit × Mm × Prop := f_X3_lookAtStack_47 l0 l1 l2 l3 (sI m (gR m l0 6) (ix (3 : Int32)) (gI m l3 6)) (((o ∧ (gT m l0 = 4 ∧ gR m l0 6 ≠ 0)) ∧ gT m l3 = 8) ∧ (gT m (gR m l0 6) = 20 ∧ vp_in (3 : Int32) (gN m (gR m l0 6))))
set_option maxRecDepth 10000 in
theorem t_X3_lookAtStack_37 (l : Launch) (E : En) (c0 s0 : Nat) (l0 : Nat) (l1 : Nat) (l2 : Int32) (l3 : Nat) (m : Mm) (o : Prop) : Mh wU l E mi_X3_lookAtStack c0 s0 37 [(0, .ref l0), (1, .ref l1), (2, .int l2), (3, .ref l3)] [] m o (f_X3_lookAtStack_37 l0 l1 l2 l3 m o) := by
  refine Mh_aload_n 0 rfl dX3_lookAtStack_37 ?_
  refine Mh_gR fd_3_6 fl_RX3_28 dX3_lookAtStack_38 ?_
  refine Mh_iconst (v := 3) dX3_lookAtStack_41 (by decide) ?_
  refine Mh_aload_n 3 rfl dX3_lookAtStack_42 ?_
  refine Mh_gI fd_7_6 fl_RX3_49 dX3_lookAtStack_43 ?_
  refine Mh_ias dX3_lookAtStack_46 ?_
  exact t_X3_lookAtStack_47 l E c0 s0 _ _ _ _ _ _
def f_X3_lookAtStack_27 (l0 : Nat) (l1 : Nat) (l2 : Int32) (l3 : Nat) (m : Mm) (o : Prop) : Unit × Mm × Prop := f_X3_lookAtStack_37 l0 l1 l2 l3 (sI m (gR m l0 6) (ix (2 : Int32)) (gI m l3 5)) (((o ∧ (gT m l0 = 4 ∧ gR m l0 6 ≠ 0)) ∧ gT m l3 = 8) ∧ (gT m (gR m l0 6) = 20 ∧ vp_in (2 : Int32) (gN m (gR m l0 6))))
set_option maxRecDepth 10000 in
theorem t_X3_lookAtStack_27 (l : Launch) (E : En) (c0 s0 : Nat) (l0 : Nat) (l1 : Nat) (l2 : Int32) (l3 : Nat) (m : Mm) (o : Prop) : Mh wU l E mi_X3_lookAtStack c0 s0 27 [(0, .ref l0), (1, .ref l1), (2, .int l2), (3, .ref l3)] [] m o (f_X3_lookAtStack_27 l0 l1 l2 l3 m o) := by
  refine Mh_aload_n 0 rfl dX3_lookAtStack_27 ?_
  refine Mh_gR fd_3_6 fl_RX3_28 dX3_lookAtStack_28 ?_
  refine Mh_iconst (v := 2) dX3_lookAtStack_31 (by decide) ?_
  refine Mh_aload_n 3 rfl dX3_lookAtStack_32 ?_
  refine Mh_gI fd_7_5 fl_RX3_85 dX3_lookAtStack_33 ?_
  refine Mh_ias dX3_lookAtStack_36 ?_
  exact t_X3_lookAtStack_37 l E c0 s0 _ _ _ _ _ _
def f_X3_lookAtStack_17 (l0 : Nat) (l1 : Nat) (l2 : Int32) (l3 : Nat) (m : Mm) (o : Prop) : Unit × Mm × Prop := f_X3_lookAtStack_27 l0 l1 l2 l3 (sI m (gR m l0 6) (ix (1 : Int32)) (gI m l3 4)) (((o ∧ (gT m l0 = 4 ∧ gR m l0 6 ≠ 0)) ∧ gT m l3 = 8) ∧ (gT m (gR m l0 6) = 20 ∧ vp_in (1 : Int32) (gN m (gR m l0 6))))
set_option maxRecDepth 10000 in
theorem t_X3_lookAtStack_17 (l : Launch) (E : En) (c0 s0 : Nat) (l0 : Nat) (l1 : Nat) (l2 : Int32) (l3 : Nat) (m : Mm) (o : Prop) : Mh wU l E mi_X3_lookAtStack c0 s0 17 [(0, .ref l0), (1, .ref l1), (2, .int l2), (3, .ref l3)] [] m o (f_X3_lookAtStack_17 l0 l1 l2 l3 m o) := by
  refine Mh_aload_n 0 rfl dX3_lookAtStack_17 ?_
  refine Mh_gR fd_3_6 fl_RX3_28 dX3_lookAtStack_18 ?_
  refine Mh_iconst (v := 1) dX3_lookAtStack_21 (by decide) ?_
  refine Mh_aload_n 3 rfl dX3_lookAtStack_22 ?_
  refine Mh_gI fd_7_4 fl_RX3_52 dX3_lookAtStack_23 ?_
  refine Mh_ias dX3_lookAtStack_26 ?_
  exact t_X3_lookAtStack_27 l E c0 s0 _ _ _ _ _ _
def f_X3_lookAtStack_0 (l0 : Nat) (l1 : Nat) (l2 : Int32) (m : Mm) (o : Prop) : Unit × Mm × Prop := f_X3_lookAtStack_17 l0 l1 l2 (gR m (gR m l1 0) (ix l2)) (sI m (gR m l0 6) (ix (0 : Int32)) (gI m (gR m (gR m l1 0) (ix l2)) 3)) (((((o ∧ (gT m l1 = 6 ∧ gR m l1 0 ≠ 0)) ∧ (gT m (gR m l1 0) = 24 ∧ vp_in l2 (gN m (gR m l1 0)) ∧ gR m (gR m l1 0) (ix l2) ≠ 0)) ∧ (gT m l0 = 4 ∧ gR m l0 6 ≠ 0)) ∧ gT m (gR m (gR m l1 0) (ix l2)) = 8) ∧ (gT m (gR m l0 6) = 20 ∧ vp_in (0 : Int32) (gN m (gR m l0 6))))
set_option maxRecDepth 10000 in
theorem t_X3_lookAtStack_0 (l : Launch) (E : En) (c0 s0 : Nat) (l0 : Nat) (l1 : Nat) (l2 : Int32) (m : Mm) (o : Prop) : Mh wU l E mi_X3_lookAtStack c0 s0 0 [(0, .ref l0), (1, .ref l1), (2, .int l2)] [] m o (f_X3_lookAtStack_0 l0 l1 l2 m o) := by
  refine Mh_aload_n 1 rfl dX3_lookAtStack_0 ?_
  refine Mh_gR fd_5_0 fl_RX3_65 dX3_lookAtStack_1 ?_
  refine Mh_iload_n 2 rfl dX3_lookAtStack_4 ?_
  refine Mh_aal 24 (.inl rfl) dX3_lookAtStack_5 ?_
  refine Mh_astore_n (lv' := [(3, .ref (gR m (gR m l1 0) (ix l2))), (0, .ref l0), (1, .ref l1), (2, .int l2)]) dX3_lookAtStack_6 (Nat.le_of_ble_eq_true rfl) rfl ?_
  refine Mh_aload_n 1 rfl dX3_lookAtStack_7 ?_
  refine Mh_gR fd_3_6 fl_RX3_28 dX3_lookAtStack_8 ?_
  refine Mh_iconst (v := 0) dX3_lookAtStack_11 (by decide) ?_
  refine Mh_aload_n 0 rfl dX3_lookAtStack_12 ?_
  refine Mh_gI fd_7_3 fl_RX3_44 dX3_lookAtStack_13 ?_
  refine Mh_ias dX3_lookAtStack_16 ?_
  refine Mh_sub (lv' := [(0, .ref l0), (1, .ref l1), (2, .int l2), (3, .ref (gR m (gR m l1 0) (ix l2)))]) [1, 2, 3, 0] rfl ?_
  exact t_X3_lookAtStack_17 l E c0 s0 _ _ _ _ _ _
def F_X3_lookAtStack (a0 : Nat) (a1 : Nat) (a2 : Int32) (m : Mm) (o : Prop) : Unit × Mm × Prop := f_X3_lookAtStack_0 a0 a1 a2 m o
theorem T_X3_lookAtStack (l : Launch) (E : En) (a0 : Nat) (a1 : Nat) (a2 : Int32) (m : Mm) (o : Prop) : Mt wU l E yX3_lookAtStack mi_X3_lookAtStack [.ref a0, .ref a1, .int a2] m o (F_X3_lookAtStack a0 a1 a2 m o) :=
  Mt_U (by decide) rfl (fun h => by cases h) rfl (Nat.le_of_ble_eq_true rfl) rfl (t_X3_lookAtStack_0 l E _ _ _ _ _ _ _)
def f_X3_wouldEat_93 (k36 : Nat → Int32 → Int32 → Mm → Prop → Int32 × Mm × Prop) (l0 : Nat) (l4 : Int32) (l5 : Int32) (m : Mm) (o : Prop) : Int32 × Mm × Prop := k36 l0 l4 (l5 + 1) m o
set_option maxRecDepth 10000 in
theorem t_X3_wouldEat_93 (l : Launch) (E : En) (c0 s0 : Nat) (k36 : Nat → Int32 → Int32 → Mm → Prop → Int32 × Mm × Prop) (hk36 : ∀ (l0 : Nat) (l4 : Int32) (l5 : Int32) (m : Mm) (o : Prop), Mh wI l E mi_X3_wouldEat c0 s0 36 [(0, .ref l0), (4, .int l4), (5, .int l5)] [] m o (k36 l0 l4 l5 m o)) (l0 : Nat) (l4 : Int32) (l5 : Int32) (m : Mm) (o : Prop) : Mh wI l E mi_X3_wouldEat c0 s0 93 [(0, .ref l0), (4, .int l4), (5, .int l5)] [] m o (f_X3_wouldEat_93 k36 l0 l4 l5 m o) := by
  refine Mh_iinc (v := l5 + 1) (lv' := [(5, .int (l5 + 1)), (0, .ref l0), (4, .int l4)]) 2 dX3_wouldEat_93 rfl rfl (Nat.le_of_ble_eq_true rfl) rfl ?_
  refine Mh_goto (tgt := 36) dX3_wouldEat_96 (by decide) ?_
  refine Mh_sub (lv' := [(0, .ref l0), (4, .int l4), (5, .int (l5 + 1))]) [1, 2, 0] rfl ?_
  exact hk36 _ _ _ _ _
def f_X3_wouldEat_80 (k36 : Nat → Int32 → Int32 → Mm → Prop → Int32 × Mm × Prop) (l0 : Nat) (l4 : Int32) (l5 : Int32) (y0 : Int32) (m : Mm) (o : Prop) : Int32 × Mm × Prop := if y0 = 0 then (f_X3_wouldEat_93 k36 l0 l4 l5 m o) else (if (gI m l0 11) = 0 then (f_X3_wouldEat_93 k36 l0 l4 l5 m (o ∧ gT m l0 = 4)) else (f_X3_wouldEat_93 k36 l0 (0 : Int32) l5 m (o ∧ gT m l0 = 4)))
set_option maxRecDepth 10000 in
theorem t_X3_wouldEat_80 (l : Launch) (E : En) (c0 s0 : Nat) (k36 : Nat → Int32 → Int32 → Mm → Prop → Int32 × Mm × Prop) (hk36 : ∀ (l0 : Nat) (l4 : Int32) (l5 : Int32) (m : Mm) (o : Prop), Mh wI l E mi_X3_wouldEat c0 s0 36 [(0, .ref l0), (4, .int l4), (5, .int l5)] [] m o (k36 l0 l4 l5 m o)) (l0 : Nat) (l4 : Int32) (l5 : Int32) (y0 : Int32) (m : Mm) (o : Prop) : Mh wI l E mi_X3_wouldEat c0 s0 80 [(0, .ref l0), (4, .int l4), (5, .int l5)] [.int y0] m o (f_X3_wouldEat_80 k36 l0 l4 l5 y0 m o) := by
  refine Mh_if_eq (tgt := 93) dX3_wouldEat_80 (by decide) rfl (fun _ => ?_) (fun _ => ?_)
  · exact t_X3_wouldEat_93 l E c0 s0 k36 hk36 _ _ _ _ _
  · refine Mh_aload_n 0 rfl dX3_wouldEat_83 ?_
    refine Mh_gI fd_3_11 fl_RX3_81 dX3_wouldEat_84 ?_
    refine Mh_if_eq (tgt := 93) dX3_wouldEat_87 (by decide) rfl (fun _ => ?_) (fun _ => ?_)
    · exact t_X3_wouldEat_93 l E c0 s0 k36 hk36 _ _ _ _ _
    · refine Mh_iconst (v := 0) dX3_wouldEat_90 (by decide) ?_
      refine Mh_istore (lv' := [(4, .int (0 : Int32)), (0, .ref l0), (5, .int l5)]) dX3_wouldEat_91 (Nat.le_of_ble_eq_true rfl) rfl ?_
      refine Mh_sub (lv' := [(0, .ref l0), (4, .int (0 : Int32)), (5, .int l5)]) [1, 0, 2] rfl ?_
      exact t_X3_wouldEat_93 l E c0 s0 k36 hk36 _ _ _ _ _
def f_X3_wouldEat_99 (l4 : Int32) (m : Mm) (o : Prop) : Int32 × Mm × Prop := (l4, m, o)
set_option maxRecDepth 10000 in
theorem t_X3_wouldEat_99 (l : Launch) (E : En) (c0 s0 : Nat) (l4 : Int32) (m : Mm) (o : Prop) : Mh wI l E mi_X3_wouldEat c0 s0 99 [(4, .int l4)] [] m o (f_X3_wouldEat_99 l4 m o) := by
  refine Mh_iload 0 rfl dX3_wouldEat_99 ?_
  exact Mh_ret dX3_wouldEat_101 rfl (fun _ => rfl) rfl
def f_X3_wouldEat_36b (k36 : Nat → Int32 → Int32 → Mm → Prop → Int32 × Mm × Prop) (l0 : Nat) (l4 : Int32) (l5 : Int32) (m : Mm) (o : Prop) : Int32 × Mm × Prop := if (gI m l0 10) ≤ l5 then (f_X3_wouldEat_99 l4 m (o ∧ gT m l0 = 4)) else (if l4 ≤ 0 then (f_X3_wouldEat_99 l4 m (o ∧ gT m l0 = 4)) else (if (gI m (gR m l0 2) (ix l5)) = (110 : Int32) then (bnd (F_X3_reckon l0 (gI m (gR m l0 4) (ix l5)) (gI m (gR m l0 5) (ix l5)) m (((((((o ∧ gT m l0 = 4) ∧ (gT m l0 = 4 ∧ gR m l0 2 ≠ 0)) ∧ (gT m (gR m l0 2) = 20 ∧ vp_in l5 (gN m (gR m l0 2)))) ∧ (gT m l0 = 4 ∧ gR m l0 4 ≠ 0)) ∧ (gT m (gR m l0 4) = 20 ∧ vp_in l5 (gN m (gR m l0 4)))) ∧ (gT m l0 = 4 ∧ gR m l0 5 ≠ 0)) ∧ (gT m (gR m l0 5) = 20 ∧ vp_in l5 (gN m (gR m l0 5))))) (fun v1 m1 o1 => f_X3_wouldEat_80 k36 l0 l4 l5 v1 m1 o1)) else (f_X3_wouldEat_93 k36 l0 l4 l5 m (((o ∧ gT m l0 = 4) ∧ (gT m l0 = 4 ∧ gR m l0 2 ≠ 0)) ∧ (gT m (gR m l0 2) = 20 ∧ vp_in l5 (gN m (gR m l0 2)))))))
set_option maxRecDepth 10000 in
theorem t_X3_wouldEat_36b (l : Launch) (E : En) (c0 s0 : Nat) (k36 : Nat → Int32 → Int32 → Mm → Prop → Int32 × Mm × Prop) (hk36 : ∀ (l0 : Nat) (l4 : Int32) (l5 : Int32) (m : Mm) (o : Prop), Mh wI l E mi_X3_wouldEat c0 s0 36 [(0, .ref l0), (4, .int l4), (5, .int l5)] [] m o (k36 l0 l4 l5 m o)) (l0 : Nat) (l4 : Int32) (l5 : Int32) (m : Mm) (o : Prop) : Mh wI l E mi_X3_wouldEat c0 s0 36 [(0, .ref l0), (4, .int l4), (5, .int l5)] [] m o (f_X3_wouldEat_36b k36 l0 l4 l5 m o) := by
  refine Mh_iload 2 rfl dX3_wouldEat_36 ?_
  refine Mh_aload_n 0 rfl dX3_wouldEat_38 ?_
  refine Mh_gI fd_3_10 fl_RX3_41 dX3_wouldEat_39 ?_
  refine Mh_icmp_ge (tgt := 99) dX3_wouldEat_42 (by decide) rfl (fun _ => ?_) (fun _ => ?_)
  · refine Mh_sub (lv' := [(4, .int l4)]) [1] rfl ?_
    exact t_X3_wouldEat_99 l E c0 s0 _ _ _
  · refine Mh_iload 1 rfl dX3_wouldEat_45 ?_
    refine Mh_if_le (tgt := 99) dX3_wouldEat_47 (by decide) rfl (fun _ => ?_) (fun _ => ?_)
    · refine Mh_sub (lv' := [(4, .int l4)]) [1] rfl ?_
      exact t_X3_wouldEat_99 l E c0 s0 _ _ _
    · refine Mh_aload_n 0 rfl dX3_wouldEat_50 ?_
      refine Mh_gR fd_3_2 fl_RX3_16 dX3_wouldEat_51 ?_
      refine Mh_iload 2 rfl dX3_wouldEat_54 ?_
      refine Mh_ial dX3_wouldEat_56 ?_
      refine Mh_bipush (v := 110) dX3_wouldEat_57 (by decide) ?_
      refine Mh_icmp_ne (tgt := 93) dX3_wouldEat_59 (by decide) rfl (fun _ => ?_) (fun _ => ?_)
      · exact t_X3_wouldEat_93 l E c0 s0 k36 hk36 _ _ _ _ _
      · refine Mh_aload_n 0 rfl dX3_wouldEat_62 ?_
        refine Mh_aload_n 0 rfl dX3_wouldEat_63 ?_
        refine Mh_gR fd_3_4 fl_RX3_22 dX3_wouldEat_64 ?_
        refine Mh_iload 2 rfl dX3_wouldEat_67 ?_
        refine Mh_ial dX3_wouldEat_69 ?_
        refine Mh_aload_n 0 rfl dX3_wouldEat_70 ?_
        refine Mh_gR fd_3_5 fl_RX3_25 dX3_wouldEat_71 ?_
        refine Mh_iload 2 rfl dX3_wouldEat_74 ?_
        refine Mh_ial dX3_wouldEat_76 ?_
        refine Mh_cvI (N := mi_X3_reckon) (q := l0) (ci := 3) (as := [.int (gI m (gR m l0 4) (ix l5)), .int (gI m (gR m l0 5) (ix l5))]) (st := []) (fun h => ⟨h, (fun h => h.1.1.1.1.1.1.2) h⟩) cg_yX3_reckon (by decide) rfl rfl ml_RX3_77 iv_yX3_reckon pd_yX3_reckon rfl (by decide) (Nat.le_of_ble_eq_true rfl) rfl dX3_wouldEat_77 (T_X3_reckon l E _ _ _ _ _) rfl ?_
        exact t_X3_wouldEat_80 l E c0 s0 k36 hk36 _ _ _ _ _ _
def f_X3_wouldEat_36 : Nat → Nat → Int32 → Int32 → Mm → Prop → Int32 × Mm × Prop
  | 0, _, _, _, m, _ => (0, m, False)
  | n + 1, l0, l4, l5, m, o => f_X3_wouldEat_36b (f_X3_wouldEat_36 n) l0 l4 l5 m o
theorem t_X3_wouldEat_36 (l : Launch) (E : En) (c0 s0 : Nat) : ∀ (n : Nat) (l0 : Nat) (l4 : Int32) (l5 : Int32) (m : Mm) (o : Prop), Mh wI l E mi_X3_wouldEat c0 s0 36 [(0, .ref l0), (4, .int l4), (5, .int l5)] [] m o (f_X3_wouldEat_36 n l0 l4 l5 m o)
  | 0, _, _, _, _, _ => Mh_out rfl
  | n + 1, l0, l4, l5, m, o => t_X3_wouldEat_36b l E c0 s0 (f_X3_wouldEat_36 n) (t_X3_wouldEat_36 l E c0 s0 n) l0 l4 l5 m o
def f_X3_wouldEat_31 (l0 : Nat) (y0 : Int32) (m : Mm) (o : Prop) : Int32 × Mm × Prop := f_X3_wouldEat_36 1000 l0 y0 (0 : Int32) m o
set_option maxRecDepth 10000 in
theorem t_X3_wouldEat_31 (l : Launch) (E : En) (c0 s0 : Nat) (l0 : Nat) (y0 : Int32) (m : Mm) (o : Prop) : Mh wI l E mi_X3_wouldEat c0 s0 31 [(0, .ref l0)] [.int y0] m o (f_X3_wouldEat_31 l0 y0 m o) := by
  refine Mh_istore (lv' := [(4, .int y0), (0, .ref l0)]) dX3_wouldEat_31 (Nat.le_of_ble_eq_true rfl) rfl ?_
  refine Mh_iconst (v := 0) dX3_wouldEat_33 (by decide) ?_
  refine Mh_istore (lv' := [(5, .int (0 : Int32)), (4, .int y0), (0, .ref l0)]) dX3_wouldEat_34 (Nat.le_of_ble_eq_true rfl) rfl ?_
  refine Mh_sub (lv' := [(0, .ref l0), (4, .int y0), (5, .int (0 : Int32))]) [2, 1, 0] rfl ?_
  exact t_X3_wouldEat_36 l E c0 s0 _ _ _ _ _ _
def f_X3_wouldEat_22 (l0 : Nat) (m : Mm) (o : Prop) : Int32 × Mm × Prop := bnd (F_X3_firstValue l0 (101 : Int32) (999 : Int32) m (o ∧ gT m l0 = 4)) (fun v1 m1 o1 => f_X3_wouldEat_31 l0 v1 m1 o1)
set_option maxRecDepth 10000 in
theorem t_X3_wouldEat_22 (l : Launch) (E : En) (c0 s0 : Nat) (l0 : Nat) (m : Mm) (o : Prop) : Mh wI l E mi_X3_wouldEat c0 s0 22 [(0, .ref l0)] [] m o (f_X3_wouldEat_22 l0 m o) := by
  refine Mh_aload_n 0 rfl dX3_wouldEat_22 ?_
  refine Mh_bipush (v := 101) dX3_wouldEat_23 (by decide) ?_
  refine Mh_sipush (v := 999) dX3_wouldEat_25 (by decide) ?_
  refine Mh_cvI (N := mi_X3_firstValue) (q := l0) (ci := 3) (as := [.int (101 : Int32), .int (999 : Int32)]) (st := []) (id) cg_yX3_firstValue (by decide) rfl rfl ml_RX3_73 iv_yX3_firstValue pd_yX3_firstValue rfl (by decide) (Nat.le_of_ble_eq_true rfl) rfl dX3_wouldEat_28 (T_X3_firstValue l E _ _ _ _ _) rfl ?_
  exact t_X3_wouldEat_31 l E c0 s0 _ _ _ _
def f_X3_wouldEat_6 (l0 : Nat) (l1 : Nat) (l2 : Int32) (l3 : Int32) (m : Mm) (o : Prop) : Int32 × Mm × Prop := bnd (F_X3_lookAtCow l0 (gR m (gR m l1 1) (ix l2)) (gR m (gR m l1 0) (ix l3)) m (((((o ∧ (gT m l1 = 6 ∧ gR m l1 1 ≠ 0)) ∧ (gT m (gR m l1 1) = 25 ∧ vp_in l2 (gN m (gR m l1 1)) ∧ gR m (gR m l1 1) (ix l2) ≠ 0)) ∧ (gT m l1 = 6 ∧ gR m l1 0 ≠ 0)) ∧ (gT m (gR m l1 0) = 24 ∧ vp_in l3 (gN m (gR m l1 0)) ∧ gR m (gR m l1 0) (ix l3) ≠ 0)) ∧ gT m l0 = 4)) (fun _ m1 o1 => f_X3_wouldEat_22 l0 m1 o1)
set_option maxRecDepth 10000 in
theorem t_X3_wouldEat_6 (l : Launch) (E : En) (c0 s0 : Nat) (l0 : Nat) (l1 : Nat) (l2 : Int32) (l3 : Int32) (m : Mm) (o : Prop) : Mh wI l E mi_X3_wouldEat c0 s0 6 [(0, .ref l0), (1, .ref l1), (2, .int l2), (3, .int l3)] [] m o (f_X3_wouldEat_6 l0 l1 l2 l3 m o) := by
  refine Mh_aload_n 0 rfl dX3_wouldEat_6 ?_
  refine Mh_aload_n 1 rfl dX3_wouldEat_7 ?_
  refine Mh_gR fd_5_1 fl_RX3_59 dX3_wouldEat_8 ?_
  refine Mh_iload_n 2 rfl dX3_wouldEat_11 ?_
  refine Mh_aal 25 (.inr rfl) dX3_wouldEat_12 ?_
  refine Mh_aload_n 1 rfl dX3_wouldEat_13 ?_
  refine Mh_gR fd_5_0 fl_RX3_65 dX3_wouldEat_14 ?_
  refine Mh_iload_n 3 rfl dX3_wouldEat_17 ?_
  refine Mh_aal 24 (.inl rfl) dX3_wouldEat_18 ?_
  refine Mh_cvU (N := mi_X3_lookAtCow) (q := l0) (ci := 3) (as := [.ref (gR m (gR m l1 1) (ix l2)), .ref (gR m (gR m l1 0) (ix l3))]) (st := []) (id) cg_yX3_lookAtCow (by decide) rfl rfl ml_RX3_69 iv_yX3_lookAtCow pd_yX3_lookAtCow rfl (by decide) (Nat.le_of_ble_eq_true rfl) rfl dX3_wouldEat_19 (T_X3_lookAtCow l E _ _ _ _ _) rfl ?_
  refine Mh_sub (lv' := [(0, .ref l0)]) [0] rfl ?_
  exact t_X3_wouldEat_22 l E c0 s0 _ _ _
def f_X3_wouldEat_0 (l0 : Nat) (l1 : Nat) (l2 : Int32) (l3 : Int32) (m : Mm) (o : Prop) : Int32 × Mm × Prop := bnd (F_X3_lookAtStack l0 l1 l3 m (o ∧ gT m l0 = 4)) (fun _ m1 o1 => f_X3_wouldEat_6 l0 l1 l2 l3 m1 o1)
set_option maxRecDepth 10000 in
theorem t_X3_wouldEat_0 (l : Launch) (E : En) (c0 s0 : Nat) (l0 : Nat) (l1 : Nat) (l2 : Int32) (l3 : Int32) (m : Mm) (o : Prop) : Mh wI l E mi_X3_wouldEat c0 s0 0 [(0, .ref l0), (1, .ref l1), (2, .int l2), (3, .int l3)] [] m o (f_X3_wouldEat_0 l0 l1 l2 l3 m o) := by
  refine Mh_aload_n 0 rfl dX3_wouldEat_0 ?_
  refine Mh_aload_n 1 rfl dX3_wouldEat_1 ?_
  refine Mh_iload_n 3 rfl dX3_wouldEat_2 ?_
  refine Mh_cvU (N := mi_X3_lookAtStack) (q := l0) (ci := 3) (as := [.ref l1, .int l3]) (st := []) (id) cg_yX3_lookAtStack (by decide) rfl rfl ml_RX3_55 iv_yX3_lookAtStack pd_yX3_lookAtStack rfl (by decide) (Nat.le_of_ble_eq_true rfl) rfl dX3_wouldEat_3 (T_X3_lookAtStack l E _ _ _ _ _) rfl ?_
  exact t_X3_wouldEat_6 l E c0 s0 _ _ _ _ _ _
def F_X3_wouldEat (a0 : Nat) (a1 : Nat) (a2 : Int32) (a3 : Int32) (m : Mm) (o : Prop) : Int32 × Mm × Prop := f_X3_wouldEat_0 a0 a1 a2 a3 m o
theorem T_X3_wouldEat (l : Launch) (E : En) (a0 : Nat) (a1 : Nat) (a2 : Int32) (a3 : Int32) (m : Mm) (o : Prop) : Mt wI l E yX3_wouldEat mi_X3_wouldEat [.ref a0, .ref a1, .int a2, .int a3] m o (F_X3_wouldEat a0 a1 a2 a3 m o) :=
  Mt_I (by decide) rfl rfl rfl (Nat.le_of_ble_eq_true rfl) rfl (.inl rfl) (t_X3_wouldEat_0 l E _ _ _ _ _ _ _ _)
def f_X5_bestStack_142 (k8 : Nat → Nat → Int32 → Int32 → Int32 → Int32 → Mm → Prop → Int32 × Mm × Prop) (l0 : Nat) (l1 : Nat) (l2 : Int32) (l3 : Int32) (l4 : Int32) (l5 : Int32) (m : Mm) (o : Prop) : Int32 × Mm × Prop := k8 l0 l1 l2 l3 l4 (l5 + 1) m o
set_option maxRecDepth 10000 in
theorem t_X5_bestStack_142 (l : Launch) (E : En) (c0 s0 : Nat) (k8 : Nat → Nat → Int32 → Int32 → Int32 → Int32 → Mm → Prop → Int32 × Mm × Prop) (hk8 : ∀ (l0 : Nat) (l1 : Nat) (l2 : Int32) (l3 : Int32) (l4 : Int32) (l5 : Int32) (m : Mm) (o : Prop), Mh wI l E mi_X5_bestStack c0 s0 8 [(0, .ref l0), (1, .ref l1), (2, .int l2), (3, .int l3), (4, .int l4), (5, .int l5)] [] m o (k8 l0 l1 l2 l3 l4 l5 m o)) (l0 : Nat) (l1 : Nat) (l2 : Int32) (l3 : Int32) (l4 : Int32) (l5 : Int32) (m : Mm) (o : Prop) : Mh wI l E mi_X5_bestStack c0 s0 142 [(0, .ref l0), (1, .ref l1), (2, .int l2), (3, .int l3), (4, .int l4), (5, .int l5)] [] m o (f_X5_bestStack_142 k8 l0 l1 l2 l3 l4 l5 m o) := by
  refine Mh_iinc (v := l5 + 1) (lv' := [(5, .int (l5 + 1)), (0, .ref l0), (1, .ref l1), (2, .int l2), (3, .int l3), (4, .int l4)]) 5 dX5_bestStack_142 rfl rfl (Nat.le_of_ble_eq_true rfl) rfl ?_
  refine Mh_goto (tgt := 8) dX5_bestStack_145 (by decide) ?_
  refine Mh_sub (lv' := [(0, .ref l0), (1, .ref l1), (2, .int l2), (3, .int l3), (4, .int l4), (5, .int (l5 + 1))]) [1, 2, 3, 4, 5, 0] rfl ?_
  exact hk8 _ _ _ _ _ _ _ _
def f_X5_bestStack_118 (k8 : Nat → Nat → Int32 → Int32 → Int32 → Int32 → Mm → Prop → Int32 × Mm × Prop) (l0 : Nat) (l1 : Nat) (l2 : Int32) (l3 : Int32) (l4 : Int32) (l5 : Int32) (l6 : Int32) (m : Mm) (o : Prop) : Int32 × Mm × Prop := if (gI m (gR m l0 4) (ix l6)) ≤ l4 then (f_X5_bestStack_142 k8 l0 l1 l2 l3 l4 l5 m ((o ∧ (gT m l0 = 6 ∧ gR m l0 4 ≠ 0)) ∧ (gT m (gR m l0 4) = 20 ∧ vp_in l6 (gN m (gR m l0 4))))) else (f_X5_bestStack_142 k8 l0 l1 l2 l5 (gI m (gR m l0 4) (ix l6)) l5 m ((o ∧ (gT m l0 = 6 ∧ gR m l0 4 ≠ 0)) ∧ (gT m (gR m l0 4) = 20 ∧ vp_in l6 (gN m (gR m l0 4)))))
set_option maxRecDepth 10000 in
theorem t_X5_bestStack_118 (l : Launch) (E : En) (c0 s0 : Nat) (k8 : Nat → Nat → Int32 → Int32 → Int32 → Int32 → Mm → Prop → Int32 × Mm × Prop) (hk8 : ∀ (l0 : Nat) (l1 : Nat) (l2 : Int32) (l3 : Int32) (l4 : Int32) (l5 : Int32) (m : Mm) (o : Prop), Mh wI l E mi_X5_bestStack c0 s0 8 [(0, .ref l0), (1, .ref l1), (2, .int l2), (3, .int l3), (4, .int l4), (5, .int l5)] [] m o (k8 l0 l1 l2 l3 l4 l5 m o)) (l0 : Nat) (l1 : Nat) (l2 : Int32) (l3 : Int32) (l4 : Int32) (l5 : Int32) (l6 : Int32) (m : Mm) (o : Prop) : Mh wI l E mi_X5_bestStack c0 s0 118 [(0, .ref l0), (1, .ref l1), (2, .int l2), (3, .int l3), (4, .int l4), (5, .int l5), (6, .int l6)] [] m o (f_X5_bestStack_118 k8 l0 l1 l2 l3 l4 l5 l6 m o) := by
  refine Mh_aload_n 0 rfl dX5_bestStack_118 ?_
  refine Mh_gR fd_5_4 fl_RX5_30 dX5_bestStack_119 ?_
  refine Mh_iload 6 rfl dX5_bestStack_122 ?_
  refine Mh_ial dX5_bestStack_124 ?_
  refine Mh_iload 4 rfl dX5_bestStack_125 ?_
  refine Mh_icmp_le (tgt := 142) dX5_bestStack_127 (by decide) rfl (fun _ => ?_) (fun _ => ?_)
  · refine Mh_sub (lv' := [(0, .ref l0), (1, .ref l1), (2, .int l2), (3, .int l3), (4, .int l4), (5, .int l5)]) [0, 1, 2, 3, 4, 5] rfl ?_
    exact t_X5_bestStack_142 l E c0 s0 k8 hk8 _ _ _ _ _ _ _ _
  · refine Mh_aload_n 0 rfl dX5_bestStack_130 ?_
    refine Mh_gR fd_5_4 fl_RX5_30 dX5_bestStack_131 ?_
    refine Mh_ok (fun h => h.1.2) ?_
    refine Mh_iload 6 rfl dX5_bestStack_134 ?_
    refine Mh_ial dX5_bestStack_136 ?_
    refine Mh_ok (fun h => h.2) ?_
    refine Mh_istore (lv' := [(4, .int (gI m (gR m l0 4) (ix l6))), (0, .ref l0), (1, .ref l1), (2, .int l2), (3, .int l3), (5, .int l5), (6, .int l6)]) dX5_bestStack_137 (Nat.le_of_ble_eq_true rfl) rfl ?_
    refine Mh_iload 5 rfl dX5_bestStack_139 ?_
    refine Mh_istore_n (lv' := [(3, .int l5), (4, .int (gI m (gR m l0 4) (ix l6))), (0, .ref l0), (1, .ref l1), (2, .int l2), (5, .int l5), (6, .int l6)]) dX5_bestStack_141 (Nat.le_of_ble_eq_true rfl) rfl ?_
    refine Mh_sub (lv' := [(0, .ref l0), (1, .ref l1), (2, .int l2), (3, .int l5), (4, .int (gI m (gR m l0 4) (ix l6))), (5, .int l5)]) [2, 3, 4, 0, 1, 5] rfl ?_
    exact t_X5_bestStack_142 l E c0 s0 k8 hk8 _ _ _ _ _ _ _ _
def f_X5_bestStack_109 (k8 : Nat → Nat → Int32 → Int32 → Int32 → Int32 → Mm → Prop → Int32 × Mm × Prop) (l0 : Nat) (l1 : Nat) (l2 : Int32) (l3 : Int32) (l4 : Int32) (l5 : Int32) (l6 : Int32) (l7 : Int32) (m : Mm) (o : Prop) : Int32 × Mm × Prop := f_X5_bestStack_118 k8 l0 l1 l2 l3 l4 l5 l6 (sI m (gR m l0 5) (ix l6) l7) ((o ∧ (gT m l0 = 6 ∧ gR m l0 5 ≠ 0)) ∧ (gT m (gR m l0 5) = 20 ∧ vp_in l6 (gN m (gR m l0 5))))
set_option maxRecDepth 10000 in
theorem t_X5_bestStack_109 (l : Launch) (E : En) (c0 s0 : Nat) (k8 : Nat → Nat → Int32 → Int32 → Int32 → Int32 → Mm → Prop → Int32 × Mm × Prop) (hk8 : ∀ (l0 : Nat) (l1 : Nat) (l2 : Int32) (l3 : Int32) (l4 : Int32) (l5 : Int32) (m : Mm) (o : Prop), Mh wI l E mi_X5_bestStack c0 s0 8 [(0, .ref l0), (1, .ref l1), (2, .int l2), (3, .int l3), (4, .int l4), (5, .int l5)] [] m o (k8 l0 l1 l2 l3 l4 l5 m o)) (l0 : Nat) (l1 : Nat) (l2 : Int32) (l3 : Int32) (l4 : Int32) (l5 : Int32) (l6 : Int32) (l7 : Int32) (m : Mm) (o : Prop) : Mh wI l E mi_X5_bestStack c0 s0 109 [(0, .ref l0), (1, .ref l1), (2, .int l2), (3, .int l3), (4, .int l4), (5, .int l5), (6, .int l6), (7, .int l7)] [] m o (f_X5_bestStack_109 k8 l0 l1 l2 l3 l4 l5 l6 l7 m o) := by
  refine Mh_aload_n 0 rfl dX5_bestStack_109 ?_
  refine Mh_gR fd_5_5 fl_RX5_33 dX5_bestStack_110 ?_
  refine Mh_iload 6 rfl dX5_bestStack_113 ?_
  refine Mh_iload 7 rfl dX5_bestStack_115 ?_
  refine Mh_ias dX5_bestStack_117 ?_
  refine Mh_sub (lv' := [(0, .ref l0), (1, .ref l1), (2, .int l2), (3, .int l3), (4, .int l4), (5, .int l5), (6, .int l6)]) [0, 1, 2, 3, 4, 5, 6] rfl ?_
  exact t_X5_bestStack_118 l E c0 s0 k8 hk8 _ _ _ _ _ _ _ _ _
def f_X5_bestStack_108 (k8 : Nat → Nat → Int32 → Int32 → Int32 → Int32 → Mm → Prop → Int32 × Mm × Prop) (l0 : Nat) (l1 : Nat) (l2 : Int32) (l3 : Int32) (l4 : Int32) (l5 : Int32) (l6 : Int32) (l7 : Int32) (y2 : Int32) (y1 : Int32) (y0 : Nat) (m : Mm) (o : Prop) : Int32 × Mm × Prop := f_X5_bestStack_109 k8 l0 l1 l2 l3 l4 l5 l6 l7 (sI m y0 (ix y1) y2) (o ∧ (gT m y0 = 20 ∧ vp_in y1 (gN m y0)))
set_option maxRecDepth 10000 in
theorem t_X5_bestStack_108 (l : Launch) (E : En) (c0 s0 : Nat) (k8 : Nat → Nat → Int32 → Int32 → Int32 → Int32 → Mm → Prop → Int32 × Mm × Prop) (hk8 : ∀ (l0 : Nat) (l1 : Nat) (l2 : Int32) (l3 : Int32) (l4 : Int32) (l5 : Int32) (m : Mm) (o : Prop), Mh wI l E mi_X5_bestStack c0 s0 8 [(0, .ref l0), (1, .ref l1), (2, .int l2), (3, .int l3), (4, .int l4), (5, .int l5)] [] m o (k8 l0 l1 l2 l3 l4 l5 m o)) (l0 : Nat) (l1 : Nat) (l2 : Int32) (l3 : Int32) (l4 : Int32) (l5 : Int32) (l6 : Int32) (l7 : Int32) (y2 : Int32) (y1 : Int32) (y0 : Nat) (m : Mm) (o : Prop) : Mh wI l E mi_X5_bestStack c0 s0 108 [(0, .ref l0), (1, .ref l1), (2, .int l2), (3, .int l3), (4, .int l4), (5, .int l5), (6, .int l6), (7, .int l7)] [.int y2, .int y1, .ref y0] m o (f_X5_bestStack_108 k8 l0 l1 l2 l3 l4 l5 l6 l7 y2 y1 y0 m o) := by
  refine Mh_ias dX5_bestStack_108 ?_
  exact t_X5_bestStack_109 l E c0 s0 k8 hk8 _ _ _ _ _ _ _ _ _ _
def f_X5_bestStack_94 (k8 : Nat → Nat → Int32 → Int32 → Int32 → Int32 → Mm → Prop → Int32 × Mm × Prop) (l0 : Nat) (l1 : Nat) (l2 : Int32) (l3 : Int32) (l4 : Int32) (l5 : Int32) (l6 : Int32) (l7 : Int32) (m : Mm) (o : Prop) : Int32 × Mm × Prop := bnd (F_X3_wouldEat l1 l0 l2 l5 m ((o ∧ (gT m l0 = 6 ∧ gR m l0 4 ≠ 0)) ∧ gT m l1 = 4)) (fun v1 m1 o1 => f_X5_bestStack_108 k8 l0 l1 l2 l3 l4 l5 l6 l7 v1 l6 (gR m l0 4) m1 o1)
set_option maxRecDepth 10000 in
theorem t_X5_bestStack_94 (l : Launch) (E : En) (c0 s0 : Nat) (k8 : Nat → Nat → Int32 → Int32 → Int32 → Int32 → Mm → Prop → Int32 × Mm × Prop) (hk8 : ∀ (l0 : Nat) (l1 : Nat) (l2 : Int32) (l3 : Int32) (l4 : Int32) (l5 : Int32) (m : Mm) (o : Prop), Mh wI l E mi_X5_bestStack c0 s0 8 [(0, .ref l0), (1, .ref l1), (2, .int l2), (3, .int l3), (4, .int l4), (5, .int l5)] [] m o (k8 l0 l1 l2 l3 l4 l5 m o)) (l0 : Nat) (l1 : Nat) (l2 : Int32) (l3 : Int32) (l4 : Int32) (l5 : Int32) (l6 : Int32) (l7 : Int32) (m : Mm) (o : Prop) : Mh wI l E mi_X5_bestStack c0 s0 94 [(0, .ref l0), (1, .ref l1), (2, .int l2), (3, .int l3), (4, .int l4), (5, .int l5), (6, .int l6), (7, .int l7)] [] m o (f_X5_bestStack_94 k8 l0 l1 l2 l3 l4 l5 l6 l7 m o) := by
  refine Mh_aload_n 0 rfl dX5_bestStack_94 ?_
  refine Mh_gR fd_5_4 fl_RX5_30 dX5_bestStack_95 ?_
  refine Mh_iload 6 rfl dX5_bestStack_98 ?_
  refine Mh_aload_n 1 rfl dX5_bestStack_100 ?_
  refine Mh_aload_n 0 rfl dX5_bestStack_101 ?_
  refine Mh_iload_n 2 rfl dX5_bestStack_102 ?_
  refine Mh_iload 5 rfl dX5_bestStack_103 ?_
  refine Mh_cvI (N := mi_X3_wouldEat) (q := l1) (ci := 3) (as := [.ref l0, .int l2, .int l5]) (st := [.int l6, .ref (gR m l0 4)]) (id) cg_yX3_wouldEat (by decide) rfl rfl ml_RX5_90 iv_yX3_wouldEat pd_yX3_wouldEat rfl (by decide) (Nat.le_of_ble_eq_true rfl) rfl dX5_bestStack_105 (T_X3_wouldEat l E _ _ _ _ _ _) rfl ?_
  exact t_X5_bestStack_108 l E c0 s0 k8 hk8 _ _ _ _ _ _ _ _ _ _ _ _ _
def f_X5_bestStack_69 (k8 : Nat → Nat → Int32 → Int32 → Int32 → Int32 → Mm → Prop → Int32 × Mm × Prop) (l0 : Nat) (l1 : Nat) (l2 : Int32) (l3 : Int32) (l4 : Int32) (l5 : Int32) (l6 : Int32) (y0 : Int32) (m : Mm) (o : Prop) : Int32 × Mm × Prop := if (gI m (gR m l0 4) (ix l6)) = (-1 : Int32) then (f_X5_bestStack_94 k8 l0 l1 l2 l3 l4 l5 l6 y0 m ((o ∧ (gT m l0 = 6 ∧ gR m l0 4 ≠ 0)) ∧ (gT m (gR m l0 4) = 20 ∧ vp_in l6 (gN m (gR m l0 4))))) else (if (gI m (gR m l0 5) (ix l6)) = y0 then (f_X5_bestStack_118 k8 l0 l1 l2 l3 l4 l5 l6 m ((((o ∧ (gT m l0 = 6 ∧ gR m l0 4 ≠ 0)) ∧ (gT m (gR m l0 4) = 20 ∧ vp_in l6 (gN m (gR m l0 4)))) ∧ (gT m l0 = 6 ∧ gR m l0 5 ≠ 0)) ∧ (gT m (gR m l0 5) = 20 ∧ vp_in l6 (gN m (gR m l0 5))))) else (f_X5_bestStack_94 k8 l0 l1 l2 l3 l4 l5 l6 y0 m ((((o ∧ (gT m l0 = 6 ∧ gR m l0 4 ≠ 0)) ∧ (gT m (gR m l0 4) = 20 ∧ vp_in l6 (gN m (gR m l0 4)))) ∧ (gT m l0 = 6 ∧ gR m l0 5 ≠ 0)) ∧ (gT m (gR m l0 5) = 20 ∧ vp_in l6 (gN m (gR m l0 5))))))
set_option maxRecDepth 10000 in
theorem t_X5_bestStack_69 (l : Launch) (E : En) (c0 s0 : Nat) (k8 : Nat → Nat → Int32 → Int32 → Int32 → Int32 → Mm → Prop → Int32 × Mm × Prop) (hk8 : ∀ (l0 : Nat) (l1 : Nat) (l2 : Int32) (l3 : Int32) (l4 : Int32) (l5 : Int32) (m : Mm) (o : Prop), Mh wI l E mi_X5_bestStack c0 s0 8 [(0, .ref l0), (1, .ref l1), (2, .int l2), (3, .int l3), (4, .int l4), (5, .int l5)] [] m o (k8 l0 l1 l2 l3 l4 l5 m o)) (l0 : Nat) (l1 : Nat) (l2 : Int32) (l3 : Int32) (l4 : Int32) (l5 : Int32) (l6 : Int32) (y0 : Int32) (m : Mm) (o : Prop) : Mh wI l E mi_X5_bestStack c0 s0 69 [(0, .ref l0), (1, .ref l1), (2, .int l2), (3, .int l3), (4, .int l4), (5, .int l5), (6, .int l6)] [.int y0] m o (f_X5_bestStack_69 k8 l0 l1 l2 l3 l4 l5 l6 y0 m o) := by
  refine Mh_istore (lv' := [(7, .int y0), (0, .ref l0), (1, .ref l1), (2, .int l2), (3, .int l3), (4, .int l4), (5, .int l5), (6, .int l6)]) dX5_bestStack_69 (Nat.le_of_ble_eq_true rfl) rfl ?_
  refine Mh_aload_n 1 rfl dX5_bestStack_71 ?_
  refine Mh_gR fd_5_4 fl_RX5_30 dX5_bestStack_72 ?_
  refine Mh_iload 7 rfl dX5_bestStack_75 ?_
  refine Mh_ial dX5_bestStack_77 ?_
  refine Mh_iconst (v := (-1)) dX5_bestStack_78 (by decide) ?_
  refine Mh_icmp_eq (tgt := 94) dX5_bestStack_79 (by decide) rfl (fun _ => ?_) (fun _ => ?_)
  · refine Mh_sub (lv' := [(0, .ref l0), (1, .ref l1), (2, .int l2), (3, .int l3), (4, .int l4), (5, .int l5), (6, .int l6), (7, .int y0)]) [1, 2, 3, 4, 5, 6, 7, 0] rfl ?_
    exact t_X5_bestStack_94 l E c0 s0 k8 hk8 _ _ _ _ _ _ _ _ _ _
  · refine Mh_aload_n 1 rfl dX5_bestStack_82 ?_
    refine Mh_gR fd_5_5 fl_RX5_33 dX5_bestStack_83 ?_
    refine Mh_iload 7 rfl dX5_bestStack_86 ?_
    refine Mh_ial dX5_bestStack_88 ?_
    refine Mh_iload 0 rfl dX5_bestStack_89 ?_
    refine Mh_icmp_eq (tgt := 118) dX5_bestStack_91 (by decide) rfl (fun _ => ?_) (fun _ => ?_)
    · refine Mh_sub (lv' := [(0, .ref l0), (1, .ref l1), (2, .int l2), (3, .int l3), (4, .int l4), (5, .int l5), (6, .int l6)]) [1, 2, 3, 4, 5, 6, 7] rfl ?_
      exact t_X5_bestStack_118 l E c0 s0 k8 hk8 _ _ _ _ _ _ _ _ _
    · refine Mh_sub (lv' := [(0, .ref l0), (1, .ref l1), (2, .int l2), (3, .int l3), (4, .int l4), (5, .int l5), (6, .int l6), (7, .int y0)]) [1, 2, 3, 4, 5, 6, 7, 0] rfl ?_
      exact t_X5_bestStack_94 l E c0 s0 k8 hk8 _ _ _ _ _ _ _ _ _ _
def f_X5_bestStack_66 (k8 : Nat → Nat → Int32 → Int32 → Int32 → Int32 → Mm → Prop → Int32 × Mm × Prop) (l0 : Nat) (l1 : Nat) (l2 : Int32) (l3 : Int32) (l4 : Int32) (l5 : Int32) (l6 : Int32) (y2 : Int32) (y1 : Nat) (y0 : Nat) (m : Mm) (o : Prop) : Int32 × Mm × Prop := bnd (F_X3_looksOf y0 y1 y2 m (o ∧ gT m y0 = 4)) (fun v1 m1 o1 => f_X5_bestStack_69 k8 l0 l1 l2 l3 l4 l5 l6 v1 m1 o1)
set_option maxRecDepth 10000 in
theorem t_X5_bestStack_66 (l : Launch) (E : En) (c0 s0 : Nat) (k8 : Nat → Nat → Int32 → Int32 → Int32 → Int32 → Mm → Prop → Int32 × Mm × Prop) (hk8 : ∀ (l0 : Nat) (l1 : Nat) (l2 : Int32) (l3 : Int32) (l4 : Int32) (l5 : Int32) (m : Mm) (o : Prop), Mh wI l E mi_X5_bestStack c0 s0 8 [(0, .ref l0), (1, .ref l1), (2, .int l2), (3, .int l3), (4, .int l4), (5, .int l5)] [] m o (k8 l0 l1 l2 l3 l4 l5 m o)) (l0 : Nat) (l1 : Nat) (l2 : Int32) (l3 : Int32) (l4 : Int32) (l5 : Int32) (l6 : Int32) (y2 : Int32) (y1 : Nat) (y0 : Nat) (m : Mm) (o : Prop) : Mh wI l E mi_X5_bestStack c0 s0 66 [(0, .ref l0), (1, .ref l1), (2, .int l2), (3, .int l3), (4, .int l4), (5, .int l5), (6, .int l6)] [.int y2, .ref y1, .ref y0] m o (f_X5_bestStack_66 k8 l0 l1 l2 l3 l4 l5 l6 y2 y1 y0 m o) := by
  refine Mh_cvI (N := mi_X3_looksOf) (q := y0) (ci := 3) (as := [.ref y1, .int y2]) (st := []) (id) cg_yX3_looksOf (by decide) rfl rfl ml_RX5_84 iv_yX3_looksOf pd_yX3_looksOf rfl (by decide) (Nat.le_of_ble_eq_true rfl) rfl dX5_bestStack_66 (T_X3_looksOf l E _ _ _ _ _) rfl ?_
  exact t_X5_bestStack_69 l E c0 s0 k8 hk8 _ _ _ _ _ _ _ _ _ _
def f_X5_bestStack_8b (k8 : Nat → Nat → Int32 → Int32 → Int32 → Int32 → Mm → Prop → Int32 × Mm × Prop) (l0 : Nat) (l1 : Nat) (l2 : Int32) (l3 : Int32) (l4 : Int32) (l5 : Int32) (m : Mm) (o : Prop) : Int32 × Mm × Prop := if (gI m l0 6) ≤ l5 then (l3, m, (o ∧ gT m l0 = 6)) else (if (gI m (gR m (gR m l0 0) (ix l5)) 7) = 0 then (f_X5_bestStack_142 k8 l0 l1 l2 l3 l4 l5 m ((((o ∧ gT m l0 = 6) ∧ (gT m l0 = 6 ∧ gR m l0 0 ≠ 0)) ∧ (gT m (gR m l0 0) = 24 ∧ vp_in l5 (gN m (gR m l0 0)) ∧ gR m (gR m l0 0) (ix l5) ≠ 0)) ∧ gT m (gR m (gR m l0 0) (ix l5)) = 8)) else (if (gI m (gR m (gR m l0 0) (ix l5)) 3) ≤ 0 then (f_X5_bestStack_142 k8 l0 l1 l2 l3 l4 l5 m ((((o ∧ gT m l0 = 6) ∧ (gT m l0 = 6 ∧ gR m l0 0 ≠ 0)) ∧ (gT m (gR m l0 0) = 24 ∧ vp_in l5 (gN m (gR m l0 0)) ∧ gR m (gR m l0 0) (ix l5) ≠ 0)) ∧ gT m (gR m (gR m l0 0) (ix l5)) = 8)) else (bnd (F_X5_isSalted l0 l5 m ((((o ∧ gT m l0 = 6) ∧ (gT m l0 = 6 ∧ gR m l0 0 ≠ 0)) ∧ (gT m (gR m l0 0) = 24 ∧ vp_in l5 (gN m (gR m l0 0)) ∧ gR m (gR m l0 0) (ix l5) ≠ 0)) ∧ gT m (gR m (gR m l0 0) (ix l5)) = 8)) (fun v1 m1 o1 => f_X5_bestStack_66 k8 l0 l1 l2 l3 l4 l5 ((l2 * (12 : Int32)) + l5) v1 (gR m (gR m l0 0) (ix l5)) l1 m1 o1))))
set_option maxRecDepth 10000 in
theorem t_X5_bestStack_8b (l : Launch) (E : En) (c0 s0 : Nat) (k8 : Nat → Nat → Int32 → Int32 → Int32 → Int32 → Mm → Prop → Int32 × Mm × Prop) (hk8 : ∀ (l0 : Nat) (l1 : Nat) (l2 : Int32) (l3 : Int32) (l4 : Int32) (l5 : Int32) (m : Mm) (o : Prop), Mh wI l E mi_X5_bestStack c0 s0 8 [(0, .ref l0), (1, .ref l1), (2, .int l2), (3, .int l3), (4, .int l4), (5, .int l5)] [] m o (k8 l0 l1 l2 l3 l4 l5 m o)) (l0 : Nat) (l1 : Nat) (l2 : Int32) (l3 : Int32) (l4 : Int32) (l5 : Int32) (m : Mm) (o : Prop) : Mh wI l E mi_X5_bestStack c0 s0 8 [(0, .ref l0), (1, .ref l1), (2, .int l2), (3, .int l3), (4, .int l4), (5, .int l5)] [] m o (f_X5_bestStack_8b k8 l0 l1 l2 l3 l4 l5 m o) := by
  refine Mh_iload 5 rfl dX5_bestStack_8 ?_
  refine Mh_aload_n 0 rfl dX5_bestStack_10 ?_
  refine Mh_gI fd_5_6 fl_RX5_48 dX5_bestStack_11 ?_
  refine Mh_icmp_ge (tgt := 148) dX5_bestStack_14 (by decide) rfl (fun _ => ?_) (fun _ => ?_)
  · refine Mh_iload_n 3 rfl dX5_bestStack_148 ?_
    exact Mh_ret dX5_bestStack_149 rfl (fun _ => rfl) rfl
  · refine Mh_aload_n 0 rfl dX5_bestStack_17 ?_
    refine Mh_gR fd_5_0 fl_RX5_11 dX5_bestStack_18 ?_
    refine Mh_iload 5 rfl dX5_bestStack_21 ?_
    refine Mh_aal 24 (.inl rfl) dX5_bestStack_23 ?_
    refine Mh_gI fd_7_7 fl_RX5_67 dX5_bestStack_24 ?_
    refine Mh_if_eq (tgt := 142) dX5_bestStack_27 (by decide) rfl (fun _ => ?_) (fun _ => ?_)
    · exact t_X5_bestStack_142 l E c0 s0 k8 hk8 _ _ _ _ _ _ _ _
    · refine Mh_aload_n 0 rfl dX5_bestStack_30 ?_
      refine Mh_gR fd_5_0 fl_RX5_11 dX5_bestStack_31 ?_
      refine Mh_ok (fun h => h.1.1.2) ?_
      refine Mh_iload 5 rfl dX5_bestStack_34 ?_
      refine Mh_aal 24 (.inl rfl) dX5_bestStack_36 ?_
      refine Mh_ok (fun h => h.1.2) ?_
      refine Mh_gI fd_7_3 fl_RX5_77 dX5_bestStack_37 ?_
      refine Mh_ok (fun h => h.2) ?_
      refine Mh_if_le (tgt := 142) dX5_bestStack_40 (by decide) rfl (fun _ => ?_) (fun _ => ?_)
      · exact t_X5_bestStack_142 l E c0 s0 k8 hk8 _ _ _ _ _ _ _ _
      · refine Mh_iload_n 2 rfl dX5_bestStack_43 ?_
        refine Mh_bipush (v := 12) dX5_bestStack_44 (by decide) ?_
        refine Mh_imul dX5_bestStack_46 ?_
        refine Mh_iload 5 rfl dX5_bestStack_47 ?_
        refine Mh_iadd dX5_bestStack_49 ?_
        refine Mh_istore (lv' := [(6, .int ((l2 * (12 : Int32)) + l5)), (0, .ref l0), (1, .ref l1), (2, .int l2), (3, .int l3), (4, .int l4), (5, .int l5)]) dX5_bestStack_50 (Nat.le_of_ble_eq_true rfl) rfl ?_
        refine Mh_aload_n 2 rfl dX5_bestStack_52 ?_
        refine Mh_aload_n 1 rfl dX5_bestStack_53 ?_
        refine Mh_gR fd_5_0 fl_RX5_11 dX5_bestStack_54 ?_
        refine Mh_ok (fun h => h.1.1.2) ?_
        refine Mh_iload 6 rfl dX5_bestStack_57 ?_
        refine Mh_aal 24 (.inl rfl) dX5_bestStack_59 ?_
        refine Mh_ok (fun h => h.1.2) ?_
        refine Mh_aload_n 1 rfl dX5_bestStack_60 ?_
        refine Mh_iload 6 rfl dX5_bestStack_61 ?_
        refine Mh_cvI (N := mi_X5_isSalted) (q := l0) (ci := 5) (as := [.int l5]) (st := [.ref (gR m (gR m l0 0) (ix l5)), .ref l1]) (fun h => ⟨h, (fun h => h.1.1.1.2) h⟩) cg_yX5_isSalted (by decide) rfl rfl ml_RX5_80 iv_yX5_isSalted pd_yX5_isSalted rfl (by decide) (Nat.le_of_ble_eq_true rfl) rfl dX5_bestStack_63 (T_X5_isSalted l E _ _ _ _) rfl ?_
        refine Mh_sub (lv' := [(0, .ref l0), (1, .ref l1), (2, .int l2), (3, .int l3), (4, .int l4), (5, .int l5), (6, .int ((l2 * (12 : Int32)) + l5))]) [1, 2, 3, 4, 5, 6, 0] rfl ?_
        exact t_X5_bestStack_66 l E c0 s0 k8 hk8 _ _ _ _ _ _ _ _ _ _ _ _
def f_X5_bestStack_8 : Nat → Nat → Nat → Int32 → Int32 → Int32 → Int32 → Mm → Prop → Int32 × Mm × Prop
  | 0, _, _, _, _, _, _, m, _ => (0, m, False)
  | n + 1, l0, l1, l2, l3, l4, l5, m, o => f_X5_bestStack_8b (f_X5_bestStack_8 n) l0 l1 l2 l3 l4 l5 m o
theorem t_X5_bestStack_8 (l : Launch) (E : En) (c0 s0 : Nat) : ∀ (n : Nat) (l0 : Nat) (l1 : Nat) (l2 : Int32) (l3 : Int32) (l4 : Int32) (l5 : Int32) (m : Mm) (o : Prop), Mh wI l E mi_X5_bestStack c0 s0 8 [(0, .ref l0), (1, .ref l1), (2, .int l2), (3, .int l3), (4, .int l4), (5, .int l5)] [] m o (f_X5_bestStack_8 n l0 l1 l2 l3 l4 l5 m o)
  | 0, _, _, _, _, _, _, _, _ => Mh_out rfl
  | n + 1, l0, l1, l2, l3, l4, l5, m, o => t_X5_bestStack_8b l E c0 s0 (f_X5_bestStack_8 n) (t_X5_bestStack_8 l E c0 s0 n) l0 l1 l2 l3 l4 l5 m o
def f_X5_bestStack_0 (l0 : Nat) (l1 : Nat) (l2 : Int32) (m : Mm) (o : Prop) : Int32 × Mm × Prop := f_X5_bestStack_8 1000 l0 l1 l2 (-1 : Int32) (0 : Int32) (0 : Int32) m o
set_option maxRecDepth 10000 in
theorem t_X5_bestStack_0 (l : Launch) (E : En) (c0 s0 : Nat) (l0 : Nat) (l1 : Nat) (l2 : Int32) (m : Mm) (o : Prop) : Mh wI l E mi_X5_bestStack c0 s0 0 [(0, .ref l0), (1, .ref l1), (2, .int l2)] [] m o (f_X5_bestStack_0 l0 l1 l2 m o) := by
  refine Mh_iconst (v := (-1)) dX5_bestStack_0 (by decide) ?_
  refine Mh_istore_n (lv' := [(3, .int (-1 : Int32)), (0, .ref l0), (1, .ref l1), (2, .int l2)]) dX5_bestStack_1 (Nat.le_of_ble_eq_true rfl) rfl ?_
  refine Mh_iconst (v := 0) dX5_bestStack_2 (by decide) ?_
  refine Mh_istore (lv' := [(4, .int (0 : Int32)), (3, .int (-1 : Int32)), (0, .ref l0), (1, .ref l1), (2, .int l2)]) dX5_bestStack_3 (Nat.le_of_ble_eq_true rfl) rfl ?_
  refine Mh_iconst (v := 0) dX5_bestStack_5 (by decide) ?_
  refine Mh_istore (lv' := [(5, .int (0 : Int32)), (4, .int (0 : Int32)), (3, .int (-1 : Int32)), (0, .ref l0), (1, .ref l1), (2, .int l2)]) dX5_bestStack_6 (Nat.le_of_ble_eq_true rfl) rfl ?_
  refine Mh_sub (lv' := [(0, .ref l0), (1, .ref l1), (2, .int l2), (3, .int (-1 : Int32)), (4, .int (0 : Int32)), (5, .int (0 : Int32))]) [3, 4, 5, 2, 1, 0] rfl ?_
  exact t_X5_bestStack_8 l E c0 s0 _ _ _ _ _ _ _ _ _
def F_X5_bestStack (a0 : Nat) (a1 : Nat) (a2 : Int32) (m : Mm) (o : Prop) : Int32 × Mm × Prop := f_X5_bestStack_0 a0 a1 a2 m o
theorem T_X5_bestStack (l : Launch) (E : En) (a0 : Nat) (a1 : Nat) (a2 : Int32) (m : Mm) (o : Prop) : Mt wI l E yX5_bestStack mi_X5_bestStack [.ref a0, .ref a1, .int a2] m o (F_X5_bestStack a0 a1 a2 m o) :=
  Mt_I (by decide) rfl rfl rfl (Nat.le_of_ble_eq_true rfl) rfl (.inl rfl) (t_X5_bestStack_0 l E _ _ _ _ _ _ _)
def f_X5_eatAt_77 (l5 : Int32) (m : Mm) (o : Prop) : Int32 × Mm × Prop := (l5, m, o)
set_option maxRecDepth 10000 in
theorem t_X5_eatAt_77 (l : Launch) (E : En) (c0 s0 : Nat) (l5 : Int32) (m : Mm) (o : Prop) : Mh wI l E mi_X5_eatAt c0 s0 77 [(5, .int l5)] [] m o (f_X5_eatAt_77 l5 m o) := by
  refine Mh_iload 0 rfl dX5_eatAt_77 ?_
  exact Mh_ret dX5_eatAt_79 rfl (fun _ => rfl) rfl
def f_X5_eatAt_68 (l3 : Nat) (l4 : Nat) (l5 : Int32) (m : Mm) (o : Prop) : Int32 × Mm × Prop := f_X5_eatAt_77 l5 (sI m l4 4 (gI m l3 2)) ((o ∧ gT m l3 = 8) ∧ gT m l4 = 2)
set_option maxRecDepth 10000 in
theorem t_X5_eatAt_68 (l : Launch) (E : En) (c0 s0 : Nat) (l3 : Nat) (l4 : Nat) (l5 : Int32) (m : Mm) (o : Prop) : Mh wI l E mi_X5_eatAt c0 s0 68 [(3, .ref l3), (4, .ref l4), (5, .int l5)] [] m o (f_X5_eatAt_68 l3 l4 l5 m o) := by
  refine Mh_aload 1 rfl dX5_eatAt_68 ?_
  refine Mh_aload_n 0 rfl dX5_eatAt_70 ?_
  refine Mh_gI fd_7_2 fl_RX5_117 dX5_eatAt_71 ?_
  refine Mh_pI fd_1_4 ft_1 rfl fl_RX5_123 rfl dX5_eatAt_74 ?_
  refine Mh_sub (lv' := [(5, .int l5)]) [2] rfl ?_
  exact t_X5_eatAt_77 l E c0 s0 _ _ _
def f_X5_eatAt_51 (l0 : Nat) (l3 : Nat) (l4 : Nat) (l5 : Int32) (m : Mm) (o : Prop) : Int32 × Mm × Prop := f_X5_eatAt_68 l3 l4 l5 (sI m (gR m l0 2) (ix (gI m l3 2)) ((gI m (gR m l0 2) (ix (gI m l3 2))) + (gI m l4 2))) ((((o ∧ (gT m l0 = 6 ∧ gR m l0 2 ≠ 0)) ∧ gT m l3 = 8) ∧ (gT m (gR m l0 2) = 20 ∧ vp_in (gI m l3 2) (gN m (gR m l0 2)))) ∧ gT m l4 = 2)
set_option maxRecDepth 10000 in
theorem t_X5_eatAt_51 (l : Launch) (E : En) (c0 s0 : Nat) (l0 : Nat) (l3 : Nat) (l4 : Nat) (l5 : Int32) (m : Mm) (o : Prop) : Mh wI l E mi_X5_eatAt c0 s0 51 [(0, .ref l0), (3, .ref l3), (4, .ref l4), (5, .int l5)] [] m o (f_X5_eatAt_51 l0 l3 l4 l5 m o) := by
  refine Mh_aload_n 0 rfl dX5_eatAt_51 ?_
  refine Mh_gR fd_5_2 fl_RX5_23 dX5_eatAt_52 ?_
  refine Mh_aload_n 1 rfl dX5_eatAt_55 ?_
  refine Mh_gI fd_7_2 fl_RX5_117 dX5_eatAt_56 ?_
  refine Mh_dup2 dX5_eatAt_59 rfl rfl ?_
  refine Mh_ial dX5_eatAt_60 ?_
  refine Mh_aload 2 rfl dX5_eatAt_61 ?_
  refine Mh_gI fd_1_2 fl_RX5_120 dX5_eatAt_63 ?_
  refine Mh_iadd dX5_eatAt_66 ?_
  refine Mh_ias dX5_eatAt_67 ?_
  refine Mh_ok (fun h => h.1.2) ?_
  refine Mh_sub (lv' := [(3, .ref l3), (4, .ref l4), (5, .int l5)]) [1, 2, 3] rfl ?_
  exact t_X5_eatAt_68 l E c0 s0 _ _ _ _ _
def f_X5_eatAt_40 (l0 : Nat) (l2 : Int32) (l3 : Nat) (l4 : Nat) (l5 : Int32) (m : Mm) (o : Prop) : Int32 × Mm × Prop := f_X5_eatAt_51 l0 l3 l4 l5 (sI m (gR m l3 8) (ix l2) ((gI m (gR m l3 8) (ix l2)) + l5)) ((o ∧ (gT m l3 = 8 ∧ gR m l3 8 ≠ 0)) ∧ (gT m (gR m l3 8) = 20 ∧ vp_in l2 (gN m (gR m l3 8))))
set_option maxRecDepth 10000 in
theorem t_X5_eatAt_40 (l : Launch) (E : En) (c0 s0 : Nat) (l0 : Nat) (l2 : Int32) (l3 : Nat) (l4 : Nat) (l5 : Int32) (m : Mm) (o : Prop) : Mh wI l E mi_X5_eatAt c0 s0 40 [(0, .ref l0), (2, .int l2), (3, .ref l3), (4, .ref l4), (5, .int l5)] [] m o (f_X5_eatAt_40 l0 l2 l3 l4 l5 m o) := by
  refine Mh_aload_n 2 rfl dX5_eatAt_40 ?_
  refine Mh_gR fd_7_8 fl_RX5_114 dX5_eatAt_41 ?_
  refine Mh_iload_n 1 rfl dX5_eatAt_44 ?_
  refine Mh_dup2 dX5_eatAt_45 rfl rfl ?_
  refine Mh_ial dX5_eatAt_46 ?_
  refine Mh_iload 4 rfl dX5_eatAt_47 ?_
  refine Mh_iadd dX5_eatAt_49 ?_
  refine Mh_ias dX5_eatAt_50 ?_
  refine Mh_ok (fun h => h.2) ?_
  refine Mh_sub (lv' := [(0, .ref l0), (3, .ref l3), (4, .ref l4), (5, .int l5)]) [0, 2, 3, 4] rfl ?_
  exact t_X5_eatAt_51 l E c0 s0 _ _ _ _ _ _
def f_X5_eatAt_0 (l0 : Nat) (l1 : Int32) (l2 : Int32) (m : Mm) (o : Prop) : Int32 × Mm × Prop := f_X5_eatAt_40 l0 l2 (gR m (gR m l0 0) (ix l1)) (gR m (gR m l0 1) (ix l2)) (if (gI m (gR m (gR m l0 0) (ix l1)) 3) < (gI m (gR m (gR m l0 1) (ix l2)) 3) then (gI m (gR m (gR m l0 0) (ix l1)) 3) else (gI m (gR m (gR m l0 1) (ix l2)) 3)) (sI m (gR m (gR m l0 0) (ix l1)) 3 ((gI m (gR m (gR m l0 0) (ix l1)) 3) - (if (gI m (gR m (gR m l0 0) (ix l1)) 3) < (gI m (gR m (gR m l0 1) (ix l2)) 3) then (gI m (gR m (gR m l0 0) (ix l1)) 3) else (gI m (gR m (gR m l0 1) (ix l2)) 3)))) ((((((o ∧ (gT m l0 = 6 ∧ gR m l0 0 ≠ 0)) ∧ (gT m (gR m l0 0) = 24 ∧ vp_in l1 (gN m (gR m l0 0)) ∧ gR m (gR m l0 0) (ix l1) ≠ 0)) ∧ (gT m l0 = 6 ∧ gR m l0 1 ≠ 0)) ∧ (gT m (gR m l0 1) = 25 ∧ vp_in l2 (gN m (gR m l0 1)) ∧ gR m (gR m l0 1) (ix l2) ≠ 0)) ∧ gT m (gR m (gR m l0 1) (ix l2)) = 2) ∧ gT m (gR m (gR m l0 0) (ix l1)) = 8)
set_option maxRecDepth 10000 in
theorem t_X5_eatAt_0 (l : Launch) (E : En) (c0 s0 : Nat) (l0 : Nat) (l1 : Int32) (l2 : Int32) (m : Mm) (o : Prop) : Mh wI l E mi_X5_eatAt c0 s0 0 [(0, .ref l0), (1, .int l1), (2, .int l2)] [] m o (f_X5_eatAt_0 l0 l1 l2 m o) := by
  refine Mh_aload_n 0 rfl dX5_eatAt_0 ?_
  refine Mh_gR fd_5_0 fl_RX5_11 dX5_eatAt_1 ?_
  refine Mh_iload_n 1 rfl dX5_eatAt_4 ?_
  refine Mh_aal 24 (.inl rfl) dX5_eatAt_5 ?_
  refine Mh_astore_n (lv' := [(3, .ref (gR m (gR m l0 0) (ix l1))), (0, .ref l0), (1, .int l1), (2, .int l2)]) dX5_eatAt_6 (Nat.le_of_ble_eq_true rfl) rfl ?_
  refine Mh_aload_n 1 rfl dX5_eatAt_7 ?_
  refine Mh_gR fd_5_1 fl_RX5_19 dX5_eatAt_8 ?_
  refine Mh_iload_n 3 rfl dX5_eatAt_11 ?_
  refine Mh_aal 25 (.inr rfl) dX5_eatAt_12 ?_
  refine Mh_astore (lv' := [(4, .ref (gR m (gR m l0 1) (ix l2))), (3, .ref (gR m (gR m l0 0) (ix l1))), (0, .ref l0), (1, .int l1), (2, .int l2)]) dX5_eatAt_13 (Nat.le_of_ble_eq_true rfl) rfl ?_
  refine Mh_aload 0 rfl dX5_eatAt_15 ?_
  refine Mh_gI fd_1_3 fl_RX5_106 dX5_eatAt_17 ?_
  refine Mh_aload_n 1 rfl dX5_eatAt_20 ?_
  refine Mh_gI fd_7_3 fl_RX5_77 dX5_eatAt_21 ?_
  refine Mh_min (by decide) ml_RX5_109 ma_min_1 ma_2 ma_min_3 (Nat.le_of_ble_eq_true rfl) dX5_eatAt_24 ?_
  refine Mh_istore (lv' := [(5, .int (if (gI m (gR m (gR m l0 0) (ix l1)) 3) < (gI m (gR m (gR m l0 1) (ix l2)) 3) then (gI m (gR m (gR m l0 0) (ix l1)) 3) else (gI m (gR m (gR m l0 1) (ix l2)) 3))), (4, .ref (gR m (gR m l0 1) (ix l2))), (3, .ref (gR m (gR m l0 0) (ix l1))), (0, .ref l0), (1, .int l1), (2, .int l2)]) dX5_eatAt_27 (Nat.le_of_ble_eq_true rfl) rfl ?_
  refine Mh_aload_n 2 rfl dX5_eatAt_29 ?_
  refine Mh_dup dX5_eatAt_30 rfl ?_
  refine Mh_gI fd_7_3 fl_RX5_77 dX5_eatAt_31 ?_
  refine Mh_ok (fun h => h.2) ?_
  refine Mh_iload 0 rfl dX5_eatAt_34 ?_
  refine Mh_isub dX5_eatAt_36 ?_
  refine Mh_pI fd_7_3 ft_7 rfl fl_RX5_77 rfl dX5_eatAt_37 ?_
  refine Mh_ok (fun h => h.2) ?_
  refine Mh_sub (lv' := [(0, .ref l0), (2, .int l2), (3, .ref (gR m (gR m l0 0) (ix l1))), (4, .ref (gR m (gR m l0 1) (ix l2))), (5, .int (if (gI m (gR m (gR m l0 0) (ix l1)) 3) < (gI m (gR m (gR m l0 1) (ix l2)) 3) then (gI m (gR m (gR m l0 0) (ix l1)) 3) else (gI m (gR m (gR m l0 1) (ix l2)) 3)))]) [3, 5, 2, 1, 0] rfl ?_
  exact t_X5_eatAt_40 l E c0 s0 _ _ _ _ _ _ _
def F_X5_eatAt (a0 : Nat) (a1 : Int32) (a2 : Int32) (m : Mm) (o : Prop) : Int32 × Mm × Prop := f_X5_eatAt_0 a0 a1 a2 m o
theorem T_X5_eatAt (l : Launch) (E : En) (a0 : Nat) (a1 : Int32) (a2 : Int32) (m : Mm) (o : Prop) : Mt wI l E yX5_eatAt mi_X5_eatAt [.ref a0, .int a1, .int a2] m o (F_X5_eatAt a0 a1 a2 m o) :=
  Mt_I (by decide) rfl rfl rfl (Nat.le_of_ble_eq_true rfl) rfl (.inl rfl) (t_X5_eatAt_0 l E _ _ _ _ _ _ _)
def f_X3_hotterBy_22 (k9 : Nat → Int32 → Mm → Prop → Int32 × Mm × Prop) (l0 : Nat) (l3 : Int32) (m : Mm) (o : Prop) : Int32 × Mm × Prop := k9 l0 (l3 + 1) m o
set_option maxRecDepth 10000 in
theorem t_X3_hotterBy_22 (l : Launch) (E : En) (c0 s0 : Nat) (k9 : Nat → Int32 → Mm → Prop → Int32 × Mm × Prop) (hk9 : ∀ (l0 : Nat) (l3 : Int32) (m : Mm) (o : Prop), Mh wI l E mi_X3_hotterBy c0 s0 9 [(0, .ref l0), (3, .int l3)] [] m o (k9 l0 l3 m o)) (l0 : Nat) (l3 : Int32) (m : Mm) (o : Prop) : Mh wI l E mi_X3_hotterBy c0 s0 22 [(0, .ref l0), (3, .int l3)] [] m o (f_X3_hotterBy_22 k9 l0 l3 m o) := by
  refine Mh_iinc (v := l3 + 1) (lv' := [(3, .int (l3 + 1)), (0, .ref l0)]) 1 dX3_hotterBy_22 rfl rfl (Nat.le_of_ble_eq_true rfl) rfl ?_
  refine Mh_goto (tgt := 9) dX3_hotterBy_25 (by decide) ?_
  refine Mh_sub (lv' := [(0, .ref l0), (3, .int (l3 + 1))]) [1, 0] rfl ?_
  exact hk9 _ _ _ _
def f_X3_hotterBy_36 (y0 : Int32) (m : Mm) (o : Prop) : Int32 × Mm × Prop := (y0, m, o)
set_option maxRecDepth 10000 in
theorem t_X3_hotterBy_36 (l : Launch) (E : En) (c0 s0 : Nat) (y0 : Int32) (m : Mm) (o : Prop) : Mh wI l E mi_X3_hotterBy c0 s0 36 [] [.int y0] m o (f_X3_hotterBy_36 y0 m o) := by
  exact Mh_ret dX3_hotterBy_36 rfl (fun _ => rfl) rfl
def f_X3_hotterBy_9b (k9 : Nat → Int32 → Mm → Prop → Int32 × Mm × Prop) (l0 : Nat) (l3 : Int32) (m : Mm) (o : Prop) : Int32 × Mm × Prop := if (10 : Int32) ≤ l3 then (bnd (F_X3_firstValue l0 (103 : Int32) (99 : Int32) m (o ∧ gT m l0 = 4)) (fun v1 m1 o1 => f_X3_hotterBy_36 v1 m1 o1)) else (f_X3_hotterBy_22 k9 l0 l3 (sI m (gR m l0 6) (ix l3) (0 : Int32)) ((o ∧ (gT m l0 = 4 ∧ gR m l0 6 ≠ 0)) ∧ (gT m (gR m l0 6) = 20 ∧ vp_in l3 (gN m (gR m l0 6)))))
set_option maxRecDepth 10000 in
theorem t_X3_hotterBy_9b (l : Launch) (E : En) (c0 s0 : Nat) (k9 : Nat → Int32 → Mm → Prop → Int32 × Mm × Prop) (hk9 : ∀ (l0 : Nat) (l3 : Int32) (m : Mm) (o : Prop), Mh wI l E mi_X3_hotterBy c0 s0 9 [(0, .ref l0), (3, .int l3)] [] m o (k9 l0 l3 m o)) (l0 : Nat) (l3 : Int32) (m : Mm) (o : Prop) : Mh wI l E mi_X3_hotterBy c0 s0 9 [(0, .ref l0), (3, .int l3)] [] m o (f_X3_hotterBy_9b k9 l0 l3 m o) := by
  refine Mh_iload_n 1 rfl dX3_hotterBy_9 ?_
  refine Mh_bipush (v := 10) dX3_hotterBy_10 (by decide) ?_
  refine Mh_icmp_ge (tgt := 28) dX3_hotterBy_12 (by decide) rfl (fun _ => ?_) (fun _ => ?_)
  · refine Mh_aload_n 0 rfl dX3_hotterBy_28 ?_
    refine Mh_bipush (v := 103) dX3_hotterBy_29 (by decide) ?_
    refine Mh_bipush (v := 99) dX3_hotterBy_31 (by decide) ?_
    refine Mh_cvI (N := mi_X3_firstValue) (q := l0) (ci := 3) (as := [.int (103 : Int32), .int (99 : Int32)]) (st := []) (id) cg_yX3_firstValue (by decide) rfl rfl ml_RX3_73 iv_yX3_firstValue pd_yX3_firstValue rfl (by decide) (Nat.le_of_ble_eq_true rfl) rfl dX3_hotterBy_33 (T_X3_firstValue l E _ _ _ _ _) rfl ?_
    refine Mh_sub (lv' := []) [] rfl ?_
    exact t_X3_hotterBy_36 l E c0 s0 _ _ _
  · refine Mh_aload_n 0 rfl dX3_hotterBy_15 ?_
    refine Mh_gR fd_3_6 fl_RX3_28 dX3_hotterBy_16 ?_
    refine Mh_iload_n 1 rfl dX3_hotterBy_19 ?_
    refine Mh_iconst (v := 0) dX3_hotterBy_20 (by decide) ?_
    refine Mh_ias dX3_hotterBy_21 ?_
    exact t_X3_hotterBy_22 l E c0 s0 k9 hk9 _ _ _ _
def f_X3_hotterBy_9 : Nat → Nat → Int32 → Mm → Prop → Int32 × Mm × Prop
  | 0, _, _, m, _ => (0, m, False)
  | n + 1, l0, l3, m, o => f_X3_hotterBy_9b (f_X3_hotterBy_9 n) l0 l3 m o
theorem t_X3_hotterBy_9 (l : Launch) (E : En) (c0 s0 : Nat) : ∀ (n : Nat) (l0 : Nat) (l3 : Int32) (m : Mm) (o : Prop), Mh wI l E mi_X3_hotterBy c0 s0 9 [(0, .ref l0), (3, .int l3)] [] m o (f_X3_hotterBy_9 n l0 l3 m o)
  | 0, _, _, _, _ => Mh_out rfl
  | n + 1, l0, l3, m, o => t_X3_hotterBy_9b l E c0 s0 (f_X3_hotterBy_9 n) (t_X3_hotterBy_9 l E c0 s0 n) l0 l3 m o
def f_X3_hotterBy_6 (l0 : Nat) (m : Mm) (o : Prop) : Int32 × Mm × Prop := f_X3_hotterBy_9 1000 l0 (6 : Int32) m o
set_option maxRecDepth 10000 in
theorem t_X3_hotterBy_6 (l : Launch) (E : En) (c0 s0 : Nat) (l0 : Nat) (m : Mm) (o : Prop) : Mh wI l E mi_X3_hotterBy c0 s0 6 [(0, .ref l0)] [] m o (f_X3_hotterBy_6 l0 m o) := by
  refine Mh_bipush (v := 6) dX3_hotterBy_6 (by decide) ?_
  refine Mh_istore_n (lv' := [(3, .int (6 : Int32)), (0, .ref l0)]) dX3_hotterBy_8 (Nat.le_of_ble_eq_true rfl) rfl ?_
  refine Mh_sub (lv' := [(0, .ref l0), (3, .int (6 : Int32))]) [1, 0] rfl ?_
  exact t_X3_hotterBy_9 l E c0 s0 _ _ _ _ _
def f_X3_hotterBy_0 (l0 : Nat) (l1 : Nat) (l2 : Int32) (m : Mm) (o : Prop) : Int32 × Mm × Prop := bnd (F_X3_lookAtStack l0 l1 l2 m (o ∧ gT m l0 = 4)) (fun _ m1 o1 => f_X3_hotterBy_6 l0 m1 o1)
set_option maxRecDepth 10000 in
theorem t_X3_hotterBy_0 (l : Launch) (E : En) (c0 s0 : Nat) (l0 : Nat) (l1 : Nat) (l2 : Int32) (m : Mm) (o : Prop) : Mh wI l E mi_X3_hotterBy c0 s0 0 [(0, .ref l0), (1, .ref l1), (2, .int l2)] [] m o (f_X3_hotterBy_0 l0 l1 l2 m o) := by
  refine Mh_aload_n 0 rfl dX3_hotterBy_0 ?_
  refine Mh_aload_n 1 rfl dX3_hotterBy_1 ?_
  refine Mh_iload_n 2 rfl dX3_hotterBy_2 ?_
  refine Mh_cvU (N := mi_X3_lookAtStack) (q := l0) (ci := 3) (as := [.ref l1, .int l2]) (st := []) (id) cg_yX3_lookAtStack (by decide) rfl rfl ml_RX3_55 iv_yX3_lookAtStack pd_yX3_lookAtStack rfl (by decide) (Nat.le_of_ble_eq_true rfl) rfl dX3_hotterBy_3 (T_X3_lookAtStack l E _ _ _ _ _) rfl ?_
  refine Mh_sub (lv' := [(0, .ref l0)]) [0] rfl ?_
  exact t_X3_hotterBy_6 l E c0 s0 _ _ _
def F_X3_hotterBy (a0 : Nat) (a1 : Nat) (a2 : Int32) (m : Mm) (o : Prop) : Int32 × Mm × Prop := f_X3_hotterBy_0 a0 a1 a2 m o
theorem T_X3_hotterBy (l : Launch) (E : En) (a0 : Nat) (a1 : Nat) (a2 : Int32) (m : Mm) (o : Prop) : Mt wI l E yX3_hotterBy mi_X3_hotterBy [.ref a0, .ref a1, .int a2] m o (F_X3_hotterBy a0 a1 a2 m o) :=
  Mt_I (by decide) rfl rfl rfl (Nat.le_of_ble_eq_true rfl) rfl (.inl rfl) (t_X3_hotterBy_0 l E _ _ _ _ _ _ _)
def f_X7_vanish_10 (m : Mm) (o : Prop) : Unit × Mm × Prop := ((), m, o)
set_option maxRecDepth 10000 in
theorem t_X7_vanish_10 (l : Launch) (E : En) (c0 s0 : Nat) (m : Mm) (o : Prop) : Mh wU l E mi_X7_vanish c0 s0 10 [] [] m o (f_X7_vanish_10  m o) := by
  exact Mh_ret dX7_vanish_10 rfl (fun _ => trivial) rfl
def f_X7_vanish_5 (l0 : Nat) (m : Mm) (o : Prop) : Unit × Mm × Prop := f_X7_vanish_10  (sI m l0 3 (0 : Int32)) (o ∧ gT m l0 = 8)
set_option maxRecDepth 10000 in
theorem t_X7_vanish_5 (l : Launch) (E : En) (c0 s0 : Nat) (l0 : Nat) (m : Mm) (o : Prop) : Mh wU l E mi_X7_vanish c0 s0 5 [(0, .ref l0)] [] m o (f_X7_vanish_5 l0 m o) := by
  refine Mh_aload_n 0 rfl dX7_vanish_5 ?_
  refine Mh_iconst (v := 0) dX7_vanish_6 (by decide) ?_
  refine Mh_pI fd_7_3 ft_7 rfl fl_RX7_25 rfl dX7_vanish_7 ?_
  refine Mh_sub (lv' := []) [] rfl ?_
  exact t_X7_vanish_10 l E c0 s0  _ _
def f_X7_vanish_0 (l0 : Nat) (m : Mm) (o : Prop) : Unit × Mm × Prop := f_X7_vanish_5 l0 (sI m l0 7 (0 : Int32)) (o ∧ (gT m l0 = 8 ∧ ((0 : Int32) = 0 ∨ (0 : Int32) = 1)))
set_option maxRecDepth 10000 in
theorem t_X7_vanish_0 (l : Launch) (E : En) (c0 s0 : Nat) (l0 : Nat) (m : Mm) (o : Prop) : Mh wU l E mi_X7_vanish c0 s0 0 [(0, .ref l0)] [] m o (f_X7_vanish_0 l0 m o) := by
  refine Mh_aload_n 0 rfl dX7_vanish_0 ?_
  refine Mh_iconst (v := 0) dX7_vanish_1 (by decide) ?_
  refine Mh_pZ fd_7_7 ft_7 rfl fl_RX7_37 rfl dX7_vanish_2 ?_
  exact t_X7_vanish_5 l E c0 s0 _ _ _
def F_X7_vanish (a0 : Nat) (m : Mm) (o : Prop) : Unit × Mm × Prop := f_X7_vanish_0 a0 m o
theorem T_X7_vanish (l : Launch) (E : En) (a0 : Nat) (m : Mm) (o : Prop) : Mt wU l E yX7_vanish mi_X7_vanish [.ref a0] m o (F_X7_vanish a0 m o) :=
  Mt_U (by decide) rfl (fun h => by cases h) rfl (Nat.le_of_ble_eq_true rfl) rfl (t_X7_vanish_0 l E _ _ _ _ _)
def f_X5_heatUp_44 (m : Mm) (o : Prop) : Unit × Mm × Prop := ((), m, o)
set_option maxRecDepth 10000 in
theorem t_X5_heatUp_44 (l : Launch) (E : En) (c0 s0 : Nat) (m : Mm) (o : Prop) : Mh wU l E mi_X5_heatUp c0 s0 44 [] [] m o (f_X5_heatUp_44  m o) := by
  exact Mh_ret dX5_heatUp_44 rfl (fun _ => trivial) rfl
def f_X5_heatUp_20 (l0 : Nat) (l2 : Int32) (m : Mm) (o : Prop) : Unit × Mm × Prop := if (gI m (gR m (gR m l0 0) (ix l2)) 6) < (500 : Int32) then (f_X5_heatUp_44  m (((o ∧ (gT m l0 = 6 ∧ gR m l0 0 ≠ 0)) ∧ (gT m (gR m l0 0) = 24 ∧ vp_in l2 (gN m (gR m l0 0)) ∧ gR m (gR m l0 0) (ix l2) ≠ 0)) ∧ gT m (gR m (gR m l0 0) (ix l2)) = 8)) else (bnd (F_X7_vanish (gR m (gR m l0 0) (ix l2)) m (((o ∧ (gT m l0 = 6 ∧ gR m l0 0 ≠ 0)) ∧ (gT m (gR m l0 0) = 24 ∧ vp_in l2 (gN m (gR m l0 0)) ∧ gR m (gR m l0 0) (ix l2) ≠ 0)) ∧ gT m (gR m (gR m l0 0) (ix l2)) = 8)) (fun _ m1 o1 => f_X5_heatUp_44  m1 o1))
set_option maxRecDepth 10000 in
theorem t_X5_heatUp_20 (l : Launch) (E : En) (c0 s0 : Nat) (l0 : Nat) (l2 : Int32) (m : Mm) (o : Prop) : Mh wU l E mi_X5_heatUp c0 s0 20 [(0, .ref l0), (2, .int l2)] [] m o (f_X5_heatUp_20 l0 l2 m o) := by
  refine Mh_aload_n 0 rfl dX5_heatUp_20 ?_
  refine Mh_gR fd_5_0 fl_RX5_11 dX5_heatUp_21 ?_
  refine Mh_iload_n 1 rfl dX5_heatUp_24 ?_
  refine Mh_aal 24 (.inl rfl) dX5_heatUp_25 ?_
  refine Mh_gI fd_7_6 fl_RX5_126 dX5_heatUp_26 ?_
  refine Mh_sipush (v := 500) dX5_heatUp_29 (by decide) ?_
  refine Mh_icmp_lt (tgt := 44) dX5_heatUp_32 (by decide) rfl (fun _ => ?_) (fun _ => ?_)
  · refine Mh_sub (lv' := []) [] rfl ?_
    exact t_X5_heatUp_44 l E c0 s0  _ _
  · refine Mh_aload_n 0 rfl dX5_heatUp_35 ?_
    refine Mh_gR fd_5_0 fl_RX5_11 dX5_heatUp_36 ?_
    refine Mh_ok (fun h => h.1.1.2) ?_
    refine Mh_iload_n 1 rfl dX5_heatUp_39 ?_
    refine Mh_aal 24 (.inl rfl) dX5_heatUp_40 ?_
    refine Mh_ok (fun h => h.1.2) ?_
    refine Mh_cvU (N := mi_X7_vanish) (q := gR m (gR m l0 0) (ix l2)) (ci := 7) (as := []) (st := []) (fun h => ⟨h, (fun h => h.2) h⟩) cg_yX7_vanish (by decide) rfl rfl ml_RX5_133 iv_yX7_vanish pd_yX7_vanish rfl (by decide) (Nat.le_of_ble_eq_true rfl) rfl dX5_heatUp_41 (T_X7_vanish l E _ _ _) rfl ?_
    refine Mh_sub (lv' := []) [] rfl ?_
    exact t_X5_heatUp_44 l E c0 s0  _ _
def f_X5_heatUp_16 (l0 : Nat) (l2 : Int32) (y2 : Int32) (y1 : Int32) (y0 : Nat) (m : Mm) (o : Prop) : Unit × Mm × Prop := f_X5_heatUp_20 l0 l2 (sI m y0 6 (y1 + y2)) (o ∧ gT m y0 = 8)
set_option maxRecDepth 10000 in
theorem t_X5_heatUp_16 (l : Launch) (E : En) (c0 s0 : Nat) (l0 : Nat) (l2 : Int32) (y2 : Int32) (y1 : Int32) (y0 : Nat) (m : Mm) (o : Prop) : Mh wU l E mi_X5_heatUp c0 s0 16 [(0, .ref l0), (2, .int l2)] [.int y2, .int y1, .ref y0] m o (f_X5_heatUp_16 l0 l2 y2 y1 y0 m o) := by
  refine Mh_iadd dX5_heatUp_16 ?_
  refine Mh_pI fd_7_6 ft_7 rfl fl_RX5_126 rfl dX5_heatUp_17 ?_
  exact t_X5_heatUp_20 l E c0 s0 _ _ _ _
def f_X5_heatUp_0 (l0 : Nat) (l1 : Nat) (l2 : Int32) (m : Mm) (o : Prop) : Unit × Mm × Prop := bnd (F_X3_hotterBy l1 l0 l2 m ((((o ∧ (gT m l0 = 6 ∧ gR m l0 0 ≠ 0)) ∧ (gT m (gR m l0 0) = 24 ∧ vp_in l2 (gN m (gR m l0 0)) ∧ gR m (gR m l0 0) (ix l2) ≠ 0)) ∧ gT m (gR m (gR m l0 0) (ix l2)) = 8) ∧ gT m l1 = 4)) (fun v1 m1 o1 => f_X5_heatUp_16 l0 l2 v1 (gI m (gR m (gR m l0 0) (ix l2)) 6) (gR m (gR m l0 0) (ix l2)) m1 o1)
set_option maxRecDepth 10000 in
theorem t_X5_heatUp_0 (l : Launch) (E : En) (c0 s0 : Nat) (l0 : Nat) (l1 : Nat) (l2 : Int32) (m : Mm) (o : Prop) : Mh wU l E mi_X5_heatUp c0 s0 0 [(0, .ref l0), (1, .ref l1), (2, .int l2)] [] m o (f_X5_heatUp_0 l0 l1 l2 m o) := by
  refine Mh_aload_n 0 rfl dX5_heatUp_0 ?_
  refine Mh_gR fd_5_0 fl_RX5_11 dX5_heatUp_1 ?_
  refine Mh_iload_n 2 rfl dX5_heatUp_4 ?_
  refine Mh_aal 24 (.inl rfl) dX5_heatUp_5 ?_
  refine Mh_dup dX5_heatUp_6 rfl ?_
  refine Mh_gI fd_7_6 fl_RX5_126 dX5_heatUp_7 ?_
  refine Mh_aload_n 1 rfl dX5_heatUp_10 ?_
  refine Mh_aload_n 0 rfl dX5_heatUp_11 ?_
  refine Mh_iload_n 2 rfl dX5_heatUp_12 ?_
  refine Mh_cvI (N := mi_X3_hotterBy) (q := l1) (ci := 3) (as := [.ref l0, .int l2]) (st := [.int (gI m (gR m (gR m l0 0) (ix l2)) 6), .ref (gR m (gR m l0 0) (ix l2))]) (id) cg_yX3_hotterBy (by decide) rfl rfl ml_RX5_129 iv_yX3_hotterBy pd_yX3_hotterBy rfl (by decide) (Nat.le_of_ble_eq_true rfl) rfl dX5_heatUp_13 (T_X3_hotterBy l E _ _ _ _ _) rfl ?_
  refine Mh_sub (lv' := [(0, .ref l0), (2, .int l2)]) [0, 2] rfl ?_
  exact t_X5_heatUp_16 l E c0 s0 _ _ _ _ _ _ _
def F_X5_heatUp (a0 : Nat) (a1 : Nat) (a2 : Int32) (m : Mm) (o : Prop) : Unit × Mm × Prop := f_X5_heatUp_0 a0 a1 a2 m o
theorem T_X5_heatUp (l : Launch) (E : En) (a0 : Nat) (a1 : Nat) (a2 : Int32) (m : Mm) (o : Prop) : Mt wU l E yX5_heatUp mi_X5_heatUp [.ref a0, .ref a1, .int a2] m o (F_X5_heatUp a0 a1 a2 m o) :=
  Mt_U (by decide) rfl (fun h => by cases h) rfl (Nat.le_of_ble_eq_true rfl) rfl (t_X5_heatUp_0 l E _ _ _ _ _ _ _)
