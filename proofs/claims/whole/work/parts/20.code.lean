def f_X0_init_23 (m : Mm) (o : Prop) : Unit × Mm × Prop := ((), m, o)
set_option maxRecDepth 10000 in
theorem t_X0_init_23 (l : Launch) (E : En) (c0 s0 : Nat) (m : Mm) (o : Prop) : Mh wU l E mi_X0_init c0 s0 23 [] [] m o (f_X0_init_23  m o) := by
  exact Mh_ret dX0_init_23 rfl (fun _ => trivial) rfl
def f_X0_init_18 (l0 : Nat) (l1 : Nat) (m : Mm) (o : Prop) : Unit × Mm × Prop := f_X0_init_23  (sR m l0 2 l1) (o ∧ (gT m l0 = 1 ∧ l1 ≠ 0))
set_option maxRecDepth 10000 in
theorem t_X0_init_18 (l : Launch) (E : En) (c0 s0 : Nat) (l0 : Nat) (l1 : Nat) (m : Mm) (o : Prop) : Mh wU l E mi_X0_init c0 s0 18 [(0, .ref l0), (1, .ref l1)] [] m o (f_X0_init_18 l0 l1 m o) := by
  refine Mh_aload_n 0 rfl dX0_init_18 ?_
  refine Mh_aload_n 1 rfl dX0_init_19 ?_
  refine Mh_pR fd_0_2 ft_0 (.inl ⟨_, rfl⟩) fl_RX0_18 (.inr ⟨rfl, rfl, rfl, flg_RX0_18⟩) dX0_init_20 ?_
  refine Mh_sub (lv' := []) [] rfl ?_
  exact t_X0_init_23 l E c0 s0  _ _
def f_X0_init_15 (l0 : Nat) (l1 : Nat) (y1 : Nat) (y0 : Nat) (m : Mm) (o : Prop) : Unit × Mm × Prop := f_X0_init_18 l0 l1 (sR m y0 1 y1) (o ∧ (gT m y0 = 1 ∧ y1 ≠ 0))
set_option maxRecDepth 10000 in
theorem t_X0_init_15 (l : Launch) (E : En) (c0 s0 : Nat) (l0 : Nat) (l1 : Nat) (y1 : Nat) (y0 : Nat) (m : Mm) (o : Prop) : Mh wU l E mi_X0_init c0 s0 15 [(0, .ref l0), (1, .ref l1)] [.ref y1, .ref y0] m o (f_X0_init_15 l0 l1 y1 y0 m o) := by
  refine Mh_pR fd_0_1 ft_0 (.inr ⟨_, rfl⟩) fl_RX0_15 (.inr ⟨rfl, rfl, rfl, flg_RX0_15⟩) dX0_init_15 ?_
  exact t_X0_init_18 l E c0 s0 _ _ _ _
def f_X0_init_11 (l0 : Nat) (l1 : Nat) (m : Mm) (o : Prop) : Unit × Mm × Prop := f_X0_init_15 l0 l1 (gC m + 1) l0 (nC m 20 4 4) o
set_option maxRecDepth 10000 in
theorem t_X0_init_11 (l : Launch) (E : En) (c0 s0 : Nat) (l0 : Nat) (l1 : Nat) (m : Mm) (o : Prop) : Mh wU l E mi_X0_init c0 s0 11 [(0, .ref l0), (1, .ref l1)] [] m o (f_X0_init_11 l0 l1 m o) := by
  refine Mh_aload_n 0 rfl dX0_init_11 ?_
  refine Mh_iconst (v := 4) dX0_init_12 (by decide) ?_
  refine Mh_nar 20 0 4 .int (.inl rfl) rfl rfl (fun _ _ h => h) (.inr ⟨by decide, rfl⟩) nar_20 (by decide) (by decide) (by decide) dX0_init_13 ?_
  exact t_X0_init_15 l E c0 s0 _ _ _ _ _ _
def f_X0_init_8 (l0 : Nat) (l1 : Nat) (y1 : Nat) (y0 : Nat) (m : Mm) (o : Prop) : Unit × Mm × Prop := f_X0_init_11 l0 l1 (sR m y0 0 y1) (o ∧ (gT m y0 = 1 ∧ y1 ≠ 0))
set_option maxRecDepth 10000 in
theorem t_X0_init_8 (l : Launch) (E : En) (c0 s0 : Nat) (l0 : Nat) (l1 : Nat) (y1 : Nat) (y0 : Nat) (m : Mm) (o : Prop) : Mh wU l E mi_X0_init c0 s0 8 [(0, .ref l0), (1, .ref l1)] [.ref y1, .ref y0] m o (f_X0_init_8 l0 l1 y1 y0 m o) := by
  refine Mh_pR fd_0_0 ft_0 (.inr ⟨_, rfl⟩) fl_RX0_11 (.inr ⟨rfl, rfl, rfl, flg_RX0_11⟩) dX0_init_8 ?_
  exact t_X0_init_11 l E c0 s0 _ _ _ _
def f_X0_init_0 (l0 : Nat) (l1 : Nat) (m : Mm) (o : Prop) : Unit × Mm × Prop := f_X0_init_8 l0 l1 (gC m + 1) l0 (nC m 20 4 4) o
set_option maxRecDepth 10000 in
theorem t_X0_init_0 (l : Launch) (E : En) (c0 s0 : Nat) (l0 : Nat) (l1 : Nat) (m : Mm) (o : Prop) : Mh wU l E mi_X0_init c0 s0 0 [(0, .ref l0), (1, .ref l1)] [] m o (f_X0_init_0 l0 l1 m o) := by
  refine Mh_aload_n 0 rfl dX0_init_0 ?_
  refine Mh_oin (by decide) ml_RX0_3 obj_1 obj_2 dX0_init_1 ?_
  refine Mh_aload_n 0 rfl dX0_init_4 ?_
  refine Mh_iconst (v := 4) dX0_init_5 (by decide) ?_
  refine Mh_nar 20 0 4 .int (.inl rfl) rfl rfl (fun _ _ h => h) (.inr ⟨by decide, rfl⟩) nar_20 (by decide) (by decide) (by decide) dX0_init_6 ?_
  exact t_X0_init_8 l E c0 s0 _ _ _ _ _ _
def F_X0_init (a0 : Nat) (a1 : Nat) (m : Mm) (o : Prop) : Unit × Mm × Prop := f_X0_init_0 a0 a1 m o
theorem T_X0_init (l : Launch) (E : En) (a0 : Nat) (a1 : Nat) (m : Mm) (o : Prop) : Mt wU l E yX0_init mi_X0_init [.ref a0, .ref a1] m o (F_X0_init a0 a1 m o) :=
  Mt_U (by decide) rfl (fun _ => rfl) rfl (Nat.le_of_ble_eq_true rfl) rfl (t_X0_init_0 l E _ _ _ _ _ _)
def f_X2_init_12 (m : Mm) (o : Prop) : Unit × Mm × Prop := ((), m, o)
set_option maxRecDepth 10000 in
theorem t_X2_init_12 (l : Launch) (E : En) (c0 s0 : Nat) (m : Mm) (o : Prop) : Mh wU l E mi_X2_init c0 s0 12 [] [] m o (f_X2_init_12  m o) := by
  exact Mh_ret dX2_init_12 rfl (fun _ => trivial) rfl
def f_X2_init_9 (y1 : Nat) (y0 : Nat) (m : Mm) (o : Prop) : Unit × Mm × Prop := f_X2_init_12  (sR m y0 0 y1) (o ∧ (gT m y0 = 3 ∧ y1 ≠ 0))
set_option maxRecDepth 10000 in
theorem t_X2_init_9 (l : Launch) (E : En) (c0 s0 : Nat) (y1 : Nat) (y0 : Nat) (m : Mm) (o : Prop) : Mh wU l E mi_X2_init c0 s0 9 [] [.ref y1, .ref y0] m o (f_X2_init_9 y1 y0 m o) := by
  refine Mh_pR fd_2_0 ft_2 (.inr ⟨_, rfl⟩) fl_RX2_11 (.inr ⟨rfl, rfl, rfl, flg_RX2_11⟩) dX2_init_9 ?_
  exact t_X2_init_12 l E c0 s0  _ _
def f_X2_init_0 (l0 : Nat) (m : Mm) (o : Prop) : Unit × Mm × Prop := f_X2_init_9 (gC m + 1) l0 (nC m 20 20 20) o
set_option maxRecDepth 10000 in
theorem t_X2_init_0 (l : Launch) (E : En) (c0 s0 : Nat) (l0 : Nat) (m : Mm) (o : Prop) : Mh wU l E mi_X2_init c0 s0 0 [(0, .ref l0)] [] m o (f_X2_init_0 l0 m o) := by
  refine Mh_aload_n 0 rfl dX2_init_0 ?_
  refine Mh_oin (by decide) ml_RX2_3 obj_1 obj_2 dX2_init_1 ?_
  refine Mh_aload_n 0 rfl dX2_init_4 ?_
  refine Mh_bipush (v := 20) dX2_init_5 (by decide) ?_
  refine Mh_nar 20 0 20 .int (.inl rfl) rfl rfl (fun _ _ h => h) (.inr ⟨by decide, rfl⟩) nar_20 (by decide) (by decide) (by decide) dX2_init_7 ?_
  refine Mh_sub (lv' := []) [] rfl ?_
  exact t_X2_init_9 l E c0 s0 _ _ _ _
def F_X2_init (a0 : Nat) (m : Mm) (o : Prop) : Unit × Mm × Prop := f_X2_init_0 a0 m o
theorem T_X2_init (l : Launch) (E : En) (a0 : Nat) (m : Mm) (o : Prop) : Mt wU l E yX2_init mi_X2_init [.ref a0] m o (F_X2_init a0 m o) :=
  Mt_U (by decide) rfl (fun _ => rfl) rfl (Nat.le_of_ble_eq_true rfl) rfl (t_X2_init_0 l E _ _ _ _ _)
def f_X3_init_78 (m : Mm) (o : Prop) : Unit × Mm × Prop := ((), m, o)
set_option maxRecDepth 10000 in
theorem t_X3_init_78 (l : Launch) (E : En) (c0 s0 : Nat) (m : Mm) (o : Prop) : Mh wU l E mi_X3_init c0 s0 78 [] [] m o (f_X3_init_78  m o) := by
  exact Mh_ret dX3_init_78 rfl (fun _ => trivial) rfl
def f_X3_init_75 (y1 : Nat) (y0 : Nat) (m : Mm) (o : Prop) : Unit × Mm × Prop := f_X3_init_78  (sR m y0 8 y1) (o ∧ (gT m y0 = 4 ∧ y1 ≠ 0))
set_option maxRecDepth 10000 in
theorem t_X3_init_75 (l : Launch) (E : En) (c0 s0 : Nat) (y1 : Nat) (y0 : Nat) (m : Mm) (o : Prop) : Mh wU l E mi_X3_init c0 s0 75 [] [.ref y1, .ref y0] m o (f_X3_init_75 y1 y0 m o) := by
  refine Mh_pR fd_3_8 ft_3 (.inr ⟨_, rfl⟩) fl_RX3_34 (.inr ⟨rfl, rfl, rfl, flg_RX3_34⟩) dX3_init_75 ?_
  exact t_X3_init_78 l E c0 s0  _ _
def f_X3_init_70 (l0 : Nat) (m : Mm) (o : Prop) : Unit × Mm × Prop := f_X3_init_75 (gC m + 1) l0 (nC m 20 32 32) o
set_option maxRecDepth 10000 in
theorem t_X3_init_70 (l : Launch) (E : En) (c0 s0 : Nat) (l0 : Nat) (m : Mm) (o : Prop) : Mh wU l E mi_X3_init c0 s0 70 [(0, .ref l0)] [] m o (f_X3_init_70 l0 m o) := by
  refine Mh_aload_n 0 rfl dX3_init_70 ?_
  refine Mh_bipush (v := 32) dX3_init_71 (by decide) ?_
  refine Mh_nar 20 0 32 .int (.inl rfl) rfl rfl (fun _ _ h => h) (.inr ⟨by decide, rfl⟩) nar_20 (by decide) (by decide) (by decide) dX3_init_73 ?_
  refine Mh_sub (lv' := []) [] rfl ?_
  exact t_X3_init_75 l E c0 s0 _ _ _ _
def f_X3_init_67 (l0 : Nat) (y1 : Nat) (y0 : Nat) (m : Mm) (o : Prop) : Unit × Mm × Prop := f_X3_init_70 l0 (sR m y0 7 y1) (o ∧ (gT m y0 = 4 ∧ y1 ≠ 0))
set_option maxRecDepth 10000 in
theorem t_X3_init_67 (l : Launch) (E : En) (c0 s0 : Nat) (l0 : Nat) (y1 : Nat) (y0 : Nat) (m : Mm) (o : Prop) : Mh wU l E mi_X3_init c0 s0 67 [(0, .ref l0)] [.ref y1, .ref y0] m o (f_X3_init_67 l0 y1 y0 m o) := by
  refine Mh_pR fd_3_7 ft_3 (.inr ⟨_, rfl⟩) fl_RX3_31 (.inr ⟨rfl, rfl, rfl, flg_RX3_31⟩) dX3_init_67 ?_
  exact t_X3_init_70 l E c0 s0 _ _ _
def f_X3_init_62 (l0 : Nat) (m : Mm) (o : Prop) : Unit × Mm × Prop := f_X3_init_67 l0 (gC m + 1) l0 (nC m 20 10 10) o
set_option maxRecDepth 10000 in
theorem t_X3_init_62 (l : Launch) (E : En) (c0 s0 : Nat) (l0 : Nat) (m : Mm) (o : Prop) : Mh wU l E mi_X3_init c0 s0 62 [(0, .ref l0)] [] m o (f_X3_init_62 l0 m o) := by
  refine Mh_aload_n 0 rfl dX3_init_62 ?_
  refine Mh_bipush (v := 10) dX3_init_63 (by decide) ?_
  refine Mh_nar 20 0 10 .int (.inl rfl) rfl rfl (fun _ _ h => h) (.inr ⟨by decide, rfl⟩) nar_20 (by decide) (by decide) (by decide) dX3_init_65 ?_
  exact t_X3_init_67 l E c0 s0 _ _ _ _ _
def f_X3_init_59 (l0 : Nat) (y1 : Nat) (y0 : Nat) (m : Mm) (o : Prop) : Unit × Mm × Prop := f_X3_init_62 l0 (sR m y0 6 y1) (o ∧ (gT m y0 = 4 ∧ y1 ≠ 0))
set_option maxRecDepth 10000 in
theorem t_X3_init_59 (l : Launch) (E : En) (c0 s0 : Nat) (l0 : Nat) (y1 : Nat) (y0 : Nat) (m : Mm) (o : Prop) : Mh wU l E mi_X3_init c0 s0 59 [(0, .ref l0)] [.ref y1, .ref y0] m o (f_X3_init_59 l0 y1 y0 m o) := by
  refine Mh_pR fd_3_6 ft_3 (.inr ⟨_, rfl⟩) fl_RX3_28 (.inr ⟨rfl, rfl, rfl, flg_RX3_28⟩) dX3_init_59 ?_
  exact t_X3_init_62 l E c0 s0 _ _ _
def f_X3_init_54 (l0 : Nat) (m : Mm) (o : Prop) : Unit × Mm × Prop := f_X3_init_59 l0 (gC m + 1) l0 (nC m 20 10 10) o
set_option maxRecDepth 10000 in
theorem t_X3_init_54 (l : Launch) (E : En) (c0 s0 : Nat) (l0 : Nat) (m : Mm) (o : Prop) : Mh wU l E mi_X3_init c0 s0 54 [(0, .ref l0)] [] m o (f_X3_init_54 l0 m o) := by
  refine Mh_aload_n 0 rfl dX3_init_54 ?_
  refine Mh_bipush (v := 10) dX3_init_55 (by decide) ?_
  refine Mh_nar 20 0 10 .int (.inl rfl) rfl rfl (fun _ _ h => h) (.inr ⟨by decide, rfl⟩) nar_20 (by decide) (by decide) (by decide) dX3_init_57 ?_
  exact t_X3_init_59 l E c0 s0 _ _ _ _ _
def f_X3_init_51 (l0 : Nat) (y1 : Nat) (y0 : Nat) (m : Mm) (o : Prop) : Unit × Mm × Prop := f_X3_init_54 l0 (sR m y0 5 y1) (o ∧ (gT m y0 = 4 ∧ y1 ≠ 0))
set_option maxRecDepth 10000 in
theorem t_X3_init_51 (l : Launch) (E : En) (c0 s0 : Nat) (l0 : Nat) (y1 : Nat) (y0 : Nat) (m : Mm) (o : Prop) : Mh wU l E mi_X3_init c0 s0 51 [(0, .ref l0)] [.ref y1, .ref y0] m o (f_X3_init_51 l0 y1 y0 m o) := by
  refine Mh_pR fd_3_5 ft_3 (.inr ⟨_, rfl⟩) fl_RX3_25 (.inr ⟨rfl, rfl, rfl, flg_RX3_25⟩) dX3_init_51 ?_
  exact t_X3_init_54 l E c0 s0 _ _ _
def f_X3_init_46 (l0 : Nat) (m : Mm) (o : Prop) : Unit × Mm × Prop := f_X3_init_51 l0 (gC m + 1) l0 (nC m 20 14 14) o
set_option maxRecDepth 10000 in
theorem t_X3_init_46 (l : Launch) (E : En) (c0 s0 : Nat) (l0 : Nat) (m : Mm) (o : Prop) : Mh wU l E mi_X3_init c0 s0 46 [(0, .ref l0)] [] m o (f_X3_init_46 l0 m o) := by
  refine Mh_aload_n 0 rfl dX3_init_46 ?_
  refine Mh_bipush (v := 14) dX3_init_47 (by decide) ?_
  refine Mh_nar 20 0 14 .int (.inl rfl) rfl rfl (fun _ _ h => h) (.inr ⟨by decide, rfl⟩) nar_20 (by decide) (by decide) (by decide) dX3_init_49 ?_
  exact t_X3_init_51 l E c0 s0 _ _ _ _ _
def f_X3_init_43 (l0 : Nat) (y1 : Nat) (y0 : Nat) (m : Mm) (o : Prop) : Unit × Mm × Prop := f_X3_init_46 l0 (sR m y0 4 y1) (o ∧ (gT m y0 = 4 ∧ y1 ≠ 0))
set_option maxRecDepth 10000 in
theorem t_X3_init_43 (l : Launch) (E : En) (c0 s0 : Nat) (l0 : Nat) (y1 : Nat) (y0 : Nat) (m : Mm) (o : Prop) : Mh wU l E mi_X3_init c0 s0 43 [(0, .ref l0)] [.ref y1, .ref y0] m o (f_X3_init_43 l0 y1 y0 m o) := by
  refine Mh_pR fd_3_4 ft_3 (.inr ⟨_, rfl⟩) fl_RX3_22 (.inr ⟨rfl, rfl, rfl, flg_RX3_22⟩) dX3_init_43 ?_
  exact t_X3_init_46 l E c0 s0 _ _ _
def f_X3_init_38 (l0 : Nat) (m : Mm) (o : Prop) : Unit × Mm × Prop := f_X3_init_43 l0 (gC m + 1) l0 (nC m 20 14 14) o
set_option maxRecDepth 10000 in
theorem t_X3_init_38 (l : Launch) (E : En) (c0 s0 : Nat) (l0 : Nat) (m : Mm) (o : Prop) : Mh wU l E mi_X3_init c0 s0 38 [(0, .ref l0)] [] m o (f_X3_init_38 l0 m o) := by
  refine Mh_aload_n 0 rfl dX3_init_38 ?_
  refine Mh_bipush (v := 14) dX3_init_39 (by decide) ?_
  refine Mh_nar 20 0 14 .int (.inl rfl) rfl rfl (fun _ _ h => h) (.inr ⟨by decide, rfl⟩) nar_20 (by decide) (by decide) (by decide) dX3_init_41 ?_
  exact t_X3_init_43 l E c0 s0 _ _ _ _ _
def f_X3_init_35 (l0 : Nat) (y1 : Nat) (y0 : Nat) (m : Mm) (o : Prop) : Unit × Mm × Prop := f_X3_init_38 l0 (sR m y0 3 y1) (o ∧ (gT m y0 = 4 ∧ y1 ≠ 0))
set_option maxRecDepth 10000 in
theorem t_X3_init_35 (l : Launch) (E : En) (c0 s0 : Nat) (l0 : Nat) (y1 : Nat) (y0 : Nat) (m : Mm) (o : Prop) : Mh wU l E mi_X3_init c0 s0 35 [(0, .ref l0)] [.ref y1, .ref y0] m o (f_X3_init_35 l0 y1 y0 m o) := by
  refine Mh_pR fd_3_3 ft_3 (.inr ⟨_, rfl⟩) fl_RX3_19 (.inr ⟨rfl, rfl, rfl, flg_RX3_19⟩) dX3_init_35 ?_
  exact t_X3_init_38 l E c0 s0 _ _ _
def f_X3_init_30 (l0 : Nat) (m : Mm) (o : Prop) : Unit × Mm × Prop := f_X3_init_35 l0 (gC m + 1) l0 (nC m 20 14 14) o
set_option maxRecDepth 10000 in
theorem t_X3_init_30 (l : Launch) (E : En) (c0 s0 : Nat) (l0 : Nat) (m : Mm) (o : Prop) : Mh wU l E mi_X3_init c0 s0 30 [(0, .ref l0)] [] m o (f_X3_init_30 l0 m o) := by
  refine Mh_aload_n 0 rfl dX3_init_30 ?_
  refine Mh_bipush (v := 14) dX3_init_31 (by decide) ?_
  refine Mh_nar 20 0 14 .int (.inl rfl) rfl rfl (fun _ _ h => h) (.inr ⟨by decide, rfl⟩) nar_20 (by decide) (by decide) (by decide) dX3_init_33 ?_
  exact t_X3_init_35 l E c0 s0 _ _ _ _ _
def f_X3_init_27 (l0 : Nat) (y1 : Nat) (y0 : Nat) (m : Mm) (o : Prop) : Unit × Mm × Prop := f_X3_init_30 l0 (sR m y0 2 y1) (o ∧ (gT m y0 = 4 ∧ y1 ≠ 0))
set_option maxRecDepth 10000 in
theorem t_X3_init_27 (l : Launch) (E : En) (c0 s0 : Nat) (l0 : Nat) (y1 : Nat) (y0 : Nat) (m : Mm) (o : Prop) : Mh wU l E mi_X3_init c0 s0 27 [(0, .ref l0)] [.ref y1, .ref y0] m o (f_X3_init_27 l0 y1 y0 m o) := by
  refine Mh_pR fd_3_2 ft_3 (.inr ⟨_, rfl⟩) fl_RX3_16 (.inr ⟨rfl, rfl, rfl, flg_RX3_16⟩) dX3_init_27 ?_
  exact t_X3_init_30 l E c0 s0 _ _ _
def f_X3_init_22 (l0 : Nat) (m : Mm) (o : Prop) : Unit × Mm × Prop := f_X3_init_27 l0 (gC m + 1) l0 (nC m 20 14 14) o
set_option maxRecDepth 10000 in
theorem t_X3_init_22 (l : Launch) (E : En) (c0 s0 : Nat) (l0 : Nat) (m : Mm) (o : Prop) : Mh wU l E mi_X3_init c0 s0 22 [(0, .ref l0)] [] m o (f_X3_init_22 l0 m o) := by
  refine Mh_aload_n 0 rfl dX3_init_22 ?_
  refine Mh_bipush (v := 14) dX3_init_23 (by decide) ?_
  refine Mh_nar 20 0 14 .int (.inl rfl) rfl rfl (fun _ _ h => h) (.inr ⟨by decide, rfl⟩) nar_20 (by decide) (by decide) (by decide) dX3_init_25 ?_
  exact t_X3_init_27 l E c0 s0 _ _ _ _ _
def f_X3_init_19 (l0 : Nat) (y1 : Nat) (y0 : Nat) (m : Mm) (o : Prop) : Unit × Mm × Prop := f_X3_init_22 l0 (sR m y0 1 y1) (o ∧ (gT m y0 = 4 ∧ y1 ≠ 0))
set_option maxRecDepth 10000 in
theorem t_X3_init_19 (l : Launch) (E : En) (c0 s0 : Nat) (l0 : Nat) (y1 : Nat) (y0 : Nat) (m : Mm) (o : Prop) : Mh wU l E mi_X3_init c0 s0 19 [(0, .ref l0)] [.ref y1, .ref y0] m o (f_X3_init_19 l0 y1 y0 m o) := by
  refine Mh_pR fd_3_1 ft_3 (.inr ⟨_, rfl⟩) fl_RX3_13 (.inr ⟨rfl, rfl, rfl, flg_RX3_13⟩) dX3_init_19 ?_
  exact t_X3_init_22 l E c0 s0 _ _ _
def f_X3_init_13 (l0 : Nat) (m : Mm) (o : Prop) : Unit × Mm × Prop := f_X3_init_19 l0 (gC m + 1) l0 (nC m 20 200 200) o
set_option maxRecDepth 10000 in
theorem t_X3_init_13 (l : Launch) (E : En) (c0 s0 : Nat) (l0 : Nat) (m : Mm) (o : Prop) : Mh wU l E mi_X3_init c0 s0 13 [(0, .ref l0)] [] m o (f_X3_init_13 l0 m o) := by
  refine Mh_aload_n 0 rfl dX3_init_13 ?_
  refine Mh_sipush (v := 200) dX3_init_14 (by decide) ?_
  refine Mh_nar 20 0 200 .int (.inl rfl) rfl rfl (fun _ _ h => h) (.inr ⟨by decide, rfl⟩) nar_20 (by decide) (by decide) (by decide) dX3_init_17 ?_
  exact t_X3_init_19 l E c0 s0 _ _ _ _ _
def f_X3_init_10 (l0 : Nat) (y1 : Nat) (y0 : Nat) (m : Mm) (o : Prop) : Unit × Mm × Prop := f_X3_init_13 l0 (sR m y0 0 y1) (o ∧ (gT m y0 = 4 ∧ y1 ≠ 0))
set_option maxRecDepth 10000 in
theorem t_X3_init_10 (l : Launch) (E : En) (c0 s0 : Nat) (l0 : Nat) (y1 : Nat) (y0 : Nat) (m : Mm) (o : Prop) : Mh wU l E mi_X3_init c0 s0 10 [(0, .ref l0)] [.ref y1, .ref y0] m o (f_X3_init_10 l0 y1 y0 m o) := by
  refine Mh_pR fd_3_0 ft_3 (.inr ⟨_, rfl⟩) fl_RX3_9 (.inr ⟨rfl, rfl, rfl, flg_RX3_9⟩) dX3_init_10 ?_
  exact t_X3_init_13 l E c0 s0 _ _ _
def f_X3_init_0 (l0 : Nat) (m : Mm) (o : Prop) : Unit × Mm × Prop := f_X3_init_10 l0 (gC m + 1) l0 (nC m 20 200 200) o
set_option maxRecDepth 10000 in
theorem t_X3_init_0 (l : Launch) (E : En) (c0 s0 : Nat) (l0 : Nat) (m : Mm) (o : Prop) : Mh wU l E mi_X3_init c0 s0 0 [(0, .ref l0)] [] m o (f_X3_init_0 l0 m o) := by
  refine Mh_aload_n 0 rfl dX3_init_0 ?_
  refine Mh_oin (by decide) ml_RX3_1 obj_1 obj_2 dX3_init_1 ?_
  refine Mh_aload_n 0 rfl dX3_init_4 ?_
  refine Mh_sipush (v := 200) dX3_init_5 (by decide) ?_
  refine Mh_nar 20 0 200 .int (.inl rfl) rfl rfl (fun _ _ h => h) (.inr ⟨by decide, rfl⟩) nar_20 (by decide) (by decide) (by decide) dX3_init_8 ?_
  exact t_X3_init_10 l E c0 s0 _ _ _ _ _
def F_X3_init (a0 : Nat) (m : Mm) (o : Prop) : Unit × Mm × Prop := f_X3_init_0 a0 m o
theorem T_X3_init (l : Launch) (E : En) (a0 : Nat) (m : Mm) (o : Prop) : Mt wU l E yX3_init mi_X3_init [.ref a0] m o (F_X3_init a0 m o) :=
  Mt_U (by decide) rfl (fun _ => rfl) rfl (Nat.le_of_ble_eq_true rfl) rfl (t_X3_init_0 l E _ _ _ _ _)
def f_X4_init_9 (m : Mm) (o : Prop) : Unit × Mm × Prop := ((), m, o)
set_option maxRecDepth 10000 in
theorem t_X4_init_9 (l : Launch) (E : En) (c0 s0 : Nat) (m : Mm) (o : Prop) : Mh wU l E mi_X4_init c0 s0 9 [] [] m o (f_X4_init_9  m o) := by
  exact Mh_ret dX4_init_9 rfl (fun _ => trivial) rfl
def f_X4_init_0 (l0 : Nat) (l1 : Nat) (m : Mm) (o : Prop) : Unit × Mm × Prop := f_X4_init_9  (sR m l0 0 l1) (o ∧ (gT m l0 = 5 ∧ l1 ≠ 0))
set_option maxRecDepth 10000 in
theorem t_X4_init_0 (l : Launch) (E : En) (c0 s0 : Nat) (l0 : Nat) (l1 : Nat) (m : Mm) (o : Prop) : Mh wU l E mi_X4_init c0 s0 0 [(0, .ref l0), (1, .ref l1)] [] m o (f_X4_init_0 l0 l1 m o) := by
  refine Mh_aload_n 0 rfl dX4_init_0 ?_
  refine Mh_oin (by decide) ml_RX4_3 obj_1 obj_2 dX4_init_1 ?_
  refine Mh_aload_n 0 rfl dX4_init_4 ?_
  refine Mh_aload_n 1 rfl dX4_init_5 ?_
  refine Mh_pR fd_4_0 ft_4 (.inl ⟨_, rfl⟩) fl_RX4_9 (.inr ⟨rfl, rfl, rfl, flg_RX4_9⟩) dX4_init_6 ?_
  refine Mh_sub (lv' := []) [] rfl ?_
  exact t_X4_init_9 l E c0 s0  _ _
def F_X4_init (a0 : Nat) (a1 : Nat) (m : Mm) (o : Prop) : Unit × Mm × Prop := f_X4_init_0 a0 a1 m o
theorem T_X4_init (l : Launch) (E : En) (a0 : Nat) (a1 : Nat) (m : Mm) (o : Prop) : Mt wU l E yX4_init mi_X4_init [.ref a0, .ref a1] m o (F_X4_init a0 a1 m o) :=
  Mt_U (by decide) rfl (fun _ => rfl) rfl (Nat.le_of_ble_eq_true rfl) rfl (t_X4_init_0 l E _ _ _ _ _ _)
def f_X1_init_11 (m : Mm) (o : Prop) : Unit × Mm × Prop := ((), m, o)
set_option maxRecDepth 10000 in
theorem t_X1_init_11 (l : Launch) (E : En) (c0 s0 : Nat) (m : Mm) (o : Prop) : Mh wU l E mi_X1_init c0 s0 11 [] [] m o (f_X1_init_11  m o) := by
  exact Mh_ret dX1_init_11 rfl (fun _ => trivial) rfl
def f_X1_init_8 (y1 : Nat) (y0 : Nat) (m : Mm) (o : Prop) : Unit × Mm × Prop := f_X1_init_11  (sR m y0 5 y1) (o ∧ (gT m y0 = 2 ∧ y1 ≠ 0))
set_option maxRecDepth 10000 in
theorem t_X1_init_8 (l : Launch) (E : En) (c0 s0 : Nat) (y1 : Nat) (y0 : Nat) (m : Mm) (o : Prop) : Mh wU l E mi_X1_init c0 s0 8 [] [.ref y1, .ref y0] m o (f_X1_init_8 y1 y0 m o) := by
  refine Mh_pR fd_1_5 ft_1 (.inr ⟨_, rfl⟩) fl_RX1_9 (.inr ⟨rfl, rfl, rfl, flg_RX1_9⟩) dX1_init_8 ?_
  exact t_X1_init_11 l E c0 s0  _ _
def f_X1_init_0 (l0 : Nat) (m : Mm) (o : Prop) : Unit × Mm × Prop := f_X1_init_8 (gC m + 1) l0 (nC m 20 5 5) o
set_option maxRecDepth 10000 in
theorem t_X1_init_0 (l : Launch) (E : En) (c0 s0 : Nat) (l0 : Nat) (m : Mm) (o : Prop) : Mh wU l E mi_X1_init c0 s0 0 [(0, .ref l0)] [] m o (f_X1_init_0 l0 m o) := by
  refine Mh_aload_n 0 rfl dX1_init_0 ?_
  refine Mh_oin (by decide) ml_RX1_3 obj_1 obj_2 dX1_init_1 ?_
  refine Mh_aload_n 0 rfl dX1_init_4 ?_
  refine Mh_iconst (v := 5) dX1_init_5 (by decide) ?_
  refine Mh_nar 20 0 5 .int (.inl rfl) rfl rfl (fun _ _ h => h) (.inr ⟨by decide, rfl⟩) nar_20 (by decide) (by decide) (by decide) dX1_init_6 ?_
  refine Mh_sub (lv' := []) [] rfl ?_
  exact t_X1_init_8 l E c0 s0 _ _ _ _
def F_X1_init (a0 : Nat) (m : Mm) (o : Prop) : Unit × Mm × Prop := f_X1_init_0 a0 m o
theorem T_X1_init (l : Launch) (E : En) (a0 : Nat) (m : Mm) (o : Prop) : Mt wU l E yX1_init mi_X1_init [.ref a0] m o (F_X1_init a0 m o) :=
  Mt_U (by decide) rfl (fun _ => rfl) rfl (Nat.le_of_ble_eq_true rfl) rfl (t_X1_init_0 l E _ _ _ _ _)
def f_X7_init_12 (m : Mm) (o : Prop) : Unit × Mm × Prop := ((), m, o)
set_option maxRecDepth 10000 in
theorem t_X7_init_12 (l : Launch) (E : En) (c0 s0 : Nat) (m : Mm) (o : Prop) : Mh wU l E mi_X7_init c0 s0 12 [] [] m o (f_X7_init_12  m o) := by
  exact Mh_ret dX7_init_12 rfl (fun _ => trivial) rfl
def f_X7_init_9 (y1 : Nat) (y0 : Nat) (m : Mm) (o : Prop) : Unit × Mm × Prop := f_X7_init_12  (sR m y0 8 y1) (o ∧ (gT m y0 = 8 ∧ y1 ≠ 0))
set_option maxRecDepth 10000 in
theorem t_X7_init_9 (l : Launch) (E : En) (c0 s0 : Nat) (y1 : Nat) (y0 : Nat) (m : Mm) (o : Prop) : Mh wU l E mi_X7_init c0 s0 9 [] [.ref y1, .ref y0] m o (f_X7_init_9 y1 y0 m o) := by
  refine Mh_pR fd_7_8 ft_7 (.inr ⟨_, rfl⟩) fl_RX7_9 (.inr ⟨rfl, rfl, rfl, flg_RX7_9⟩) dX7_init_9 ?_
  exact t_X7_init_12 l E c0 s0  _ _
def f_X7_init_0 (l0 : Nat) (m : Mm) (o : Prop) : Unit × Mm × Prop := f_X7_init_9 (gC m + 1) l0 (nC m 20 16 16) o
set_option maxRecDepth 10000 in
theorem t_X7_init_0 (l : Launch) (E : En) (c0 s0 : Nat) (l0 : Nat) (m : Mm) (o : Prop) : Mh wU l E mi_X7_init c0 s0 0 [(0, .ref l0)] [] m o (f_X7_init_0 l0 m o) := by
  refine Mh_aload_n 0 rfl dX7_init_0 ?_
  refine Mh_oin (by decide) ml_RX7_3 obj_1 obj_2 dX7_init_1 ?_
  refine Mh_aload_n 0 rfl dX7_init_4 ?_
  refine Mh_bipush (v := 16) dX7_init_5 (by decide) ?_
  refine Mh_nar 20 0 16 .int (.inl rfl) rfl rfl (fun _ _ h => h) (.inr ⟨by decide, rfl⟩) nar_20 (by decide) (by decide) (by decide) dX7_init_7 ?_
  refine Mh_sub (lv' := []) [] rfl ?_
  exact t_X7_init_9 l E c0 s0 _ _ _ _
def F_X7_init (a0 : Nat) (m : Mm) (o : Prop) : Unit × Mm × Prop := f_X7_init_0 a0 m o
theorem T_X7_init (l : Launch) (E : En) (a0 : Nat) (m : Mm) (o : Prop) : Mt wU l E yX7_init mi_X7_init [.ref a0] m o (F_X7_init a0 m o) :=
  Mt_U (by decide) rfl (fun _ => rfl) rfl (Nat.le_of_ble_eq_true rfl) rfl (t_X7_init_0 l E _ _ _ _ _)
def f_X5_init_91 (k72 : Nat → Int32 → Mm → Prop → Unit × Mm × Prop) (l0 : Nat) (l1 : Int32) (m : Mm) (o : Prop) : Unit × Mm × Prop := k72 l0 (l1 + 1) m o
set_option maxRecDepth 10000 in
theorem t_X5_init_91 (l : Launch) (E : En) (c0 s0 : Nat) (k72 : Nat → Int32 → Mm → Prop → Unit × Mm × Prop) (hk72 : ∀ (l0 : Nat) (l1 : Int32) (m : Mm) (o : Prop), Mh wU l E mi_X5_init c0 s0 72 [(0, .ref l0), (1, .int l1)] [] m o (k72 l0 l1 m o)) (l0 : Nat) (l1 : Int32) (m : Mm) (o : Prop) : Mh wU l E mi_X5_init c0 s0 91 [(0, .ref l0), (1, .int l1)] [] m o (f_X5_init_91 k72 l0 l1 m o) := by
  refine Mh_iinc (v := l1 + 1) (lv' := [(1, .int (l1 + 1)), (0, .ref l0)]) 1 dX5_init_91 rfl rfl (Nat.le_of_ble_eq_true rfl) rfl ?_
  refine Mh_goto (tgt := 72) dX5_init_94 (by decide) ?_
  refine Mh_sub (lv' := [(0, .ref l0), (1, .int (l1 + 1))]) [1, 0] rfl ?_
  exact hk72 _ _ _ _
def f_X5_init_90 (k72 : Nat → Int32 → Mm → Prop → Unit × Mm × Prop) (l0 : Nat) (l1 : Int32) (y2 : Nat) (y1 : Int32) (y0 : Nat) (m : Mm) (o : Prop) : Unit × Mm × Prop := f_X5_init_91 k72 l0 l1 (sR m y0 (ix y1) y2) (o ∧ (gT m y0 = 24 ∧ vp_in y1 (gN m y0) ∧ gT m y2 = 8))
set_option maxRecDepth 10000 in
theorem t_X5_init_90 (l : Launch) (E : En) (c0 s0 : Nat) (k72 : Nat → Int32 → Mm → Prop → Unit × Mm × Prop) (hk72 : ∀ (l0 : Nat) (l1 : Int32) (m : Mm) (o : Prop), Mh wU l E mi_X5_init c0 s0 72 [(0, .ref l0), (1, .int l1)] [] m o (k72 l0 l1 m o)) (l0 : Nat) (l1 : Int32) (y2 : Nat) (y1 : Int32) (y0 : Nat) (m : Mm) (o : Prop) : Mh wU l E mi_X5_init c0 s0 90 [(0, .ref l0), (1, .int l1)] [.ref y2, .int y1, .ref y0] m o (f_X5_init_90 k72 l0 l1 y2 y1 y0 m o) := by
  refine Mh_aas 24 7 (.inl ⟨rfl, rfl⟩) dX5_init_90 ?_
  exact t_X5_init_91 l E c0 s0 k72 hk72 _ _ _ _
def f_X5_init_86 (k72 : Nat → Int32 → Mm → Prop → Unit × Mm × Prop) (l0 : Nat) (l1 : Int32) (y2 : Nat) (y1 : Int32) (y0 : Nat) (m : Mm) (o : Prop) : Unit × Mm × Prop := bnd (F_X7_init y2 m o) (fun _ m1 o1 => f_X5_init_90 k72 l0 l1 y2 y1 y0 m1 o1)
set_option maxRecDepth 10000 in
theorem t_X5_init_86 (l : Launch) (E : En) (c0 s0 : Nat) (k72 : Nat → Int32 → Mm → Prop → Unit × Mm × Prop) (hk72 : ∀ (l0 : Nat) (l1 : Int32) (m : Mm) (o : Prop), Mh wU l E mi_X5_init c0 s0 72 [(0, .ref l0), (1, .int l1)] [] m o (k72 l0 l1 m o)) (l0 : Nat) (l1 : Int32) (y2 : Nat) (y1 : Int32) (y0 : Nat) (m : Mm) (o : Prop) : Mh wU l E mi_X5_init c0 s0 86 [(0, .ref l0), (1, .int l1)] [.ref y2, .int y1, .ref y0] m o (f_X5_init_86 k72 l0 l1 y2 y1 y0 m o) := by
  refine Mh_dup dX5_init_86 rfl ?_
  refine Mh_ciU (N := mi_X7_init) (q := y2) (as := []) (st := [.ref y2, .int y1, .ref y0]) cg_yX7_init rfl rfl (.inr ⟨_, ml_RX5_46⟩) ii_yX7_init pd_yX7_init rfl (by decide) (Nat.le_of_ble_eq_true rfl) rfl dX5_init_87 (T_X7_init l E _ _ _) rfl ?_
  exact t_X5_init_90 l E c0 s0 k72 hk72 _ _ _ _ _ _ _
def f_X5_init_118 (k99 : Nat → Int32 → Mm → Prop → Unit × Mm × Prop) (l0 : Nat) (l1 : Int32) (m : Mm) (o : Prop) : Unit × Mm × Prop := k99 l0 (l1 + 1) m o
set_option maxRecDepth 10000 in
theorem t_X5_init_118 (l : Launch) (E : En) (c0 s0 : Nat) (k99 : Nat → Int32 → Mm → Prop → Unit × Mm × Prop) (hk99 : ∀ (l0 : Nat) (l1 : Int32) (m : Mm) (o : Prop), Mh wU l E mi_X5_init c0 s0 99 [(0, .ref l0), (1, .int l1)] [] m o (k99 l0 l1 m o)) (l0 : Nat) (l1 : Int32) (m : Mm) (o : Prop) : Mh wU l E mi_X5_init c0 s0 118 [(0, .ref l0), (1, .int l1)] [] m o (f_X5_init_118 k99 l0 l1 m o) := by
  refine Mh_iinc (v := l1 + 1) (lv' := [(1, .int (l1 + 1)), (0, .ref l0)]) 1 dX5_init_118 rfl rfl (Nat.le_of_ble_eq_true rfl) rfl ?_
  refine Mh_goto (tgt := 99) dX5_init_121 (by decide) ?_
  refine Mh_sub (lv' := [(0, .ref l0), (1, .int (l1 + 1))]) [1, 0] rfl ?_
  exact hk99 _ _ _ _
def f_X5_init_117 (k99 : Nat → Int32 → Mm → Prop → Unit × Mm × Prop) (l0 : Nat) (l1 : Int32) (y2 : Nat) (y1 : Int32) (y0 : Nat) (m : Mm) (o : Prop) : Unit × Mm × Prop := f_X5_init_118 k99 l0 l1 (sR m y0 (ix y1) y2) (o ∧ (gT m y0 = 25 ∧ vp_in y1 (gN m y0) ∧ gT m y2 = 2))
set_option maxRecDepth 10000 in
theorem t_X5_init_117 (l : Launch) (E : En) (c0 s0 : Nat) (k99 : Nat → Int32 → Mm → Prop → Unit × Mm × Prop) (hk99 : ∀ (l0 : Nat) (l1 : Int32) (m : Mm) (o : Prop), Mh wU l E mi_X5_init c0 s0 99 [(0, .ref l0), (1, .int l1)] [] m o (k99 l0 l1 m o)) (l0 : Nat) (l1 : Int32) (y2 : Nat) (y1 : Int32) (y0 : Nat) (m : Mm) (o : Prop) : Mh wU l E mi_X5_init c0 s0 117 [(0, .ref l0), (1, .int l1)] [.ref y2, .int y1, .ref y0] m o (f_X5_init_117 k99 l0 l1 y2 y1 y0 m o) := by
  refine Mh_aas 25 1 (.inr ⟨rfl, rfl⟩) dX5_init_117 ?_
  exact t_X5_init_118 l E c0 s0 k99 hk99 _ _ _ _
def f_X5_init_113 (k99 : Nat → Int32 → Mm → Prop → Unit × Mm × Prop) (l0 : Nat) (l1 : Int32) (y2 : Nat) (y1 : Int32) (y0 : Nat) (m : Mm) (o : Prop) : Unit × Mm × Prop := bnd (F_X1_init y2 m o) (fun _ m1 o1 => f_X5_init_117 k99 l0 l1 y2 y1 y0 m1 o1)
set_option maxRecDepth 10000 in
theorem t_X5_init_113 (l : Launch) (E : En) (c0 s0 : Nat) (k99 : Nat → Int32 → Mm → Prop → Unit × Mm × Prop) (hk99 : ∀ (l0 : Nat) (l1 : Int32) (m : Mm) (o : Prop), Mh wU l E mi_X5_init c0 s0 99 [(0, .ref l0), (1, .int l1)] [] m o (k99 l0 l1 m o)) (l0 : Nat) (l1 : Int32) (y2 : Nat) (y1 : Int32) (y0 : Nat) (m : Mm) (o : Prop) : Mh wU l E mi_X5_init c0 s0 113 [(0, .ref l0), (1, .int l1)] [.ref y2, .int y1, .ref y0] m o (f_X5_init_113 k99 l0 l1 y2 y1 y0 m o) := by
  refine Mh_dup dX5_init_113 rfl ?_
  refine Mh_ciU (N := mi_X1_init) (q := y2) (as := []) (st := [.ref y2, .int y1, .ref y0]) cg_yX1_init rfl rfl (.inr ⟨_, ml_RX5_47⟩) ii_yX1_init pd_yX1_init rfl (by decide) (Nat.le_of_ble_eq_true rfl) rfl dX5_init_114 (T_X1_init l E _ _ _) rfl ?_
  exact t_X5_init_117 l E c0 s0 k99 hk99 _ _ _ _ _ _ _
def f_X5_init_99b (k99 : Nat → Int32 → Mm → Prop → Unit × Mm × Prop) (l0 : Nat) (l1 : Int32) (m : Mm) (o : Prop) : Unit × Mm × Prop := if (16 : Int32) ≤ l1 then ((), m, o) else (f_X5_init_113 k99 l0 l1 (gC m + 1) l1 (gR m l0 1) (nC m 2 0 6) (o ∧ (gT m l0 = 6 ∧ gR m l0 1 ≠ 0)))
set_option maxRecDepth 10000 in
theorem t_X5_init_99b (l : Launch) (E : En) (c0 s0 : Nat) (k99 : Nat → Int32 → Mm → Prop → Unit × Mm × Prop) (hk99 : ∀ (l0 : Nat) (l1 : Int32) (m : Mm) (o : Prop), Mh wU l E mi_X5_init c0 s0 99 [(0, .ref l0), (1, .int l1)] [] m o (k99 l0 l1 m o)) (l0 : Nat) (l1 : Int32) (m : Mm) (o : Prop) : Mh wU l E mi_X5_init c0 s0 99 [(0, .ref l0), (1, .int l1)] [] m o (f_X5_init_99b k99 l0 l1 m o) := by
  refine Mh_iload_n 1 rfl dX5_init_99 ?_
  refine Mh_bipush (v := 16) dX5_init_100 (by decide) ?_
  refine Mh_icmp_ge (tgt := 124) dX5_init_102 (by decide) rfl (fun _ => ?_) (fun _ => ?_)
  · exact Mh_ret dX5_init_124 rfl (fun _ => trivial) rfl
  · refine Mh_aload_n 0 rfl dX5_init_105 ?_
    refine Mh_gR fd_5_1 fl_RX5_19 dX5_init_106 ?_
    refine Mh_iload_n 1 rfl dX5_init_109 ?_
    refine Mh_new (ci := 1) (by decide) rfl nin_1 ft_1 ndf_1 cl_RX5_17 nins_1 nini_1 dX5_init_110 ?_
    exact t_X5_init_113 l E c0 s0 k99 hk99 _ _ _ _ _ _ _
def f_X5_init_99 : Nat → Nat → Int32 → Mm → Prop → Unit × Mm × Prop
  | 0, _, _, m, _ => ((), m, False)
  | n + 1, l0, l1, m, o => f_X5_init_99b (f_X5_init_99 n) l0 l1 m o
theorem t_X5_init_99 (l : Launch) (E : En) (c0 s0 : Nat) : ∀ (n : Nat) (l0 : Nat) (l1 : Int32) (m : Mm) (o : Prop), Mh wU l E mi_X5_init c0 s0 99 [(0, .ref l0), (1, .int l1)] [] m o (f_X5_init_99 n l0 l1 m o)
  | 0, _, _, _, _ => Mh_out rfl
  | n + 1, l0, l1, m, o => t_X5_init_99b l E c0 s0 (f_X5_init_99 n) (t_X5_init_99 l E c0 s0 n) l0 l1 m o
def f_X5_init_72b (k72 : Nat → Int32 → Mm → Prop → Unit × Mm × Prop) (l0 : Nat) (l1 : Int32) (m : Mm) (o : Prop) : Unit × Mm × Prop := if (12 : Int32) ≤ l1 then (f_X5_init_99 1000 l0 (0 : Int32) m o) else (f_X5_init_86 k72 l0 l1 (gC m + 1) l1 (gR m l0 0) (nC m 8 0 9) (o ∧ (gT m l0 = 6 ∧ gR m l0 0 ≠ 0)))
set_option maxRecDepth 10000 in
theorem t_X5_init_72b (l : Launch) (E : En) (c0 s0 : Nat) (k72 : Nat → Int32 → Mm → Prop → Unit × Mm × Prop) (hk72 : ∀ (l0 : Nat) (l1 : Int32) (m : Mm) (o : Prop), Mh wU l E mi_X5_init c0 s0 72 [(0, .ref l0), (1, .int l1)] [] m o (k72 l0 l1 m o)) (l0 : Nat) (l1 : Int32) (m : Mm) (o : Prop) : Mh wU l E mi_X5_init c0 s0 72 [(0, .ref l0), (1, .int l1)] [] m o (f_X5_init_72b k72 l0 l1 m o) := by
  refine Mh_iload_n 1 rfl dX5_init_72 ?_
  refine Mh_bipush (v := 12) dX5_init_73 (by decide) ?_
  refine Mh_icmp_ge (tgt := 97) dX5_init_75 (by decide) rfl (fun _ => ?_) (fun _ => ?_)
  · refine Mh_iconst (v := 0) dX5_init_97 (by decide) ?_
    refine Mh_istore_n (lv' := [(1, .int (0 : Int32)), (0, .ref l0)]) dX5_init_98 (Nat.le_of_ble_eq_true rfl) rfl ?_
    refine Mh_sub (lv' := [(0, .ref l0), (1, .int (0 : Int32))]) [1, 0] rfl ?_
    exact t_X5_init_99 l E c0 s0 _ _ _ _ _
  · refine Mh_aload_n 0 rfl dX5_init_78 ?_
    refine Mh_gR fd_5_0 fl_RX5_11 dX5_init_79 ?_
    refine Mh_iload_n 1 rfl dX5_init_82 ?_
    refine Mh_new (ci := 7) (by decide) rfl nin_7 ft_7 ndf_7 cl_RX5_9 nins_7 nini_7 dX5_init_83 ?_
    exact t_X5_init_86 l E c0 s0 k72 hk72 _ _ _ _ _ _ _
def f_X5_init_72 : Nat → Nat → Int32 → Mm → Prop → Unit × Mm × Prop
  | 0, _, _, m, _ => ((), m, False)
  | n + 1, l0, l1, m, o => f_X5_init_72b (f_X5_init_72 n) l0 l1 m o
theorem t_X5_init_72 (l : Launch) (E : En) (c0 s0 : Nat) : ∀ (n : Nat) (l0 : Nat) (l1 : Int32) (m : Mm) (o : Prop), Mh wU l E mi_X5_init c0 s0 72 [(0, .ref l0), (1, .int l1)] [] m o (f_X5_init_72 n l0 l1 m o)
  | 0, _, _, _, _ => Mh_out rfl
  | n + 1, l0, l1, m, o => t_X5_init_72b l E c0 s0 (f_X5_init_72 n) (t_X5_init_72 l E c0 s0 n) l0 l1 m o
def f_X5_init_70 (l0 : Nat) (m : Mm) (o : Prop) : Unit × Mm × Prop := f_X5_init_72 1000 l0 (0 : Int32) m o
set_option maxRecDepth 10000 in
theorem t_X5_init_70 (l : Launch) (E : En) (c0 s0 : Nat) (l0 : Nat) (m : Mm) (o : Prop) : Mh wU l E mi_X5_init c0 s0 70 [(0, .ref l0)] [] m o (f_X5_init_70 l0 m o) := by
  refine Mh_iconst (v := 0) dX5_init_70 (by decide) ?_
  refine Mh_istore_n (lv' := [(1, .int (0 : Int32)), (0, .ref l0)]) dX5_init_71 (Nat.le_of_ble_eq_true rfl) rfl ?_
  refine Mh_sub (lv' := [(0, .ref l0), (1, .int (0 : Int32))]) [1, 0] rfl ?_
  exact t_X5_init_72 l E c0 s0 _ _ _ _ _
def f_X5_init_65 (l0 : Nat) (m : Mm) (o : Prop) : Unit × Mm × Prop := f_X5_init_70 l0 (sI m l0 11 (1 : Int32)) (o ∧ gT m l0 = 6)
set_option maxRecDepth 10000 in
theorem t_X5_init_65 (l : Launch) (E : En) (c0 s0 : Nat) (l0 : Nat) (m : Mm) (o : Prop) : Mh wU l E mi_X5_init c0 s0 65 [(0, .ref l0)] [] m o (f_X5_init_65 l0 m o) := by
  refine Mh_aload_n 0 rfl dX5_init_65 ?_
  refine Mh_iconst (v := 1) dX5_init_66 (by decide) ?_
  refine Mh_pI fd_5_11 ft_5 rfl fl_RX5_43 rfl dX5_init_67 ?_
  exact t_X5_init_70 l E c0 s0 _ _ _
def f_X5_init_60 (l0 : Nat) (m : Mm) (o : Prop) : Unit × Mm × Prop := f_X5_init_65 l0 (sI m l0 9 (-1 : Int32)) (o ∧ gT m l0 = 6)
set_option maxRecDepth 10000 in
theorem t_X5_init_60 (l : Launch) (E : En) (c0 s0 : Nat) (l0 : Nat) (m : Mm) (o : Prop) : Mh wU l E mi_X5_init c0 s0 60 [(0, .ref l0)] [] m o (f_X5_init_60 l0 m o) := by
  refine Mh_aload_n 0 rfl dX5_init_60 ?_
  refine Mh_iconst (v := (-1)) dX5_init_61 (by decide) ?_
  refine Mh_pI fd_5_9 ft_5 rfl fl_RX5_40 rfl dX5_init_62 ?_
  exact t_X5_init_65 l E c0 s0 _ _ _
def f_X5_init_55 (l0 : Nat) (m : Mm) (o : Prop) : Unit × Mm × Prop := f_X5_init_60 l0 (sI m l0 8 (-1 : Int32)) (o ∧ gT m l0 = 6)
set_option maxRecDepth 10000 in
theorem t_X5_init_55 (l : Launch) (E : En) (c0 s0 : Nat) (l0 : Nat) (m : Mm) (o : Prop) : Mh wU l E mi_X5_init c0 s0 55 [(0, .ref l0)] [] m o (f_X5_init_55 l0 m o) := by
  refine Mh_aload_n 0 rfl dX5_init_55 ?_
  refine Mh_iconst (v := (-1)) dX5_init_56 (by decide) ?_
  refine Mh_pI fd_5_8 ft_5 rfl fl_RX5_36 rfl dX5_init_57 ?_
  exact t_X5_init_60 l E c0 s0 _ _ _
def f_X5_init_52 (l0 : Nat) (y1 : Nat) (y0 : Nat) (m : Mm) (o : Prop) : Unit × Mm × Prop := f_X5_init_55 l0 (sR m y0 5 y1) (o ∧ (gT m y0 = 6 ∧ y1 ≠ 0))
set_option maxRecDepth 10000 in
theorem t_X5_init_52 (l : Launch) (E : En) (c0 s0 : Nat) (l0 : Nat) (y1 : Nat) (y0 : Nat) (m : Mm) (o : Prop) : Mh wU l E mi_X5_init c0 s0 52 [(0, .ref l0)] [.ref y1, .ref y0] m o (f_X5_init_52 l0 y1 y0 m o) := by
  refine Mh_pR fd_5_5 ft_5 (.inr ⟨_, rfl⟩) fl_RX5_33 (.inr ⟨rfl, rfl, rfl, flg_RX5_33⟩) dX5_init_52 ?_
  exact t_X5_init_55 l E c0 s0 _ _ _
def f_X5_init_46 (l0 : Nat) (m : Mm) (o : Prop) : Unit × Mm × Prop := f_X5_init_52 l0 (gC m + 1) l0 (nC m 20 192 192) o
set_option maxRecDepth 10000 in
theorem t_X5_init_46 (l : Launch) (E : En) (c0 s0 : Nat) (l0 : Nat) (m : Mm) (o : Prop) : Mh wU l E mi_X5_init c0 s0 46 [(0, .ref l0)] [] m o (f_X5_init_46 l0 m o) := by
  refine Mh_aload_n 0 rfl dX5_init_46 ?_
  refine Mh_sipush (v := 192) dX5_init_47 (by decide) ?_
  refine Mh_nar 20 0 192 .int (.inl rfl) rfl rfl (fun _ _ h => h) (.inr ⟨by decide, rfl⟩) nar_20 (by decide) (by decide) (by decide) dX5_init_50 ?_
  exact t_X5_init_52 l E c0 s0 _ _ _ _ _
def f_X5_init_43 (l0 : Nat) (y1 : Nat) (y0 : Nat) (m : Mm) (o : Prop) : Unit × Mm × Prop := f_X5_init_46 l0 (sR m y0 4 y1) (o ∧ (gT m y0 = 6 ∧ y1 ≠ 0))
set_option maxRecDepth 10000 in
theorem t_X5_init_43 (l : Launch) (E : En) (c0 s0 : Nat) (l0 : Nat) (y1 : Nat) (y0 : Nat) (m : Mm) (o : Prop) : Mh wU l E mi_X5_init c0 s0 43 [(0, .ref l0)] [.ref y1, .ref y0] m o (f_X5_init_43 l0 y1 y0 m o) := by
  refine Mh_pR fd_5_4 ft_5 (.inr ⟨_, rfl⟩) fl_RX5_30 (.inr ⟨rfl, rfl, rfl, flg_RX5_30⟩) dX5_init_43 ?_
  exact t_X5_init_46 l E c0 s0 _ _ _
def f_X5_init_37 (l0 : Nat) (m : Mm) (o : Prop) : Unit × Mm × Prop := f_X5_init_43 l0 (gC m + 1) l0 (nC m 20 192 192) o
set_option maxRecDepth 10000 in
theorem t_X5_init_37 (l : Launch) (E : En) (c0 s0 : Nat) (l0 : Nat) (m : Mm) (o : Prop) : Mh wU l E mi_X5_init c0 s0 37 [(0, .ref l0)] [] m o (f_X5_init_37 l0 m o) := by
  refine Mh_aload_n 0 rfl dX5_init_37 ?_
  refine Mh_sipush (v := 192) dX5_init_38 (by decide) ?_
  refine Mh_nar 20 0 192 .int (.inl rfl) rfl rfl (fun _ _ h => h) (.inr ⟨by decide, rfl⟩) nar_20 (by decide) (by decide) (by decide) dX5_init_41 ?_
  exact t_X5_init_43 l E c0 s0 _ _ _ _ _
def f_X5_init_34 (l0 : Nat) (y1 : Nat) (y0 : Nat) (m : Mm) (o : Prop) : Unit × Mm × Prop := f_X5_init_37 l0 (sR m y0 3 y1) (o ∧ (gT m y0 = 6 ∧ y1 ≠ 0))
set_option maxRecDepth 10000 in
theorem t_X5_init_34 (l : Launch) (E : En) (c0 s0 : Nat) (l0 : Nat) (y1 : Nat) (y0 : Nat) (m : Mm) (o : Prop) : Mh wU l E mi_X5_init c0 s0 34 [(0, .ref l0)] [.ref y1, .ref y0] m o (f_X5_init_34 l0 y1 y0 m o) := by
  refine Mh_pR fd_5_3 ft_5 (.inr ⟨_, rfl⟩) fl_RX5_27 (.inr ⟨rfl, rfl, rfl, flg_RX5_27⟩) dX5_init_34 ?_
  exact t_X5_init_37 l E c0 s0 _ _ _
def f_X5_init_29 (l0 : Nat) (m : Mm) (o : Prop) : Unit × Mm × Prop := f_X5_init_34 l0 (gC m + 1) l0 (nC m 20 16 16) o
set_option maxRecDepth 10000 in
theorem t_X5_init_29 (l : Launch) (E : En) (c0 s0 : Nat) (l0 : Nat) (m : Mm) (o : Prop) : Mh wU l E mi_X5_init c0 s0 29 [(0, .ref l0)] [] m o (f_X5_init_29 l0 m o) := by
  refine Mh_aload_n 0 rfl dX5_init_29 ?_
  refine Mh_bipush (v := 16) dX5_init_30 (by decide) ?_
  refine Mh_nar 20 0 16 .int (.inl rfl) rfl rfl (fun _ _ h => h) (.inr ⟨by decide, rfl⟩) nar_20 (by decide) (by decide) (by decide) dX5_init_32 ?_
  exact t_X5_init_34 l E c0 s0 _ _ _ _ _
def f_X5_init_26 (l0 : Nat) (y1 : Nat) (y0 : Nat) (m : Mm) (o : Prop) : Unit × Mm × Prop := f_X5_init_29 l0 (sR m y0 2 y1) (o ∧ (gT m y0 = 6 ∧ y1 ≠ 0))
set_option maxRecDepth 10000 in
theorem t_X5_init_26 (l : Launch) (E : En) (c0 s0 : Nat) (l0 : Nat) (y1 : Nat) (y0 : Nat) (m : Mm) (o : Prop) : Mh wU l E mi_X5_init c0 s0 26 [(0, .ref l0)] [.ref y1, .ref y0] m o (f_X5_init_26 l0 y1 y0 m o) := by
  refine Mh_pR fd_5_2 ft_5 (.inr ⟨_, rfl⟩) fl_RX5_23 (.inr ⟨rfl, rfl, rfl, flg_RX5_23⟩) dX5_init_26 ?_
  exact t_X5_init_29 l E c0 s0 _ _ _
def f_X5_init_22 (l0 : Nat) (m : Mm) (o : Prop) : Unit × Mm × Prop := f_X5_init_26 l0 (gC m + 1) l0 (nC m 20 5 5) o
set_option maxRecDepth 10000 in
theorem t_X5_init_22 (l : Launch) (E : En) (c0 s0 : Nat) (l0 : Nat) (m : Mm) (o : Prop) : Mh wU l E mi_X5_init c0 s0 22 [(0, .ref l0)] [] m o (f_X5_init_22 l0 m o) := by
  refine Mh_aload_n 0 rfl dX5_init_22 ?_
  refine Mh_iconst (v := 5) dX5_init_23 (by decide) ?_
  refine Mh_nar 20 0 5 .int (.inl rfl) rfl rfl (fun _ _ h => h) (.inr ⟨by decide, rfl⟩) nar_20 (by decide) (by decide) (by decide) dX5_init_24 ?_
  exact t_X5_init_26 l E c0 s0 _ _ _ _ _
def f_X5_init_19 (l0 : Nat) (y1 : Nat) (y0 : Nat) (m : Mm) (o : Prop) : Unit × Mm × Prop := f_X5_init_22 l0 (sR m y0 1 y1) (o ∧ (gT m y0 = 6 ∧ y1 ≠ 0))
set_option maxRecDepth 10000 in
theorem t_X5_init_19 (l : Launch) (E : En) (c0 s0 : Nat) (l0 : Nat) (y1 : Nat) (y0 : Nat) (m : Mm) (o : Prop) : Mh wU l E mi_X5_init c0 s0 19 [(0, .ref l0)] [.ref y1, .ref y0] m o (f_X5_init_19 l0 y1 y0 m o) := by
  refine Mh_pR fd_5_1 ft_5 (.inr ⟨_, rfl⟩) fl_RX5_19 (.inr ⟨rfl, rfl, rfl, flg_RX5_19⟩) dX5_init_19 ?_
  exact t_X5_init_22 l E c0 s0 _ _ _
def f_X5_init_13 (l0 : Nat) (m : Mm) (o : Prop) : Unit × Mm × Prop := f_X5_init_19 l0 (gC m + 1) l0 (nC m 25 16 16) o
set_option maxRecDepth 10000 in
theorem t_X5_init_13 (l : Launch) (E : En) (c0 s0 : Nat) (l0 : Nat) (m : Mm) (o : Prop) : Mh wU l E mi_X5_init c0 s0 13 [(0, .ref l0)] [] m o (f_X5_init_13 l0 m o) := by
  refine Mh_aload_n 0 rfl dX5_init_13 ?_
  refine Mh_bipush (v := 16) dX5_init_14 (by decide) ?_
  refine Mh_anr 25 5 16 (by decide) rfl (fun _ _ h => h.2.2.1.2) cl_RX5_17 (by decide) (by decide) (by decide) dX5_init_16 ?_
  exact t_X5_init_19 l E c0 s0 _ _ _ _ _
def f_X5_init_10 (l0 : Nat) (y1 : Nat) (y0 : Nat) (m : Mm) (o : Prop) : Unit × Mm × Prop := f_X5_init_13 l0 (sR m y0 0 y1) (o ∧ (gT m y0 = 6 ∧ y1 ≠ 0))
set_option maxRecDepth 10000 in
theorem t_X5_init_10 (l : Launch) (E : En) (c0 s0 : Nat) (l0 : Nat) (y1 : Nat) (y0 : Nat) (m : Mm) (o : Prop) : Mh wU l E mi_X5_init c0 s0 10 [(0, .ref l0)] [.ref y1, .ref y0] m o (f_X5_init_10 l0 y1 y0 m o) := by
  refine Mh_pR fd_5_0 ft_5 (.inr ⟨_, rfl⟩) fl_RX5_11 (.inr ⟨rfl, rfl, rfl, flg_RX5_11⟩) dX5_init_10 ?_
  exact t_X5_init_13 l E c0 s0 _ _ _
def f_X5_init_0 (l0 : Nat) (m : Mm) (o : Prop) : Unit × Mm × Prop := f_X5_init_10 l0 (gC m + 1) l0 (nC m 24 12 12) o
set_option maxRecDepth 10000 in
theorem t_X5_init_0 (l : Launch) (E : En) (c0 s0 : Nat) (l0 : Nat) (m : Mm) (o : Prop) : Mh wU l E mi_X5_init c0 s0 0 [(0, .ref l0)] [] m o (f_X5_init_0 l0 m o) := by
  refine Mh_aload_n 0 rfl dX5_init_0 ?_
  refine Mh_oin (by decide) ml_RX5_3 obj_1 obj_2 dX5_init_1 ?_
  refine Mh_aload_n 0 rfl dX5_init_4 ?_
  refine Mh_bipush (v := 12) dX5_init_5 (by decide) ?_
  refine Mh_anr 24 4 12 (by decide) rfl (fun _ _ h => h.2.2.1.1) cl_RX5_9 (by decide) (by decide) (by decide) dX5_init_7 ?_
  exact t_X5_init_10 l E c0 s0 _ _ _ _ _
def F_X5_init (a0 : Nat) (m : Mm) (o : Prop) : Unit × Mm × Prop := f_X5_init_0 a0 m o
theorem T_X5_init (l : Launch) (E : En) (a0 : Nat) (m : Mm) (o : Prop) : Mt wU l E yX5_init mi_X5_init [.ref a0] m o (F_X5_init a0 m o) :=
  Mt_U (by decide) rfl (fun _ => rfl) rfl (Nat.le_of_ble_eq_true rfl) rfl (t_X5_init_0 l E _ _ _ _ _)
def f_X6_init_13 (m : Mm) (o : Prop) : Unit × Mm × Prop := ((), m, o)
set_option maxRecDepth 10000 in
theorem t_X6_init_13 (l : Launch) (E : En) (c0 s0 : Nat) (m : Mm) (o : Prop) : Mh wU l E mi_X6_init c0 s0 13 [] [] m o (f_X6_init_13  m o) := by
  exact Mh_ret dX6_init_13 rfl (fun _ => trivial) rfl
def f_X6_init_10 (y1 : Nat) (y0 : Nat) (m : Mm) (o : Prop) : Unit × Mm × Prop := f_X6_init_13  (sR m y0 0 y1) (o ∧ (gT m y0 = 7 ∧ y1 ≠ 0))
set_option maxRecDepth 10000 in
theorem t_X6_init_10 (l : Launch) (E : En) (c0 s0 : Nat) (y1 : Nat) (y0 : Nat) (m : Mm) (o : Prop) : Mh wU l E mi_X6_init c0 s0 10 [] [.ref y1, .ref y0] m o (f_X6_init_10 y1 y0 m o) := by
  refine Mh_pR fd_6_0 ft_6 (.inr ⟨_, rfl⟩) fl_RX6_9 (.inr ⟨rfl, rfl, rfl, flg_RX6_9⟩) dX6_init_10 ?_
  exact t_X6_init_13 l E c0 s0  _ _
def f_X6_init_0 (l0 : Nat) (m : Mm) (o : Prop) : Unit × Mm × Prop := f_X6_init_10 (gC m + 1) l0 (nC m 21 361 361) o
set_option maxRecDepth 10000 in
theorem t_X6_init_0 (l : Launch) (E : En) (c0 s0 : Nat) (l0 : Nat) (m : Mm) (o : Prop) : Mh wU l E mi_X6_init c0 s0 0 [(0, .ref l0)] [] m o (f_X6_init_0 l0 m o) := by
  refine Mh_aload_n 0 rfl dX6_init_0 ?_
  refine Mh_oin (by decide) ml_RX6_1 obj_1 obj_2 dX6_init_1 ?_
  refine Mh_aload_n 0 rfl dX6_init_4 ?_
  refine Mh_sipush (v := 361) dX6_init_5 (by decide) ?_
  refine Mh_nar 21 1 361 .long (.inr (.inl rfl)) rfl rfl (fun _ _ h => h) (.inl ⟨rfl, rfl⟩) nar_21 (by decide) (by decide) (by decide) dX6_init_8 ?_
  refine Mh_sub (lv' := []) [] rfl ?_
  exact t_X6_init_10 l E c0 s0 _ _ _ _
def F_X6_init (a0 : Nat) (m : Mm) (o : Prop) : Unit × Mm × Prop := f_X6_init_0 a0 m o
theorem T_X6_init (l : Launch) (E : En) (a0 : Nat) (m : Mm) (o : Prop) : Mt wU l E yX6_init mi_X6_init [.ref a0] m o (F_X6_init a0 m o) :=
  Mt_U (by decide) rfl (fun _ => rfl) rfl (Nat.le_of_ble_eq_true rfl) rfl (t_X6_init_0 l E _ _ _ _ _)
def f_X9_init_13 (m : Mm) (o : Prop) : Unit × Mm × Prop := ((), m, o)
set_option maxRecDepth 10000 in
theorem t_X9_init_13 (l : Launch) (E : En) (c0 s0 : Nat) (m : Mm) (o : Prop) : Mh wU l E mi_X9_init c0 s0 13 [] [] m o (f_X9_init_13  m o) := by
  exact Mh_ret dX9_init_13 rfl (fun _ => trivial) rfl
def f_X9_init_10 (y1 : Nat) (y0 : Nat) (m : Mm) (o : Prop) : Unit × Mm × Prop := f_X9_init_13  (sR m y0 0 y1) (o ∧ (gT m y0 = 9 ∧ y1 ≠ 0))
set_option maxRecDepth 10000 in
theorem t_X9_init_10 (l : Launch) (E : En) (c0 s0 : Nat) (y1 : Nat) (y0 : Nat) (m : Mm) (o : Prop) : Mh wU l E mi_X9_init c0 s0 10 [] [.ref y1, .ref y0] m o (f_X9_init_10 y1 y0 m o) := by
  refine Mh_pR fd_8_0 ft_8 (.inr ⟨_, rfl⟩) fl_RX9_11 (.inr ⟨rfl, rfl, rfl, flg_RX9_11⟩) dX9_init_10 ?_
  exact t_X9_init_13 l E c0 s0  _ _
def f_X9_init_0 (l0 : Nat) (m : Mm) (o : Prop) : Unit × Mm × Prop := f_X9_init_10 (gC m + 1) l0 (nC m 20 220 220) o
set_option maxRecDepth 10000 in
theorem t_X9_init_0 (l : Launch) (E : En) (c0 s0 : Nat) (l0 : Nat) (m : Mm) (o : Prop) : Mh wU l E mi_X9_init c0 s0 0 [(0, .ref l0)] [] m o (f_X9_init_0 l0 m o) := by
  refine Mh_aload_n 0 rfl dX9_init_0 ?_
  refine Mh_oin (by decide) ml_RX9_3 obj_1 obj_2 dX9_init_1 ?_
  refine Mh_aload_n 0 rfl dX9_init_4 ?_
  refine Mh_sipush (v := 220) dX9_init_5 (by decide) ?_
  refine Mh_nar 20 0 220 .int (.inl rfl) rfl rfl (fun _ _ h => h) (.inr ⟨by decide, rfl⟩) nar_20 (by decide) (by decide) (by decide) dX9_init_8 ?_
  refine Mh_sub (lv' := []) [] rfl ?_
  exact t_X9_init_10 l E c0 s0 _ _ _ _
def F_X9_init (a0 : Nat) (m : Mm) (o : Prop) : Unit × Mm × Prop := f_X9_init_0 a0 m o
theorem T_X9_init (l : Launch) (E : En) (a0 : Nat) (m : Mm) (o : Prop) : Mt wU l E yX9_init mi_X9_init [.ref a0] m o (F_X9_init a0 m o) :=
  Mt_U (by decide) rfl (fun _ => rfl) rfl (Nat.le_of_ble_eq_true rfl) rfl (t_X9_init_0 l E _ _ _ _ _)
def f_X10_init_33 (m : Mm) (o : Prop) : Unit × Mm × Prop := ((), m, o)
set_option maxRecDepth 10000 in
theorem t_X10_init_33 (l : Launch) (E : En) (c0 s0 : Nat) (m : Mm) (o : Prop) : Mh wU l E mi_X10_init c0 s0 33 [] [] m o (f_X10_init_33  m o) := by
  exact Mh_ret dX10_init_33 rfl (fun _ => trivial) rfl
def f_X10_init_28 (l0 : Nat) (l1 : Nat) (m : Mm) (o : Prop) : Unit × Mm × Prop := f_X10_init_33  (sR m l0 3 l1) (o ∧ (gT m l0 = 10 ∧ l1 ≠ 0))
set_option maxRecDepth 10000 in
theorem t_X10_init_28 (l : Launch) (E : En) (c0 s0 : Nat) (l0 : Nat) (l1 : Nat) (m : Mm) (o : Prop) : Mh wU l E mi_X10_init c0 s0 28 [(0, .ref l0), (1, .ref l1)] [] m o (f_X10_init_28 l0 l1 m o) := by
  refine Mh_aload_n 0 rfl dX10_init_28 ?_
  refine Mh_aload_n 1 rfl dX10_init_29 ?_
  refine Mh_pR fd_9_3 ft_9 (.inl ⟨_, rfl⟩) fl_RX10_21 (.inr ⟨rfl, rfl, rfl, flg_RX10_21⟩) dX10_init_30 ?_
  refine Mh_sub (lv' := []) [] rfl ?_
  exact t_X10_init_33 l E c0 s0  _ _
def f_X10_init_25 (l0 : Nat) (l1 : Nat) (y1 : Nat) (y0 : Nat) (m : Mm) (o : Prop) : Unit × Mm × Prop := f_X10_init_28 l0 l1 (sR m y0 2 y1) (o ∧ (gT m y0 = 10 ∧ y1 ≠ 0))
set_option maxRecDepth 10000 in
theorem t_X10_init_25 (l : Launch) (E : En) (c0 s0 : Nat) (l0 : Nat) (l1 : Nat) (y1 : Nat) (y0 : Nat) (m : Mm) (o : Prop) : Mh wU l E mi_X10_init c0 s0 25 [(0, .ref l0), (1, .ref l1)] [.ref y1, .ref y0] m o (f_X10_init_25 l0 l1 y1 y0 m o) := by
  refine Mh_pR fd_9_2 ft_9 (.inr ⟨_, rfl⟩) fl_RX10_18 (.inr ⟨rfl, rfl, rfl, flg_RX10_18⟩) dX10_init_25 ?_
  exact t_X10_init_28 l E c0 s0 _ _ _ _
def f_X10_init_20 (l0 : Nat) (l1 : Nat) (m : Mm) (o : Prop) : Unit × Mm × Prop := f_X10_init_25 l0 l1 (gC m + 1) l0 (nC m 20 30 30) o
set_option maxRecDepth 10000 in
theorem t_X10_init_20 (l : Launch) (E : En) (c0 s0 : Nat) (l0 : Nat) (l1 : Nat) (m : Mm) (o : Prop) : Mh wU l E mi_X10_init c0 s0 20 [(0, .ref l0), (1, .ref l1)] [] m o (f_X10_init_20 l0 l1 m o) := by
  refine Mh_aload_n 0 rfl dX10_init_20 ?_
  refine Mh_bipush (v := 30) dX10_init_21 (by decide) ?_
  refine Mh_nar 20 0 30 .int (.inl rfl) rfl rfl (fun _ _ h => h) (.inr ⟨by decide, rfl⟩) nar_20 (by decide) (by decide) (by decide) dX10_init_23 ?_
  exact t_X10_init_25 l E c0 s0 _ _ _ _ _ _
def f_X10_init_17 (l0 : Nat) (l1 : Nat) (y1 : Nat) (y0 : Nat) (m : Mm) (o : Prop) : Unit × Mm × Prop := f_X10_init_20 l0 l1 (sR m y0 1 y1) (o ∧ (gT m y0 = 10 ∧ y1 ≠ 0))
set_option maxRecDepth 10000 in
theorem t_X10_init_17 (l : Launch) (E : En) (c0 s0 : Nat) (l0 : Nat) (l1 : Nat) (y1 : Nat) (y0 : Nat) (m : Mm) (o : Prop) : Mh wU l E mi_X10_init c0 s0 17 [(0, .ref l0), (1, .ref l1)] [.ref y1, .ref y0] m o (f_X10_init_17 l0 l1 y1 y0 m o) := by
  refine Mh_pR fd_9_1 ft_9 (.inr ⟨_, rfl⟩) fl_RX10_15 (.inr ⟨rfl, rfl, rfl, flg_RX10_15⟩) dX10_init_17 ?_
  exact t_X10_init_20 l E c0 s0 _ _ _ _
def f_X10_init_12 (l0 : Nat) (l1 : Nat) (m : Mm) (o : Prop) : Unit × Mm × Prop := f_X10_init_17 l0 l1 (gC m + 1) l0 (nC m 20 30 30) o
set_option maxRecDepth 10000 in
theorem t_X10_init_12 (l : Launch) (E : En) (c0 s0 : Nat) (l0 : Nat) (l1 : Nat) (m : Mm) (o : Prop) : Mh wU l E mi_X10_init c0 s0 12 [(0, .ref l0), (1, .ref l1)] [] m o (f_X10_init_12 l0 l1 m o) := by
  refine Mh_aload_n 0 rfl dX10_init_12 ?_
  refine Mh_bipush (v := 30) dX10_init_13 (by decide) ?_
  refine Mh_nar 20 0 30 .int (.inl rfl) rfl rfl (fun _ _ h => h) (.inr ⟨by decide, rfl⟩) nar_20 (by decide) (by decide) (by decide) dX10_init_15 ?_
  exact t_X10_init_17 l E c0 s0 _ _ _ _ _ _
def f_X10_init_9 (l0 : Nat) (l1 : Nat) (y1 : Nat) (y0 : Nat) (m : Mm) (o : Prop) : Unit × Mm × Prop := f_X10_init_12 l0 l1 (sR m y0 0 y1) (o ∧ (gT m y0 = 10 ∧ y1 ≠ 0))
set_option maxRecDepth 10000 in
theorem t_X10_init_9 (l : Launch) (E : En) (c0 s0 : Nat) (l0 : Nat) (l1 : Nat) (y1 : Nat) (y0 : Nat) (m : Mm) (o : Prop) : Mh wU l E mi_X10_init c0 s0 9 [(0, .ref l0), (1, .ref l1)] [.ref y1, .ref y0] m o (f_X10_init_9 l0 l1 y1 y0 m o) := by
  refine Mh_pR fd_9_0 ft_9 (.inr ⟨_, rfl⟩) fl_RX10_11 (.inr ⟨rfl, rfl, rfl, flg_RX10_11⟩) dX10_init_9 ?_
  exact t_X10_init_12 l E c0 s0 _ _ _ _
def f_X10_init_0 (l0 : Nat) (l1 : Nat) (m : Mm) (o : Prop) : Unit × Mm × Prop := f_X10_init_9 l0 l1 (gC m + 1) l0 (nC m 20 30 30) o
set_option maxRecDepth 10000 in
theorem t_X10_init_0 (l : Launch) (E : En) (c0 s0 : Nat) (l0 : Nat) (l1 : Nat) (m : Mm) (o : Prop) : Mh wU l E mi_X10_init c0 s0 0 [(0, .ref l0), (1, .ref l1)] [] m o (f_X10_init_0 l0 l1 m o) := by
  refine Mh_aload_n 0 rfl dX10_init_0 ?_
  refine Mh_oin (by decide) ml_RX10_3 obj_1 obj_2 dX10_init_1 ?_
  refine Mh_aload_n 0 rfl dX10_init_4 ?_
  refine Mh_bipush (v := 30) dX10_init_5 (by decide) ?_
  refine Mh_nar 20 0 30 .int (.inl rfl) rfl rfl (fun _ _ h => h) (.inr ⟨by decide, rfl⟩) nar_20 (by decide) (by decide) (by decide) dX10_init_7 ?_
  exact t_X10_init_9 l E c0 s0 _ _ _ _ _ _
def F_X10_init (a0 : Nat) (a1 : Nat) (m : Mm) (o : Prop) : Unit × Mm × Prop := f_X10_init_0 a0 a1 m o
theorem T_X10_init (l : Launch) (E : En) (a0 : Nat) (a1 : Nat) (m : Mm) (o : Prop) : Mt wU l E yX10_init mi_X10_init [.ref a0, .ref a1] m o (F_X10_init a0 a1 m o) :=
  Mt_U (by decide) rfl (fun _ => rfl) rfl (Nat.le_of_ble_eq_true rfl) rfl (t_X10_init_0 l E _ _ _ _ _ _)
