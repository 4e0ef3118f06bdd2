def f_X5_passDay_44 (k4 : Nat → Nat → Int32 → Int32 → Mm → Prop → Int32 × Mm × Prop) (l0 : Nat) (l1 : Nat) (l2 : Int32) (l3 : Int32) (m : Mm) (o : Prop) : Int32 × Mm × Prop := k4 l0 l1 l2 (l3 + 1) m o
set_option maxRecDepth 10000 in
theorem t_X5_passDay_44 (l : Launch) (E : En) (c0 s0 : Nat) (k4 : Nat → Nat → Int32 → Int32 → Mm → Prop → Int32 × Mm × Prop) (hk4 : ∀ (l0 : Nat) (l1 : Nat) (l2 : Int32) (l3 : Int32) (m : Mm) (o : Prop), Mh wI l E mi_X5_passDay c0 s0 4 [(0, .ref l0), (1, .ref l1), (2, .int l2), (3, .int l3)] [] m o (k4 l0 l1 l2 l3 m o)) (l0 : Nat) (l1 : Nat) (l2 : Int32) (l3 : Int32) (m : Mm) (o : Prop) : Mh wI l E mi_X5_passDay c0 s0 44 [(0, .ref l0), (1, .ref l1), (2, .int l2), (3, .int l3)] [] m o (f_X5_passDay_44 k4 l0 l1 l2 l3 m o) := by
  refine Mh_iinc (v := l3 + 1) (lv' := [(3, .int (l3 + 1)), (0, .ref l0), (1, .ref l1), (2, .int l2)]) 3 dX5_passDay_44 rfl rfl (Nat.le_of_ble_eq_true rfl) rfl ?_
  refine Mh_goto (tgt := 4) dX5_passDay_47 (by decide) ?_
  refine Mh_sub (lv' := [(0, .ref l0), (1, .ref l1), (2, .int l2), (3, .int (l3 + 1))]) [1, 2, 3, 0] rfl ?_
  exact hk4 _ _ _ _ _ _
def f_X5_passDay_42 (k4 : Nat → Nat → Int32 → Int32 → Mm → Prop → Int32 × Mm × Prop) (l0 : Nat) (l1 : Nat) (l3 : Int32) (y1 : Int32) (y0 : Int32) (m : Mm) (o : Prop) : Int32 × Mm × Prop := f_X5_passDay_44 k4 l0 l1 (y0 + y1) l3 m o
set_option maxRecDepth 10000 in
theorem t_X5_passDay_42 (l : Launch) (E : En) (c0 s0 : Nat) (k4 : Nat → Nat → Int32 → Int32 → Mm → Prop → Int32 × Mm × Prop) (hk4 : ∀ (l0 : Nat) (l1 : Nat) (l2 : Int32) (l3 : Int32) (m : Mm) (o : Prop), Mh wI l E mi_X5_passDay c0 s0 4 [(0, .ref l0), (1, .ref l1), (2, .int l2), (3, .int l3)] [] m o (k4 l0 l1 l2 l3 m o)) (l0 : Nat) (l1 : Nat) (l3 : Int32) (y1 : Int32) (y0 : Int32) (m : Mm) (o : Prop) : Mh wI l E mi_X5_passDay c0 s0 42 [(0, .ref l0), (1, .ref l1), (3, .int l3)] [.int y1, .int y0] m o (f_X5_passDay_42 k4 l0 l1 l3 y1 y0 m o) := by
  refine Mh_iadd dX5_passDay_42 ?_
  refine Mh_istore_n (lv' := [(2, .int (y0 + y1)), (0, .ref l0), (1, .ref l1), (3, .int l3)]) dX5_passDay_43 (Nat.le_of_ble_eq_true rfl) rfl ?_
  refine Mh_sub (lv' := [(0, .ref l0), (1, .ref l1), (2, .int (y0 + y1)), (3, .int l3)]) [1, 2, 0, 3] rfl ?_
  exact t_X5_passDay_44 l E c0 s0 k4 hk4 _ _ _ _ _ _
def f_X5_passDay_28 (k4 : Nat → Nat → Int32 → Int32 → Mm → Prop → Int32 × Mm × Prop) (l0 : Nat) (l1 : Nat) (l2 : Int32) (l3 : Int32) (l4 : Int32) (m : Mm) (o : Prop) : Int32 × Mm × Prop := if l4 = (-1 : Int32) then (f_X5_passDay_44 k4 l0 l1 l2 l3 m o) else (bnd (F_X5_eatAt l0 l4 l3 m (o ∧ gT m l0 = 6)) (fun v1 m1 o1 => f_X5_passDay_42 k4 l0 l1 l3 v1 l2 m1 o1))
set_option maxRecDepth 10000 in
theorem t_X5_passDay_28 (l : Launch) (E : En) (c0 s0 : Nat) (k4 : Nat → Nat → Int32 → Int32 → Mm → Prop → Int32 × Mm × Prop) (hk4 : ∀ (l0 : Nat) (l1 : Nat) (l2 : Int32) (l3 : Int32) (m : Mm) (o : Prop), Mh wI l E mi_X5_passDay c0 s0 4 [(0, .ref l0), (1, .ref l1), (2, .int l2), (3, .int l3)] [] m o (k4 l0 l1 l2 l3 m o)) (l0 : Nat) (l1 : Nat) (l2 : Int32) (l3 : Int32) (l4 : Int32) (m : Mm) (o : Prop) : Mh wI l E mi_X5_passDay c0 s0 28 [(0, .ref l0), (1, .ref l1), (2, .int l2), (3, .int l3), (4, .int l4)] [] m o (f_X5_passDay_28 k4 l0 l1 l2 l3 l4 m o) := by
  refine Mh_iload 4 rfl dX5_passDay_28 ?_
  refine Mh_iconst (v := (-1)) dX5_passDay_30 (by decide) ?_
  refine Mh_icmp_eq (tgt := 44) dX5_passDay_31 (by decide) rfl (fun _ => ?_) (fun _ => ?_)
  · refine Mh_sub (lv' := [(0, .ref l0), (1, .ref l1), (2, .int l2), (3, .int l3)]) [0, 1, 2, 3] rfl ?_
    exact t_X5_passDay_44 l E c0 s0 k4 hk4 _ _ _ _ _ _
  · refine Mh_iload_n 2 rfl dX5_passDay_34 ?_
    refine Mh_aload_n 0 rfl dX5_passDay_35 ?_
    refine Mh_iload 4 rfl dX5_passDay_36 ?_
    refine Mh_iload_n 3 rfl dX5_passDay_38 ?_
    refine Mh_cvI (N := mi_X5_eatAt) (q := l0) (ci := 5) (as := [.int l4, .int l3]) (st := [.int l2]) (id) cg_yX5_eatAt (by decide) rfl rfl ml_RX5_98 iv_yX5_eatAt pd_yX5_eatAt rfl (by decide) (Nat.le_of_ble_eq_true rfl) rfl dX5_passDay_39 (T_X5_eatAt l E _ _ _ _ _) rfl ?_
    refine Mh_sub (lv' := [(0, .ref l0), (1, .ref l1), (3, .int l3)]) [0, 1, 3] rfl ?_
    exact t_X5_passDay_42 l E c0 s0 k4 hk4 _ _ _ _ _ _ _
def f_X5_passDay_18 (k4 : Nat → Nat → Int32 → Int32 → Mm → Prop → Int32 × Mm × Prop) (l0 : Nat) (l1 : Nat) (l2 : Int32) (l3 : Int32) (y0 : Int32) (m : Mm) (o : Prop) : Int32 × Mm × Prop := f_X5_passDay_28 k4 l0 l1 l2 l3 y0 (sI m (gR m l0 3) (ix l3) y0) ((o ∧ (gT m l0 = 6 ∧ gR m l0 3 ≠ 0)) ∧ (gT m (gR m l0 3) = 20 ∧ vp_in l3 (gN m (gR m l0 3))))
set_option maxRecDepth 10000 in
theorem t_X5_passDay_18 (l : Launch) (E : En) (c0 s0 : Nat) (k4 : Nat → Nat → Int32 → Int32 → Mm → Prop → Int32 × Mm × Prop) (hk4 : ∀ (l0 : Nat) (l1 : Nat) (l2 : Int32) (l3 : Int32) (m : Mm) (o : Prop), Mh wI l E mi_X5_passDay c0 s0 4 [(0, .ref l0), (1, .ref l1), (2, .int l2), (3, .int l3)] [] m o (k4 l0 l1 l2 l3 m o)) (l0 : Nat) (l1 : Nat) (l2 : Int32) (l3 : Int32) (y0 : Int32) (m : Mm) (o : Prop) : Mh wI l E mi_X5_passDay c0 s0 18 [(0, .ref l0), (1, .ref l1), (2, .int l2), (3, .int l3)] [.int y0] m o (f_X5_passDay_18 k4 l0 l1 l2 l3 y0 m o) := by
  refine Mh_istore (lv' := [(4, .int y0), (0, .ref l0), (1, .ref l1), (2, .int l2), (3, .int l3)]) dX5_passDay_18 (Nat.le_of_ble_eq_true rfl) rfl ?_
  refine Mh_aload_n 1 rfl dX5_passDay_20 ?_
  refine Mh_gR fd_5_3 fl_RX5_27 dX5_passDay_21 ?_
  refine Mh_iload_n 4 rfl dX5_passDay_24 ?_
  refine Mh_iload 0 rfl dX5_passDay_25 ?_
  refine Mh_ias dX5_passDay_27 ?_
  refine Mh_sub (lv' := [(0, .ref l0), (1, .ref l1), (2, .int l2), (3, .int l3), (4, .int y0)]) [1, 2, 3, 4, 0] rfl ?_
  exact t_X5_passDay_28 l E c0 s0 k4 hk4 _ _ _ _ _ _ _
def f_X5_passDay_78 (k52 : Nat → Nat → Int32 → Int32 → Mm → Prop → Int32 × Mm × Prop) (l0 : Nat) (l1 : Nat) (l2 : Int32) (l3 : Int32) (m : Mm) (o : Prop) : Int32 × Mm × Prop := k52 l0 l1 l2 (l3 + 1) m o
set_option maxRecDepth 10000 in
theorem t_X5_passDay_78 (l : Launch) (E : En) (c0 s0 : Nat) (k52 : Nat → Nat → Int32 → Int32 → Mm → Prop → Int32 × Mm × Prop) (hk52 : ∀ (l0 : Nat) (l1 : Nat) (l2 : Int32) (l3 : Int32) (m : Mm) (o : Prop), Mh wI l E mi_X5_passDay c0 s0 52 [(0, .ref l0), (1, .ref l1), (2, .int l2), (3, .int l3)] [] m o (k52 l0 l1 l2 l3 m o)) (l0 : Nat) (l1 : Nat) (l2 : Int32) (l3 : Int32) (m : Mm) (o : Prop) : Mh wI l E mi_X5_passDay c0 s0 78 [(0, .ref l0), (1, .ref l1), (2, .int l2), (3, .int l3)] [] m o (f_X5_passDay_78 k52 l0 l1 l2 l3 m o) := by
  refine Mh_iinc (v := l3 + 1) (lv' := [(3, .int (l3 + 1)), (0, .ref l0), (1, .ref l1), (2, .int l2)]) 3 dX5_passDay_78 rfl rfl (Nat.le_of_ble_eq_true rfl) rfl ?_
  refine Mh_goto (tgt := 52) dX5_passDay_81 (by decide) ?_
  refine Mh_sub (lv' := [(0, .ref l0), (1, .ref l1), (2, .int l2), (3, .int (l3 + 1))]) [1, 2, 3, 0] rfl ?_
  exact hk52 _ _ _ _ _ _
def f_X5_passDay_94 (l2 : Int32) (m : Mm) (o : Prop) : Int32 × Mm × Prop := (l2, m, o)
set_option maxRecDepth 10000 in
theorem t_X5_passDay_94 (l : Launch) (E : En) (c0 s0 : Nat) (l2 : Int32) (m : Mm) (o : Prop) : Mh wI l E mi_X5_passDay c0 s0 94 [(2, .int l2)] [] m o (f_X5_passDay_94 l2 m o) := by
  refine Mh_iload_n 0 rfl dX5_passDay_94 ?_
  exact Mh_ret dX5_passDay_95 rfl (fun _ => rfl) rfl
def f_X5_passDay_52b (k52 : Nat → Nat → Int32 → Int32 → Mm → Prop → Int32 × Mm × Prop) (l0 : Nat) (l1 : Nat) (l2 : Int32) (l3 : Int32) (m : Mm) (o : Prop) : Int32 × Mm × Prop := if (gI m l0 6) ≤ l3 then (f_X5_passDay_94 l2 (sI m l0 10 ((gI m l0 10) + (1 : Int32))) (o ∧ gT m l0 = 6)) else (if (gI m (gR m (gR m l0 0) (ix l3)) 7) = 0 then (f_X5_passDay_78 k52 l0 l1 l2 l3 m ((((o ∧ gT m l0 = 6) ∧ (gT m l0 = 6 ∧ gR m l0 0 ≠ 0)) ∧ (gT m (gR m l0 0) = 24 ∧ vp_in l3 (gN m (gR m l0 0)) ∧ gR m (gR m l0 0) (ix l3) ≠ 0)) ∧ gT m (gR m (gR m l0 0) (ix l3)) = 8)) else (bnd (F_X5_heatUp l0 l1 l3 m ((((o ∧ gT m l0 = 6) ∧ (gT m l0 = 6 ∧ gR m l0 0 ≠ 0)) ∧ (gT m (gR m l0 0) = 24 ∧ vp_in l3 (gN m (gR m l0 0)) ∧ gR m (gR m l0 0) (ix l3) ≠ 0)) ∧ gT m (gR m (gR m l0 0) (ix l3)) = 8)) (fun _ m1 o1 => f_X5_passDay_78 k52 l0 l1 l2 l3 m1 o1)))
set_option maxRecDepth 10000 in
theorem t_X5_passDay_52b (l : Launch) (E : En) (c0 s0 : Nat) (k52 : Nat → Nat → Int32 → Int32 → Mm → Prop → Int32 × Mm × Prop) (hk52 : ∀ (l0 : Nat) (l1 : Nat) (l2 : Int32) (l3 : Int32) (m : Mm) (o : Prop), Mh wI l E mi_X5_passDay c0 s0 52 [(0, .ref l0), (1, .ref l1), (2, .int l2), (3, .int l3)] [] m o (k52 l0 l1 l2 l3 m o)) (l0 : Nat) (l1 : Nat) (l2 : Int32) (l3 : Int32) (m : Mm) (o : Prop) : Mh wI l E mi_X5_passDay c0 s0 52 [(0, .ref l0), (1, .ref l1), (2, .int l2), (3, .int l3)] [] m o (f_X5_passDay_52b k52 l0 l1 l2 l3 m o) := by
  refine Mh_iload_n 3 rfl dX5_passDay_52 ?_
  refine Mh_aload_n 0 rfl dX5_passDay_53 ?_
  refine Mh_gI fd_5_6 fl_RX5_48 dX5_passDay_54 ?_
  refine Mh_icmp_ge (tgt := 84) dX5_passDay_57 (by decide) rfl (fun _ => ?_) (fun _ => ?_)
  · refine Mh_aload_n 0 rfl dX5_passDay_84 ?_
    refine Mh_dup dX5_passDay_85 rfl ?_
    refine Mh_gI fd_5_10 fl_RX5_54 dX5_passDay_86 ?_
    refine Mh_ok (fun h => h.2) ?_
    refine Mh_iconst (v := 1) dX5_passDay_89 (by decide) ?_
    refine Mh_iadd dX5_passDay_90 ?_
    refine Mh_pI fd_5_10 ft_5 rfl fl_RX5_54 rfl dX5_passDay_91 ?_
    refine Mh_ok (fun h => h.2) ?_
    refine Mh_sub (lv' := [(2, .int l2)]) [2] rfl ?_
    exact t_X5_passDay_94 l E c0 s0 _ _ _
  · refine Mh_aload_n 0 rfl dX5_passDay_60 ?_
    refine Mh_gR fd_5_0 fl_RX5_11 dX5_passDay_61 ?_
    refine Mh_iload_n 3 rfl dX5_passDay_64 ?_
    refine Mh_aal 24 (.inl rfl) dX5_passDay_65 ?_
    refine Mh_gI fd_7_7 fl_RX5_67 dX5_passDay_66 ?_
    refine Mh_if_eq (tgt := 78) dX5_passDay_69 (by decide) rfl (fun _ => ?_) (fun _ => ?_)
    · exact t_X5_passDay_78 l E c0 s0 k52 hk52 _ _ _ _ _ _
    · refine Mh_aload_n 0 rfl dX5_passDay_72 ?_
      refine Mh_aload_n 1 rfl dX5_passDay_73 ?_
      refine Mh_iload_n 3 rfl dX5_passDay_74 ?_
      refine Mh_cvU (N := mi_X5_heatUp) (q := l0) (ci := 5) (as := [.ref l1, .int l3]) (st := []) (fun h => ⟨h, (fun h => h.1.1.1.2) h⟩) cg_yX5_heatUp (by decide) rfl rfl ml_RX5_102 iv_yX5_heatUp pd_yX5_heatUp rfl (by decide) (Nat.le_of_ble_eq_true rfl) rfl dX5_passDay_75 (T_X5_heatUp l E _ _ _ _ _) rfl ?_
      exact t_X5_passDay_78 l E c0 s0 k52 hk52 _ _ _ _ _ _
def f_X5_passDay_52 : Nat → Nat → Nat → Int32 → Int32 → Mm → Prop → Int32 × Mm × Prop
  | 0, _, _, _, _, m, _ => (0, m, False)
  | n + 1, l0, l1, l2, l3, m, o => f_X5_passDay_52b (f_X5_passDay_52 n) l0 l1 l2 l3 m o
theorem t_X5_passDay_52 (l : Launch) (E : En) (c0 s0 : Nat) : ∀ (n : Nat) (l0 : Nat) (l1 : Nat) (l2 : Int32) (l3 : Int32) (m : Mm) (o : Prop), Mh wI l E mi_X5_passDay c0 s0 52 [(0, .ref l0), (1, .ref l1), (2, .int l2), (3, .int l3)] [] m o (f_X5_passDay_52 n l0 l1 l2 l3 m o)
  | 0, _, _, _, _, _, _ => Mh_out rfl
  | n + 1, l0, l1, l2, l3, m, o => t_X5_passDay_52b l E c0 s0 (f_X5_passDay_52 n) (t_X5_passDay_52 l E c0 s0 n) l0 l1 l2 l3 m o
def f_X5_passDay_4b (k4 : Nat → Nat → Int32 → Int32 → Mm → Prop → Int32 × Mm × Prop) (l0 : Nat) (l1 : Nat) (l2 : Int32) (l3 : Int32) (m : Mm) (o : Prop) : Int32 × Mm × Prop := if (gI m l0 7) ≤ l3 then (f_X5_passDay_52 1000 l0 l1 l2 (0 : Int32) m (o ∧ gT m l0 = 6)) else (bnd (F_X5_bestStack l0 l1 l3 m (o ∧ gT m l0 = 6)) (fun v1 m1 o1 => f_X5_passDay_18 k4 l0 l1 l2 l3 v1 m1 o1))
set_option maxRecDepth 10000 in
theorem t_X5_passDay_4b (l : Launch) (E : En) (c0 s0 : Nat) (k4 : Nat → Nat → Int32 → Int32 → Mm → Prop → Int32 × Mm × Prop) (hk4 : ∀ (l0 : Nat) (l1 : Nat) (l2 : Int32) (l3 : Int32) (m : Mm) (o : Prop), Mh wI l E mi_X5_passDay c0 s0 4 [(0, .ref l0), (1, .ref l1), (2, .int l2), (3, .int l3)] [] m o (k4 l0 l1 l2 l3 m o)) (l0 : Nat) (l1 : Nat) (l2 : Int32) (l3 : Int32) (m : Mm) (o : Prop) : Mh wI l E mi_X5_passDay c0 s0 4 [(0, .ref l0), (1, .ref l1), (2, .int l2), (3, .int l3)] [] m o (f_X5_passDay_4b k4 l0 l1 l2 l3 m o) := by
  refine Mh_iload_n 3 rfl dX5_passDay_4 ?_
  refine Mh_aload_n 0 rfl dX5_passDay_5 ?_
  refine Mh_gI fd_5_7 fl_RX5_51 dX5_passDay_6 ?_
  refine Mh_icmp_ge (tgt := 50) dX5_passDay_9 (by decide) rfl (fun _ => ?_) (fun _ => ?_)
  · refine Mh_iconst (v := 0) dX5_passDay_50 (by decide) ?_
    refine Mh_istore_n (lv' := [(3, .int (0 : Int32)), (0, .ref l0), (1, .ref l1), (2, .int l2)]) dX5_passDay_51 (Nat.le_of_ble_eq_true rfl) rfl ?_
    refine Mh_sub (lv' := [(0, .ref l0), (1, .ref l1), (2, .int l2), (3, .int (0 : Int32))]) [1, 2, 3, 0] rfl ?_
    exact t_X5_passDay_52 l E c0 s0 _ _ _ _ _ _ _
  · refine Mh_aload_n 0 rfl dX5_passDay_12 ?_
    refine Mh_aload_n 1 rfl dX5_passDay_13 ?_
    refine Mh_iload_n 3 rfl dX5_passDay_14 ?_
    refine Mh_cvI (N := mi_X5_bestStack) (q := l0) (ci := 5) (as := [.ref l1, .int l3]) (st := []) (fun h => ⟨h, (fun h => h.2) h⟩) cg_yX5_bestStack (by decide) rfl rfl ml_RX5_94 iv_yX5_bestStack pd_yX5_bestStack rfl (by decide) (Nat.le_of_ble_eq_true rfl) rfl dX5_passDay_15 (T_X5_bestStack l E _ _ _ _ _) rfl ?_
    exact t_X5_passDay_18 l E c0 s0 k4 hk4 _ _ _ _ _ _ _
def f_X5_passDay_4 : Nat → Nat → Nat → Int32 → Int32 → Mm → Prop → Int32 × Mm × Prop
  | 0, _, _, _, _, m, _ => (0, m, False)
  | n + 1, l0, l1, l2, l3, m, o => f_X5_passDay_4b (f_X5_passDay_4 n) l0 l1 l2 l3 m o
theorem t_X5_passDay_4 (l : Launch) (E : En) (c0 s0 : Nat) : ∀ (n : Nat) (l0 : Nat) (l1 : Nat) (l2 : Int32) (l3 : Int32) (m : Mm) (o : Prop), Mh wI l E mi_X5_passDay c0 s0 4 [(0, .ref l0), (1, .ref l1), (2, .int l2), (3, .int l3)] [] m o (f_X5_passDay_4 n l0 l1 l2 l3 m o)
  | 0, _, _, _, _, _, _ => Mh_out rfl
  | n + 1, l0, l1, l2, l3, m, o => t_X5_passDay_4b l E c0 s0 (f_X5_passDay_4 n) (t_X5_passDay_4 l E c0 s0 n) l0 l1 l2 l3 m o
def f_X5_passDay_0 (l0 : Nat) (l1 : Nat) (m : Mm) (o : Prop) : Int32 × Mm × Prop := f_X5_passDay_4 1000 l0 l1 (0 : Int32) (0 : Int32) m o
set_option maxRecDepth 10000 in
theorem t_X5_passDay_0 (l : Launch) (E : En) (c0 s0 : Nat) (l0 : Nat) (l1 : Nat) (m : Mm) (o : Prop) : Mh wI l E mi_X5_passDay c0 s0 0 [(0, .ref l0), (1, .ref l1)] [] m o (f_X5_passDay_0 l0 l1 m o) := by
  refine Mh_iconst (v := 0) dX5_passDay_0 (by decide) ?_
  refine Mh_istore_n (lv' := [(2, .int (0 : Int32)), (0, .ref l0), (1, .ref l1)]) dX5_passDay_1 (Nat.le_of_ble_eq_true rfl) rfl ?_
  refine Mh_iconst (v := 0) dX5_passDay_2 (by decide) ?_
  refine Mh_istore_n (lv' := [(3, .int (0 : Int32)), (2, .int (0 : Int32)), (0, .ref l0), (1, .ref l1)]) dX5_passDay_3 (Nat.le_of_ble_eq_true rfl) rfl ?_
  refine Mh_sub (lv' := [(0, .ref l0), (1, .ref l1), (2, .int (0 : Int32)), (3, .int (0 : Int32))]) [2, 3, 1, 0] rfl ?_
  exact t_X5_passDay_4 l E c0 s0 _ _ _ _ _ _ _
def F_X5_passDay (a0 : Nat) (a1 : Nat) (m : Mm) (o : Prop) : Int32 × Mm × Prop := f_X5_passDay_0 a0 a1 m o
theorem T_X5_passDay (l : Launch) (E : En) (a0 : Nat) (a1 : Nat) (m : Mm) (o : Prop) : Mt wI l E yX5_passDay mi_X5_passDay [.ref a0, .ref a1] m o (F_X5_passDay a0 a1 m o) :=
  Mt_I (by decide) rfl rfl rfl (Nat.le_of_ble_eq_true rfl) rfl (.inl rfl) (t_X5_passDay_0 l E _ _ _ _ _ _)
def f_X1_copyFrom_59 (k42 : Nat → Nat → Int32 → Mm → Prop → Unit × Mm × Prop) (l0 : Nat) (l1 : Nat) (l2 : Int32) (m : Mm) (o : Prop) : Unit × Mm × Prop := k42 l0 l1 (l2 + 1) m o
set_option maxRecDepth 10000 in
theorem t_X1_copyFrom_59 (l : Launch) (E : En) (c0 s0 : Nat) (k42 : Nat → Nat → Int32 → Mm → Prop → Unit × Mm × Prop) (hk42 : ∀ (l0 : Nat) (l1 : Nat) (l2 : Int32) (m : Mm) (o : Prop), Mh wU l E mi_X1_copyFrom c0 s0 42 [(0, .ref l0), (1, .ref l1), (2, .int l2)] [] m o (k42 l0 l1 l2 m o)) (l0 : Nat) (l1 : Nat) (l2 : Int32) (m : Mm) (o : Prop) : Mh wU l E mi_X1_copyFrom c0 s0 59 [(0, .ref l0), (1, .ref l1), (2, .int l2)] [] m o (f_X1_copyFrom_59 k42 l0 l1 l2 m o) := by
  refine Mh_iinc (v := l2 + 1) (lv' := [(2, .int (l2 + 1)), (0, .ref l0), (1, .ref l1)]) 2 dX1_copyFrom_59 rfl rfl (Nat.le_of_ble_eq_true rfl) rfl ?_
  refine Mh_goto (tgt := 42) dX1_copyFrom_62 (by decide) ?_
  refine Mh_sub (lv' := [(0, .ref l0), (1, .ref l1), (2, .int (l2 + 1))]) [1, 2, 0] rfl ?_
  exact hk42 _ _ _ _ _
def f_X1_copyFrom_42b (k42 : Nat → Nat → Int32 → Mm → Prop → Unit × Mm × Prop) (l0 : Nat) (l1 : Nat) (l2 : Int32) (m : Mm) (o : Prop) : Unit × Mm × Prop := if (5 : Int32) ≤ l2 then ((), m, o) else (f_X1_copyFrom_59 k42 l0 l1 l2 (sI m (gR m l0 5) (ix l2) (gI m (gR m l1 5) (ix l2))) ((((o ∧ (gT m l0 = 2 ∧ gR m l0 5 ≠ 0)) ∧ (gT m l1 = 2 ∧ gR m l1 5 ≠ 0)) ∧ (gT m (gR m l1 5) = 20 ∧ vp_in l2 (gN m (gR m l1 5)))) ∧ (gT m (gR m l0 5) = 20 ∧ vp_in l2 (gN m (gR m l0 5)))))
set_option maxRecDepth 10000 in
theorem t_X1_copyFrom_42b (l : Launch) (E : En) (c0 s0 : Nat) (k42 : Nat → Nat → Int32 → Mm → Prop → Unit × Mm × Prop) (hk42 : ∀ (l0 : Nat) (l1 : Nat) (l2 : Int32) (m : Mm) (o : Prop), Mh wU l E mi_X1_copyFrom c0 s0 42 [(0, .ref l0), (1, .ref l1), (2, .int l2)] [] m o (k42 l0 l1 l2 m o)) (l0 : Nat) (l1 : Nat) (l2 : Int32) (m : Mm) (o : Prop) : Mh wU l E mi_X1_copyFrom c0 s0 42 [(0, .ref l0), (1, .ref l1), (2, .int l2)] [] m o (f_X1_copyFrom_42b k42 l0 l1 l2 m o) := by
  refine Mh_iload_n 2 rfl dX1_copyFrom_42 ?_
  refine Mh_iconst (v := 5) dX1_copyFrom_43 (by decide) ?_
  refine Mh_icmp_ge (tgt := 65) dX1_copyFrom_44 (by decide) rfl (fun _ => ?_) (fun _ => ?_)
  · exact Mh_ret dX1_copyFrom_65 rfl (fun _ => trivial) rfl
  · refine Mh_aload_n 0 rfl dX1_copyFrom_47 ?_
    refine Mh_gR fd_1_5 fl_RX1_9 dX1_copyFrom_48 ?_
    refine Mh_iload_n 2 rfl dX1_copyFrom_51 ?_
    refine Mh_aload_n 1 rfl dX1_copyFrom_52 ?_
    refine Mh_gR fd_1_5 fl_RX1_9 dX1_copyFrom_53 ?_
    refine Mh_iload_n 2 rfl dX1_copyFrom_56 ?_
    refine Mh_ial dX1_copyFrom_57 ?_
    refine Mh_ias dX1_copyFrom_58 ?_
    exact t_X1_copyFrom_59 l E c0 s0 k42 hk42 _ _ _ _ _
def f_X1_copyFrom_42 : Nat → Nat → Nat → Int32 → Mm → Prop → Unit × Mm × Prop
  | 0, _, _, _, m, _ => ((), m, False)
  | n + 1, l0, l1, l2, m, o => f_X1_copyFrom_42b (f_X1_copyFrom_42 n) l0 l1 l2 m o
theorem t_X1_copyFrom_42 (l : Launch) (E : En) (c0 s0 : Nat) : ∀ (n : Nat) (l0 : Nat) (l1 : Nat) (l2 : Int32) (m : Mm) (o : Prop), Mh wU l E mi_X1_copyFrom c0 s0 42 [(0, .ref l0), (1, .ref l1), (2, .int l2)] [] m o (f_X1_copyFrom_42 n l0 l1 l2 m o)
  | 0, _, _, _, _, _ => Mh_out rfl
  | n + 1, l0, l1, l2, m, o => t_X1_copyFrom_42b l E c0 s0 (f_X1_copyFrom_42 n) (t_X1_copyFrom_42 l E c0 s0 n) l0 l1 l2 m o
def f_X1_copyFrom_40 (l0 : Nat) (l1 : Nat) (m : Mm) (o : Prop) : Unit × Mm × Prop := f_X1_copyFrom_42 1000 l0 l1 (0 : Int32) m o
set_option maxRecDepth 10000 in
theorem t_X1_copyFrom_40 (l : Launch) (E : En) (c0 s0 : Nat) (l0 : Nat) (l1 : Nat) (m : Mm) (o : Prop) : Mh wU l E mi_X1_copyFrom c0 s0 40 [(0, .ref l0), (1, .ref l1)] [] m o (f_X1_copyFrom_40 l0 l1 m o) := by
  refine Mh_iconst (v := 0) dX1_copyFrom_40 (by decide) ?_
  refine Mh_istore_n (lv' := [(2, .int (0 : Int32)), (0, .ref l0), (1, .ref l1)]) dX1_copyFrom_41 (Nat.le_of_ble_eq_true rfl) rfl ?_
  refine Mh_sub (lv' := [(0, .ref l0), (1, .ref l1), (2, .int (0 : Int32))]) [1, 2, 0] rfl ?_
  exact t_X1_copyFrom_42 l E c0 s0 _ _ _ _ _ _
def f_X1_copyFrom_32 (l0 : Nat) (l1 : Nat) (m : Mm) (o : Prop) : Unit × Mm × Prop := f_X1_copyFrom_40 l0 l1 (sI m l0 4 (gI m l1 4)) ((o ∧ gT m l1 = 2) ∧ gT m l0 = 2)
set_option maxRecDepth 10000 in
theorem t_X1_copyFrom_32 (l : Launch) (E : En) (c0 s0 : Nat) (l0 : Nat) (l1 : Nat) (m : Mm) (o : Prop) : Mh wU l E mi_X1_copyFrom c0 s0 32 [(0, .ref l0), (1, .ref l1)] [] m o (f_X1_copyFrom_32 l0 l1 m o) := by
  refine Mh_aload_n 0 rfl dX1_copyFrom_32 ?_
  refine Mh_aload_n 1 rfl dX1_copyFrom_33 ?_
  refine Mh_gI fd_1_4 fl_RX1_28 dX1_copyFrom_34 ?_
  refine Mh_pI fd_1_4 ft_1 rfl fl_RX1_28 rfl dX1_copyFrom_37 ?_
  exact t_X1_copyFrom_40 l E c0 s0 _ _ _ _
def f_X1_copyFrom_24 (l0 : Nat) (l1 : Nat) (m : Mm) (o : Prop) : Unit × Mm × Prop := f_X1_copyFrom_32 l0 l1 (sI m l0 3 (gI m l1 3)) ((o ∧ gT m l1 = 2) ∧ gT m l0 = 2)
set_option maxRecDepth 10000 in
theorem t_X1_copyFrom_24 (l : Launch) (E : En) (c0 s0 : Nat) (l0 : Nat) (l1 : Nat) (m : Mm) (o : Prop) : Mh wU l E mi_X1_copyFrom c0 s0 24 [(0, .ref l0), (1, .ref l1)] [] m o (f_X1_copyFrom_24 l0 l1 m o) := by
  refine Mh_aload_n 0 rfl dX1_copyFrom_24 ?_
  refine Mh_aload_n 1 rfl dX1_copyFrom_25 ?_
  refine Mh_gI fd_1_3 fl_RX1_25 dX1_copyFrom_26 ?_
  refine Mh_pI fd_1_3 ft_1 rfl fl_RX1_25 rfl dX1_copyFrom_29 ?_
  exact t_X1_copyFrom_32 l E c0 s0 _ _ _ _
def f_X1_copyFrom_16 (l0 : Nat) (l1 : Nat) (m : Mm) (o : Prop) : Unit × Mm × Prop := f_X1_copyFrom_24 l0 l1 (sI m l0 2 (gI m l1 2)) ((o ∧ gT m l1 = 2) ∧ gT m l0 = 2)
set_option maxRecDepth 10000 in
theorem t_X1_copyFrom_16 (l : Launch) (E : En) (c0 s0 : Nat) (l0 : Nat) (l1 : Nat) (m : Mm) (o : Prop) : Mh wU l E mi_X1_copyFrom c0 s0 16 [(0, .ref l0), (1, .ref l1)] [] m o (f_X1_copyFrom_16 l0 l1 m o) := by
  refine Mh_aload_n 0 rfl dX1_copyFrom_16 ?_
  refine Mh_aload_n 1 rfl dX1_copyFrom_17 ?_
  refine Mh_gI fd_1_2 fl_RX1_22 dX1_copyFrom_18 ?_
  refine Mh_pI fd_1_2 ft_1 rfl fl_RX1_22 rfl dX1_copyFrom_21 ?_
  exact t_X1_copyFrom_24 l E c0 s0 _ _ _ _
def f_X1_copyFrom_8 (l0 : Nat) (l1 : Nat) (m : Mm) (o : Prop) : Unit × Mm × Prop := f_X1_copyFrom_16 l0 l1 (sI m l0 1 (gI m l1 1)) ((o ∧ gT m l1 = 2) ∧ gT m l0 = 2)
set_option maxRecDepth 10000 in
theorem t_X1_copyFrom_8 (l : Launch) (E : En) (c0 s0 : Nat) (l0 : Nat) (l1 : Nat) (m : Mm) (o : Prop) : Mh wU l E mi_X1_copyFrom c0 s0 8 [(0, .ref l0), (1, .ref l1)] [] m o (f_X1_copyFrom_8 l0 l1 m o) := by
  refine Mh_aload_n 0 rfl dX1_copyFrom_8 ?_
  refine Mh_aload_n 1 rfl dX1_copyFrom_9 ?_
  refine Mh_gI fd_1_1 fl_RX1_19 dX1_copyFrom_10 ?_
  refine Mh_pI fd_1_1 ft_1 rfl fl_RX1_19 rfl dX1_copyFrom_13 ?_
  exact t_X1_copyFrom_16 l E c0 s0 _ _ _ _
def f_X1_copyFrom_0 (l0 : Nat) (l1 : Nat) (m : Mm) (o : Prop) : Unit × Mm × Prop := f_X1_copyFrom_8 l0 l1 (sI m l0 0 (gI m l1 0)) ((o ∧ gT m l1 = 2) ∧ gT m l0 = 2)
set_option maxRecDepth 10000 in
theorem t_X1_copyFrom_0 (l : Launch) (E : En) (c0 s0 : Nat) (l0 : Nat) (l1 : Nat) (m : Mm) (o : Prop) : Mh wU l E mi_X1_copyFrom c0 s0 0 [(0, .ref l0), (1, .ref l1)] [] m o (f_X1_copyFrom_0 l0 l1 m o) := by
  refine Mh_aload_n 0 rfl dX1_copyFrom_0 ?_
  refine Mh_aload_n 1 rfl dX1_copyFrom_1 ?_
  refine Mh_gI fd_1_0 fl_RX1_15 dX1_copyFrom_2 ?_
  refine Mh_pI fd_1_0 ft_1 rfl fl_RX1_15 rfl dX1_copyFrom_5 ?_
  exact t_X1_copyFrom_8 l E c0 s0 _ _ _ _
def F_X1_copyFrom (a0 : Nat) (a1 : Nat) (m : Mm) (o : Prop) : Unit × Mm × Prop := f_X1_copyFrom_0 a0 a1 m o
theorem T_X1_copyFrom (l : Launch) (E : En) (a0 : Nat) (a1 : Nat) (m : Mm) (o : Prop) : Mt wU l E yX1_copyFrom mi_X1_copyFrom [.ref a0, .ref a1] m o (F_X1_copyFrom a0 a1 m o) :=
  Mt_U (by decide) rfl (fun h => by cases h) rfl (Nat.le_of_ble_eq_true rfl) rfl (t_X1_copyFrom_0 l E _ _ _ _ _ _)
def f_X7_copyFrom_84 (k66 : Nat → Nat → Int32 → Mm → Prop → Unit × Mm × Prop) (l0 : Nat) (l1 : Nat) (l2 : Int32) (m : Mm) (o : Prop) : Unit × Mm × Prop := k66 l0 l1 (l2 + 1) m o
set_option maxRecDepth 10000 in
theorem t_X7_copyFrom_84 (l : Launch) (E : En) (c0 s0 : Nat) (k66 : Nat → Nat → Int32 → Mm → Prop → Unit × Mm × Prop) (hk66 : ∀ (l0 : Nat) (l1 : Nat) (l2 : Int32) (m : Mm) (o : Prop), Mh wU l E mi_X7_copyFrom c0 s0 66 [(0, .ref l0), (1, .ref l1), (2, .int l2)] [] m o (k66 l0 l1 l2 m o)) (l0 : Nat) (l1 : Nat) (l2 : Int32) (m : Mm) (o : Prop) : Mh wU l E mi_X7_copyFrom c0 s0 84 [(0, .ref l0), (1, .ref l1), (2, .int l2)] [] m o (f_X7_copyFrom_84 k66 l0 l1 l2 m o) := by
  refine Mh_iinc (v := l2 + 1) (lv' := [(2, .int (l2 + 1)), (0, .ref l0), (1, .ref l1)]) 2 dX7_copyFrom_84 rfl rfl (Nat.le_of_ble_eq_true rfl) rfl ?_
  refine Mh_goto (tgt := 66) dX7_copyFrom_87 (by decide) ?_
  refine Mh_sub (lv' := [(0, .ref l0), (1, .ref l1), (2, .int (l2 + 1))]) [1, 2, 0] rfl ?_
  exact hk66 _ _ _ _ _
def f_X7_copyFrom_66b (k66 : Nat → Nat → Int32 → Mm → Prop → Unit × Mm × Prop) (l0 : Nat) (l1 : Nat) (l2 : Int32) (m : Mm) (o : Prop) : Unit × Mm × Prop := if (16 : Int32) ≤ l2 then ((), m, o) else (f_X7_copyFrom_84 k66 l0 l1 l2 (sI m (gR m l0 8) (ix l2) (gI m (gR m l1 8) (ix l2))) ((((o ∧ (gT m l0 = 8 ∧ gR m l0 8 ≠ 0)) ∧ (gT m l1 = 8 ∧ gR m l1 8 ≠ 0)) ∧ (gT m (gR m l1 8) = 20 ∧ vp_in l2 (gN m (gR m l1 8)))) ∧ (gT m (gR m l0 8) = 20 ∧ vp_in l2 (gN m (gR m l0 8)))))
set_option maxRecDepth 10000 in
theorem t_X7_copyFrom_66b (l : Launch) (E : En) (c0 s0 : Nat) (k66 : Nat → Nat → Int32 → Mm → Prop → Unit × Mm × Prop) (hk66 : ∀ (l0 : Nat) (l1 : Nat) (l2 : Int32) (m : Mm) (o : Prop), Mh wU l E mi_X7_copyFrom c0 s0 66 [(0, .ref l0), (1, .ref l1), (2, .int l2)] [] m o (k66 l0 l1 l2 m o)) (l0 : Nat) (l1 : Nat) (l2 : Int32) (m : Mm) (o : Prop) : Mh wU l E mi_X7_copyFrom c0 s0 66 [(0, .ref l0), (1, .ref l1), (2, .int l2)] [] m o (f_X7_copyFrom_66b k66 l0 l1 l2 m o) := by
  refine Mh_iload_n 2 rfl dX7_copyFrom_66 ?_
  refine Mh_bipush (v := 16) dX7_copyFrom_67 (by decide) ?_
  refine Mh_icmp_ge (tgt := 90) dX7_copyFrom_69 (by decide) rfl (fun _ => ?_) (fun _ => ?_)
  · exact Mh_ret dX7_copyFrom_90 rfl (fun _ => trivial) rfl
  · refine Mh_aload_n 0 rfl dX7_copyFrom_72 ?_
    refine Mh_gR fd_7_8 fl_RX7_9 dX7_copyFrom_73 ?_
    refine Mh_iload_n 2 rfl dX7_copyFrom_76 ?_
    refine Mh_aload_n 1 rfl dX7_copyFrom_77 ?_
    refine Mh_gR fd_7_8 fl_RX7_9 dX7_copyFrom_78 ?_
    refine Mh_iload_n 2 rfl dX7_copyFrom_81 ?_
    refine Mh_ial dX7_copyFrom_82 ?_
    refine Mh_ias dX7_copyFrom_83 ?_
    exact t_X7_copyFrom_84 l E c0 s0 k66 hk66 _ _ _ _ _
def f_X7_copyFrom_66 : Nat → Nat → Nat → Int32 → Mm → Prop → Unit × Mm × Prop
  | 0, _, _, _, m, _ => ((), m, False)
  | n + 1, l0, l1, l2, m, o => f_X7_copyFrom_66b (f_X7_copyFrom_66 n) l0 l1 l2 m o
theorem t_X7_copyFrom_66 (l : Launch) (E : En) (c0 s0 : Nat) : ∀ (n : Nat) (l0 : Nat) (l1 : Nat) (l2 : Int32) (m : Mm) (o : Prop), Mh wU l E mi_X7_copyFrom c0 s0 66 [(0, .ref l0), (1, .ref l1), (2, .int l2)] [] m o (f_X7_copyFrom_66 n l0 l1 l2 m o)
  | 0, _, _, _, _, _ => Mh_out rfl
  | n + 1, l0, l1, l2, m, o => t_X7_copyFrom_66b l E c0 s0 (f_X7_copyFrom_66 n) (t_X7_copyFrom_66 l E c0 s0 n) l0 l1 l2 m o
def f_X7_copyFrom_64 (l0 : Nat) (l1 : Nat) (m : Mm) (o : Prop) : Unit × Mm × Prop := f_X7_copyFrom_66 1000 l0 l1 (0 : Int32) m o
set_option maxRecDepth 10000 in
theorem t_X7_copyFrom_64 (l : Launch) (E : En) (c0 s0 : Nat) (l0 : Nat) (l1 : Nat) (m : Mm) (o : Prop) : Mh wU l E mi_X7_copyFrom c0 s0 64 [(0, .ref l0), (1, .ref l1)] [] m o (f_X7_copyFrom_64 l0 l1 m o) := by
  refine Mh_iconst (v := 0) dX7_copyFrom_64 (by decide) ?_
  refine Mh_istore_n (lv' := [(2, .int (0 : Int32)), (0, .ref l0), (1, .ref l1)]) dX7_copyFrom_65 (Nat.le_of_ble_eq_true rfl) rfl ?_
  refine Mh_sub (lv' := [(0, .ref l0), (1, .ref l1), (2, .int (0 : Int32))]) [1, 2, 0] rfl ?_
  exact t_X7_copyFrom_66 l E c0 s0 _ _ _ _ _ _
def f_X7_copyFrom_56 (l0 : Nat) (l1 : Nat) (m : Mm) (o : Prop) : Unit × Mm × Prop := f_X7_copyFrom_64 l0 l1 (sI m l0 7 (gI m l1 7)) ((o ∧ gT m l1 = 8) ∧ (gT m l0 = 8 ∧ ((gI m l1 7) = 0 ∨ (gI m l1 7) = 1)))
set_option maxRecDepth 10000 in
theorem t_X7_copyFrom_56 (l : Launch) (E : En) (c0 s0 : Nat) (l0 : Nat) (l1 : Nat) (m : Mm) (o : Prop) : Mh wU l E mi_X7_copyFrom c0 s0 56 [(0, .ref l0), (1, .ref l1)] [] m o (f_X7_copyFrom_56 l0 l1 m o) := by
  refine Mh_aload_n 0 rfl dX7_copyFrom_56 ?_
  refine Mh_aload_n 1 rfl dX7_copyFrom_57 ?_
  refine Mh_gI fd_7_7 fl_RX7_37 dX7_copyFrom_58 ?_
  refine Mh_pZ fd_7_7 ft_7 rfl fl_RX7_37 rfl dX7_copyFrom_61 ?_
  exact t_X7_copyFrom_64 l E c0 s0 _ _ _ _
def f_X7_copyFrom_48 (l0 : Nat) (l1 : Nat) (m : Mm) (o : Prop) : Unit × Mm × Prop := f_X7_copyFrom_56 l0 l1 (sI m l0 6 (gI m l1 6)) ((o ∧ gT m l1 = 8) ∧ gT m l0 = 8)
set_option maxRecDepth 10000 in
theorem t_X7_copyFrom_48 (l : Launch) (E : En) (c0 s0 : Nat) (l0 : Nat) (l1 : Nat) (m : Mm) (o : Prop) : Mh wU l E mi_X7_copyFrom c0 s0 48 [(0, .ref l0), (1, .ref l1)] [] m o (f_X7_copyFrom_48 l0 l1 m o) := by
  refine Mh_aload_n 0 rfl dX7_copyFrom_48 ?_
  refine Mh_aload_n 1 rfl dX7_copyFrom_49 ?_
  refine Mh_gI fd_7_6 fl_RX7_34 dX7_copyFrom_50 ?_
  refine Mh_pI fd_7_6 ft_7 rfl fl_RX7_34 rfl dX7_copyFrom_53 ?_
  exact t_X7_copyFrom_56 l E c0 s0 _ _ _ _
def f_X7_copyFrom_40 (l0 : Nat) (l1 : Nat) (m : Mm) (o : Prop) : Unit × Mm × Prop := f_X7_copyFrom_48 l0 l1 (sI m l0 5 (gI m l1 5)) ((o ∧ gT m l1 = 8) ∧ gT m l0 = 8)
set_option maxRecDepth 10000 in
theorem t_X7_copyFrom_40 (l : Launch) (E : En) (c0 s0 : Nat) (l0 : Nat) (l1 : Nat) (m : Mm) (o : Prop) : Mh wU l E mi_X7_copyFrom c0 s0 40 [(0, .ref l0), (1, .ref l1)] [] m o (f_X7_copyFrom_40 l0 l1 m o) := by
  refine Mh_aload_n 0 rfl dX7_copyFrom_40 ?_
  refine Mh_aload_n 1 rfl dX7_copyFrom_41 ?_
  refine Mh_gI fd_7_5 fl_RX7_31 dX7_copyFrom_42 ?_
  refine Mh_pI fd_7_5 ft_7 rfl fl_RX7_31 rfl dX7_copyFrom_45 ?_
  exact t_X7_copyFrom_48 l E c0 s0 _ _ _ _
def f_X7_copyFrom_32 (l0 : Nat) (l1 : Nat) (m : Mm) (o : Prop) : Unit × Mm × Prop := f_X7_copyFrom_40 l0 l1 (sI m l0 4 (gI m l1 4)) ((o ∧ gT m l1 = 8) ∧ gT m l0 = 8)
set_option maxRecDepth 10000 in
theorem t_X7_copyFrom_32 (l : Launch) (E : En) (c0 s0 : Nat) (l0 : Nat) (l1 : Nat) (m : Mm) (o : Prop) : Mh wU l E mi_X7_copyFrom c0 s0 32 [(0, .ref l0), (1, .ref l1)] [] m o (f_X7_copyFrom_32 l0 l1 m o) := by
  refine Mh_aload_n 0 rfl dX7_copyFrom_32 ?_
  refine Mh_aload_n 1 rfl dX7_copyFrom_33 ?_
  refine Mh_gI fd_7_4 fl_RX7_28 dX7_copyFrom_34 ?_
  refine Mh_pI fd_7_4 ft_7 rfl fl_RX7_28 rfl dX7_copyFrom_37 ?_
  exact t_X7_copyFrom_40 l E c0 s0 _ _ _ _
def f_X7_copyFrom_24 (l0 : Nat) (l1 : Nat) (m : Mm) (o : Prop) : Unit × Mm × Prop := f_X7_copyFrom_32 l0 l1 (sI m l0 3 (gI m l1 3)) ((o ∧ gT m l1 = 8) ∧ gT m l0 = 8)
set_option maxRecDepth 10000 in
theorem t_X7_copyFrom_24 (l : Launch) (E : En) (c0 s0 : Nat) (l0 : Nat) (l1 : Nat) (m : Mm) (o : Prop) : Mh wU l E mi_X7_copyFrom c0 s0 24 [(0, .ref l0), (1, .ref l1)] [] m o (f_X7_copyFrom_24 l0 l1 m o) := by
  refine Mh_aload_n 0 rfl dX7_copyFrom_24 ?_
  refine Mh_aload_n 1 rfl dX7_copyFrom_25 ?_
  refine Mh_gI fd_7_3 fl_RX7_25 dX7_copyFrom_26 ?_
  refine Mh_pI fd_7_3 ft_7 rfl fl_RX7_25 rfl dX7_copyFrom_29 ?_
  exact t_X7_copyFrom_32 l E c0 s0 _ _ _ _
def f_X7_copyFrom_16 (l0 : Nat) (l1 : Nat) (m : Mm) (o : Prop) : Unit × Mm × Prop := f_X7_copyFrom_24 l0 l1 (sI m l0 2 (gI m l1 2)) ((o ∧ gT m l1 = 8) ∧ gT m l0 = 8)
set_option maxRecDepth 10000 in
theorem t_X7_copyFrom_16 (l : Launch) (E : En) (c0 s0 : Nat) (l0 : Nat) (l1 : Nat) (m : Mm) (o : Prop) : Mh wU l E mi_X7_copyFrom c0 s0 16 [(0, .ref l0), (1, .ref l1)] [] m o (f_X7_copyFrom_16 l0 l1 m o) := by
  refine Mh_aload_n 0 rfl dX7_copyFrom_16 ?_
  refine Mh_aload_n 1 rfl dX7_copyFrom_17 ?_
  refine Mh_gI fd_7_2 fl_RX7_22 dX7_copyFrom_18 ?_
  refine Mh_pI fd_7_2 ft_7 rfl fl_RX7_22 rfl dX7_copyFrom_21 ?_
  exact t_X7_copyFrom_24 l E c0 s0 _ _ _ _
def f_X7_copyFrom_8 (l0 : Nat) (l1 : Nat) (m : Mm) (o : Prop) : Unit × Mm × Prop := f_X7_copyFrom_16 l0 l1 (sI m l0 1 (gI m l1 1)) ((o ∧ gT m l1 = 8) ∧ gT m l0 = 8)
set_option maxRecDepth 10000 in
theorem t_X7_copyFrom_8 (l : Launch) (E : En) (c0 s0 : Nat) (l0 : Nat) (l1 : Nat) (m : Mm) (o : Prop) : Mh wU l E mi_X7_copyFrom c0 s0 8 [(0, .ref l0), (1, .ref l1)] [] m o (f_X7_copyFrom_8 l0 l1 m o) := by
  refine Mh_aload_n 0 rfl dX7_copyFrom_8 ?_
  refine Mh_aload_n 1 rfl dX7_copyFrom_9 ?_
  refine Mh_gI fd_7_1 fl_RX7_19 dX7_copyFrom_10 ?_
  refine Mh_pI fd_7_1 ft_7 rfl fl_RX7_19 rfl dX7_copyFrom_13 ?_
  exact t_X7_copyFrom_16 l E c0 s0 _ _ _ _
def f_X7_copyFrom_0 (l0 : Nat) (l1 : Nat) (m : Mm) (o : Prop) : Unit × Mm × Prop := f_X7_copyFrom_8 l0 l1 (sI m l0 0 (gI m l1 0)) ((o ∧ gT m l1 = 8) ∧ gT m l0 = 8)
set_option maxRecDepth 10000 in
theorem t_X7_copyFrom_0 (l : Launch) (E : En) (c0 s0 : Nat) (l0 : Nat) (l1 : Nat) (m : Mm) (o : Prop) : Mh wU l E mi_X7_copyFrom c0 s0 0 [(0, .ref l0), (1, .ref l1)] [] m o (f_X7_copyFrom_0 l0 l1 m o) := by
  refine Mh_aload_n 0 rfl dX7_copyFrom_0 ?_
  refine Mh_aload_n 1 rfl dX7_copyFrom_1 ?_
  refine Mh_gI fd_7_0 fl_RX7_15 dX7_copyFrom_2 ?_
  refine Mh_pI fd_7_0 ft_7 rfl fl_RX7_15 rfl dX7_copyFrom_5 ?_
  exact t_X7_copyFrom_8 l E c0 s0 _ _ _ _
def F_X7_copyFrom (a0 : Nat) (a1 : Nat) (m : Mm) (o : Prop) : Unit × Mm × Prop := f_X7_copyFrom_0 a0 a1 m o
theorem T_X7_copyFrom (l : Launch) (E : En) (a0 : Nat) (a1 : Nat) (m : Mm) (o : Prop) : Mt wU l E yX7_copyFrom mi_X7_copyFrom [.ref a0, .ref a1] m o (F_X7_copyFrom a0 a1 m o) :=
  Mt_U (by decide) rfl (fun h => by cases h) rfl (Nat.le_of_ble_eq_true rfl) rfl (t_X7_copyFrom_0 l E _ _ _ _ _ _)
def f_X5_copyFrom_73 (k50 : Nat → Nat → Int32 → Mm → Prop → Unit × Mm × Prop) (l0 : Nat) (l1 : Nat) (l2 : Int32) (m : Mm) (o : Prop) : Unit × Mm × Prop := k50 l0 l1 (l2 + 1) m o
set_option maxRecDepth 10000 in
theorem t_X5_copyFrom_73 (l : Launch) (E : En) (c0 s0 : Nat) (k50 : Nat → Nat → Int32 → Mm → Prop → Unit × Mm × Prop) (hk50 : ∀ (l0 : Nat) (l1 : Nat) (l2 : Int32) (m : Mm) (o : Prop), Mh wU l E mi_X5_copyFrom c0 s0 50 [(0, .ref l0), (1, .ref l1), (2, .int l2)] [] m o (k50 l0 l1 l2 m o)) (l0 : Nat) (l1 : Nat) (l2 : Int32) (m : Mm) (o : Prop) : Mh wU l E mi_X5_copyFrom c0 s0 73 [(0, .ref l0), (1, .ref l1), (2, .int l2)] [] m o (f_X5_copyFrom_73 k50 l0 l1 l2 m o) := by
  refine Mh_iinc (v := l2 + 1) (lv' := [(2, .int (l2 + 1)), (0, .ref l0), (1, .ref l1)]) 2 dX5_copyFrom_73 rfl rfl (Nat.le_of_ble_eq_true rfl) rfl ?_
  refine Mh_goto (tgt := 50) dX5_copyFrom_76 (by decide) ?_
  refine Mh_sub (lv' := [(0, .ref l0), (1, .ref l1), (2, .int (l2 + 1))]) [1, 2, 0] rfl ?_
  exact hk50 _ _ _ _ _
def f_X5_copyFrom_104 (k81 : Nat → Nat → Int32 → Mm → Prop → Unit × Mm × Prop) (l0 : Nat) (l1 : Nat) (l2 : Int32) (m : Mm) (o : Prop) : Unit × Mm × Prop := k81 l0 l1 (l2 + 1) m o
set_option maxRecDepth 10000 in
theorem t_X5_copyFrom_104 (l : Launch) (E : En) (c0 s0 : Nat) (k81 : Nat → Nat → Int32 → Mm → Prop → Unit × Mm × Prop) (hk81 : ∀ (l0 : Nat) (l1 : Nat) (l2 : Int32) (m : Mm) (o : Prop), Mh wU l E mi_X5_copyFrom c0 s0 81 [(0, .ref l0), (1, .ref l1), (2, .int l2)] [] m o (k81 l0 l1 l2 m o)) (l0 : Nat) (l1 : Nat) (l2 : Int32) (m : Mm) (o : Prop) : Mh wU l E mi_X5_copyFrom c0 s0 104 [(0, .ref l0), (1, .ref l1), (2, .int l2)] [] m o (f_X5_copyFrom_104 k81 l0 l1 l2 m o) := by
  refine Mh_iinc (v := l2 + 1) (lv' := [(2, .int (l2 + 1)), (0, .ref l0), (1, .ref l1)]) 2 dX5_copyFrom_104 rfl rfl (Nat.le_of_ble_eq_true rfl) rfl ?_
  refine Mh_goto (tgt := 81) dX5_copyFrom_107 (by decide) ?_
  refine Mh_sub (lv' := [(0, .ref l0), (1, .ref l1), (2, .int (l2 + 1))]) [1, 2, 0] rfl ?_
  exact hk81 _ _ _ _ _
def f_X5_copyFrom_129 (k112 : Nat → Nat → Int32 → Mm → Prop → Unit × Mm × Prop) (l0 : Nat) (l1 : Nat) (l2 : Int32) (m : Mm) (o : Prop) : Unit × Mm × Prop := k112 l0 l1 (l2 + 1) m o
set_option maxRecDepth 10000 in
theorem t_X5_copyFrom_129 (l : Launch) (E : En) (c0 s0 : Nat) (k112 : Nat → Nat → Int32 → Mm → Prop → Unit × Mm × Prop) (hk112 : ∀ (l0 : Nat) (l1 : Nat) (l2 : Int32) (m : Mm) (o : Prop), Mh wU l E mi_X5_copyFrom c0 s0 112 [(0, .ref l0), (1, .ref l1), (2, .int l2)] [] m o (k112 l0 l1 l2 m o)) (l0 : Nat) (l1 : Nat) (l2 : Int32) (m : Mm) (o : Prop) : Mh wU l E mi_X5_copyFrom c0 s0 129 [(0, .ref l0), (1, .ref l1), (2, .int l2)] [] m o (f_X5_copyFrom_129 k112 l0 l1 l2 m o) := by
  refine Mh_iinc (v := l2 + 1) (lv' := [(2, .int (l2 + 1)), (0, .ref l0), (1, .ref l1)]) 2 dX5_copyFrom_129 rfl rfl (Nat.le_of_ble_eq_true rfl) rfl ?_
  refine Mh_goto (tgt := 112) dX5_copyFrom_132 (by decide) ?_
  refine Mh_sub (lv' := [(0, .ref l0), (1, .ref l1), (2, .int (l2 + 1))]) [1, 2, 0] rfl ?_
  exact hk112 _ _ _ _ _
def f_X5_copyFrom_112b (k112 : Nat → Nat → Int32 → Mm → Prop → Unit × Mm × Prop) (l0 : Nat) (l1 : Nat) (l2 : Int32) (m : Mm) (o : Prop) : Unit × Mm × Prop := if (5 : Int32) ≤ l2 then ((), m, o) else (f_X5_copyFrom_129 k112 l0 l1 l2 (sI m (gR m l0 2) (ix l2) (gI m (gR m l1 2) (ix l2))) ((((o ∧ (gT m l0 = 6 ∧ gR m l0 2 ≠ 0)) ∧ (gT m l1 = 6 ∧ gR m l1 2 ≠ 0)) ∧ (gT m (gR m l1 2) = 20 ∧ vp_in l2 (gN m (gR m l1 2)))) ∧ (gT m (gR m l0 2) = 20 ∧ vp_in l2 (gN m (gR m l0 2)))))
set_option maxRecDepth 10000 in
theorem t_X5_copyFrom_112b (l : Launch) (E : En) (c0 s0 : Nat) (k112 : Nat → Nat → Int32 → Mm → Prop → Unit × Mm × Prop) (hk112 : ∀ (l0 : Nat) (l1 : Nat) (l2 : Int32) (m : Mm) (o : Prop), Mh wU l E mi_X5_copyFrom c0 s0 112 [(0, .ref l0), (1, .ref l1), (2, .int l2)] [] m o (k112 l0 l1 l2 m o)) (l0 : Nat) (l1 : Nat) (l2 : Int32) (m : Mm) (o : Prop) : Mh wU l E mi_X5_copyFrom c0 s0 112 [(0, .ref l0), (1, .ref l1), (2, .int l2)] [] m o (f_X5_copyFrom_112b k112 l0 l1 l2 m o) := by
  refine Mh_iload_n 2 rfl dX5_copyFrom_112 ?_
  refine Mh_iconst (v := 5) dX5_copyFrom_113 (by decide) ?_
  refine Mh_icmp_ge (tgt := 135) dX5_copyFrom_114 (by decide) rfl (fun _ => ?_) (fun _ => ?_)
  · exact Mh_ret dX5_copyFrom_135 rfl (fun _ => trivial) rfl
  · refine Mh_aload_n 0 rfl dX5_copyFrom_117 ?_
    refine Mh_gR fd_5_2 fl_RX5_23 dX5_copyFrom_118 ?_
    refine Mh_iload_n 2 rfl dX5_copyFrom_121 ?_
    refine Mh_aload_n 1 rfl dX5_copyFrom_122 ?_
    refine Mh_gR fd_5_2 fl_RX5_23 dX5_copyFrom_123 ?_
    refine Mh_iload_n 2 rfl dX5_copyFrom_126 ?_
    refine Mh_ial dX5_copyFrom_127 ?_
    refine Mh_ias dX5_copyFrom_128 ?_
    exact t_X5_copyFrom_129 l E c0 s0 k112 hk112 _ _ _ _ _
def f_X5_copyFrom_112 : Nat → Nat → Nat → Int32 → Mm → Prop → Unit × Mm × Prop
  | 0, _, _, _, m, _ => ((), m, False)
  | n + 1, l0, l1, l2, m, o => f_X5_copyFrom_112b (f_X5_copyFrom_112 n) l0 l1 l2 m o
theorem t_X5_copyFrom_112 (l : Launch) (E : En) (c0 s0 : Nat) : ∀ (n : Nat) (l0 : Nat) (l1 : Nat) (l2 : Int32) (m : Mm) (o : Prop), Mh wU l E mi_X5_copyFrom c0 s0 112 [(0, .ref l0), (1, .ref l1), (2, .int l2)] [] m o (f_X5_copyFrom_112 n l0 l1 l2 m o)
  | 0, _, _, _, _, _ => Mh_out rfl
  | n + 1, l0, l1, l2, m, o => t_X5_copyFrom_112b l E c0 s0 (f_X5_copyFrom_112 n) (t_X5_copyFrom_112 l E c0 s0 n) l0 l1 l2 m o
def f_X5_copyFrom_81b (k81 : Nat → Nat → Int32 → Mm → Prop → Unit × Mm × Prop) (l0 : Nat) (l1 : Nat) (l2 : Int32) (m : Mm) (o : Prop) : Unit × Mm × Prop := if (gI m l0 7) ≤ l2 then (f_X5_copyFrom_112 1000 l0 l1 (0 : Int32) m (o ∧ gT m l0 = 6)) else (bnd (F_X1_copyFrom (gR m (gR m l0 1) (ix l2)) (gR m (gR m l1 1) (ix l2)) m ((((((o ∧ gT m l0 = 6) ∧ (gT m l0 = 6 ∧ gR m l0 1 ≠ 0)) ∧ (gT m (gR m l0 1) = 25 ∧ vp_in l2 (gN m (gR m l0 1)) ∧ gR m (gR m l0 1) (ix l2) ≠ 0)) ∧ (gT m l1 = 6 ∧ gR m l1 1 ≠ 0)) ∧ (gT m (gR m l1 1) = 25 ∧ vp_in l2 (gN m (gR m l1 1)) ∧ gR m (gR m l1 1) (ix l2) ≠ 0)) ∧ gT m (gR m (gR m l0 1) (ix l2)) = 2)) (fun _ m1 o1 => f_X5_copyFrom_104 k81 l0 l1 l2 m1 o1))
set_option maxRecDepth 10000 in
theorem t_X5_copyFrom_81b (l : Launch) (E : En) (c0 s0 : Nat) (k81 : Nat → Nat → Int32 → Mm → Prop → Unit × Mm × Prop) (hk81 : ∀ (l0 : Nat) (l1 : Nat) (l2 : Int32) (m : Mm) (o : Prop), Mh wU l E mi_X5_copyFrom c0 s0 81 [(0, .ref l0), (1, .ref l1), (2, .int l2)] [] m o (k81 l0 l1 l2 m o)) (l0 : Nat) (l1 : Nat) (l2 : Int32) (m : Mm) (o : Prop) : Mh wU l E mi_X5_copyFrom c0 s0 81 [(0, .ref l0), (1, .ref l1), (2, .int l2)] [] m o (f_X5_copyFrom_81b k81 l0 l1 l2 m o) := by
  refine Mh_iload_n 2 rfl dX5_copyFrom_81 ?_
  refine Mh_aload_n 0 rfl dX5_copyFrom_82 ?_
  refine Mh_gI fd_5_7 fl_RX5_51 dX5_copyFrom_83 ?_
  refine Mh_icmp_ge (tgt := 110) dX5_copyFrom_86 (by decide) rfl (fun _ => ?_) (fun _ => ?_)
  · refine Mh_iconst (v := 0) dX5_copyFrom_110 (by decide) ?_
    refine Mh_istore_n (lv' := [(2, .int (0 : Int32)), (0, .ref l0), (1, .ref l1)]) dX5_copyFrom_111 (Nat.le_of_ble_eq_true rfl) rfl ?_
    refine Mh_sub (lv' := [(0, .ref l0), (1, .ref l1), (2, .int (0 : Int32))]) [1, 2, 0] rfl ?_
    exact t_X5_copyFrom_112 l E c0 s0 _ _ _ _ _ _
  · refine Mh_aload_n 0 rfl dX5_copyFrom_89 ?_
    refine Mh_gR fd_5_1 fl_RX5_19 dX5_copyFrom_90 ?_
    refine Mh_iload_n 2 rfl dX5_copyFrom_93 ?_
    refine Mh_aal 25 (.inr rfl) dX5_copyFrom_94 ?_
    refine Mh_aload_n 1 rfl dX5_copyFrom_95 ?_
    refine Mh_gR fd_5_1 fl_RX5_19 dX5_copyFrom_96 ?_
    refine Mh_iload_n 2 rfl dX5_copyFrom_99 ?_
    refine Mh_aal 25 (.inr rfl) dX5_copyFrom_100 ?_
    refine Mh_cvU (N := mi_X1_copyFrom) (q := gR m (gR m l0 1) (ix l2)) (ci := 1) (as := [.ref (gR m (gR m l1 1) (ix l2))]) (st := []) (id) cg_yX1_copyFrom (by decide) rfl rfl ml_RX5_61 iv_yX1_copyFrom pd_yX1_copyFrom rfl (by decide) (Nat.le_of_ble_eq_true rfl) rfl dX5_copyFrom_101 (T_X1_copyFrom l E _ _ _ _) rfl ?_
    exact t_X5_copyFrom_104 l E c0 s0 k81 hk81 _ _ _ _ _
def f_X5_copyFrom_81 : Nat → Nat → Nat → Int32 → Mm → Prop → Unit × Mm × Prop
  | 0, _, _, _, m, _ => ((), m, False)
  | n + 1, l0, l1, l2, m, o => f_X5_copyFrom_81b (f_X5_copyFrom_81 n) l0 l1 l2 m o
theorem t_X5_copyFrom_81 (l : Launch) (E : En) (c0 s0 : Nat) : ∀ (n : Nat) (l0 : Nat) (l1 : Nat) (l2 : Int32) (m : Mm) (o : Prop), Mh wU l E mi_X5_copyFrom c0 s0 81 [(0, .ref l0), (1, .ref l1), (2, .int l2)] [] m o (f_X5_copyFrom_81 n l0 l1 l2 m o)
  | 0, _, _, _, _, _ => Mh_out rfl
  | n + 1, l0, l1, l2, m, o => t_X5_copyFrom_81b l E c0 s0 (f_X5_copyFrom_81 n) (t_X5_copyFrom_81 l E c0 s0 n) l0 l1 l2 m o
def f_X5_copyFrom_50b (k50 : Nat → Nat → Int32 → Mm → Prop → Unit × Mm × Prop) (l0 : Nat) (l1 : Nat) (l2 : Int32) (m : Mm) (o : Prop) : Unit × Mm × Prop := if (gI m l0 6) ≤ l2 then (f_X5_copyFrom_81 1000 l0 l1 (0 : Int32) m (o ∧ gT m l0 = 6)) else (bnd (F_X7_copyFrom (gR m (gR m l0 0) (ix l2)) (gR m (gR m l1 0) (ix l2)) m ((((((o ∧ gT m l0 = 6) ∧ (gT m l0 = 6 ∧ gR m l0 0 ≠ 0)) ∧ (gT m (gR m l0 0) = 24 ∧ vp_in l2 (gN m (gR m l0 0)) ∧ gR m (gR m l0 0) (ix l2) ≠ 0)) ∧ (gT m l1 = 6 ∧ gR m l1 0 ≠ 0)) ∧ (gT m (gR m l1 0) = 24 ∧ vp_in l2 (gN m (gR m l1 0)) ∧ gR m (gR m l1 0) (ix l2) ≠ 0)) ∧ gT m (gR m (gR m l0 0) (ix l2)) = 8)) (fun _ m1 o1 => f_X5_copyFrom_73 k50 l0 l1 l2 m1 o1))
set_option maxRecDepth 10000 in
theorem t_X5_copyFrom_50b (l : Launch) (E : En) (c0 s0 : Nat) (k50 : Nat → Nat → Int32 → Mm → Prop → Unit × Mm × Prop) (hk50 : ∀ (l0 : Nat) (l1 : Nat) (l2 : Int32) (m : Mm) (o : Prop), Mh wU l E mi_X5_copyFrom c0 s0 50 [(0, .ref l0), (1, .ref l1), (2, .int l2)] [] m o (k50 l0 l1 l2 m o)) (l0 : Nat) (l1 : Nat) (l2 : Int32) (m : Mm) (o : Prop) : Mh wU l E mi_X5_copyFrom c0 s0 50 [(0, .ref l0), (1, .ref l1), (2, .int l2)] [] m o (f_X5_copyFrom_50b k50 l0 l1 l2 m o) := by
  refine Mh_iload_n 2 rfl dX5_copyFrom_50 ?_
  refine Mh_aload_n 0 rfl dX5_copyFrom_51 ?_
  refine Mh_gI fd_5_6 fl_RX5_48 dX5_copyFrom_52 ?_
  refine Mh_icmp_ge (tgt := 79) dX5_copyFrom_55 (by decide) rfl (fun _ => ?_) (fun _ => ?_)
  · refine Mh_iconst (v := 0) dX5_copyFrom_79 (by decide) ?_
    refine Mh_istore_n (lv' := [(2, .int (0 : Int32)), (0, .ref l0), (1, .ref l1)]) dX5_copyFrom_80 (Nat.le_of_ble_eq_true rfl) rfl ?_
    refine Mh_sub (lv' := [(0, .ref l0), (1, .ref l1), (2, .int (0 : Int32))]) [1, 2, 0] rfl ?_
    exact t_X5_copyFrom_81 l E c0 s0 _ _ _ _ _ _
  · refine Mh_aload_n 0 rfl dX5_copyFrom_58 ?_
    refine Mh_gR fd_5_0 fl_RX5_11 dX5_copyFrom_59 ?_
    refine Mh_iload_n 2 rfl dX5_copyFrom_62 ?_
    refine Mh_aal 24 (.inl rfl) dX5_copyFrom_63 ?_
    refine Mh_aload_n 1 rfl dX5_copyFrom_64 ?_
    refine Mh_gR fd_5_0 fl_RX5_11 dX5_copyFrom_65 ?_
    refine Mh_iload_n 2 rfl dX5_copyFrom_68 ?_
    refine Mh_aal 24 (.inl rfl) dX5_copyFrom_69 ?_
    refine Mh_cvU (N := mi_X7_copyFrom) (q := gR m (gR m l0 0) (ix l2)) (ci := 7) (as := [.ref (gR m (gR m l1 0) (ix l2))]) (st := []) (id) cg_yX7_copyFrom (by decide) rfl rfl ml_RX5_57 iv_yX7_copyFrom pd_yX7_copyFrom rfl (by decide) (Nat.le_of_ble_eq_true rfl) rfl dX5_copyFrom_70 (T_X7_copyFrom l E _ _ _ _) rfl ?_
    exact t_X5_copyFrom_73 l E c0 s0 k50 hk50 _ _ _ _ _
def f_X5_copyFrom_50 : Nat → Nat → Nat → Int32 → Mm → Prop → Unit × Mm × Prop
  | 0, _, _, _, m, _ => ((), m, False)
  | n + 1, l0, l1, l2, m, o => f_X5_copyFrom_50b (f_X5_copyFrom_50 n) l0 l1 l2 m o
theorem t_X5_copyFrom_50 (l : Launch) (E : En) (c0 s0 : Nat) : ∀ (n : Nat) (l0 : Nat) (l1 : Nat) (l2 : Int32) (m : Mm) (o : Prop), Mh wU l E mi_X5_copyFrom c0 s0 50 [(0, .ref l0), (1, .ref l1), (2, .int l2)] [] m o (f_X5_copyFrom_50 n l0 l1 l2 m o)
  | 0, _, _, _, _, _ => Mh_out rfl
  | n + 1, l0, l1, l2, m, o => t_X5_copyFrom_50b l E c0 s0 (f_X5_copyFrom_50 n) (t_X5_copyFrom_50 l E c0 s0 n) l0 l1 l2 m o
def f_X5_copyFrom_48 (l0 : Nat) (l1 : Nat) (m : Mm) (o : Prop) : Unit × Mm × Prop := f_X5_copyFrom_50 1000 l0 l1 (0 : Int32) m o
set_option maxRecDepth 10000 in
theorem t_X5_copyFrom_48 (l : Launch) (E : En) (c0 s0 : Nat) (l0 : Nat) (l1 : Nat) (m : Mm) (o : Prop) : Mh wU l E mi_X5_copyFrom c0 s0 48 [(0, .ref l0), (1, .ref l1)] [] m o (f_X5_copyFrom_48 l0 l1 m o) := by
  refine Mh_iconst (v := 0) dX5_copyFrom_48 (by decide) ?_
  refine Mh_istore_n (lv' := [(2, .int (0 : Int32)), (0, .ref l0), (1, .ref l1)]) dX5_copyFrom_49 (Nat.le_of_ble_eq_true rfl) rfl ?_
  refine Mh_sub (lv' := [(0, .ref l0), (1, .ref l1), (2, .int (0 : Int32))]) [1, 2, 0] rfl ?_
  exact t_X5_copyFrom_50 l E c0 s0 _ _ _ _ _ _
def f_X5_copyFrom_40 (l0 : Nat) (l1 : Nat) (m : Mm) (o : Prop) : Unit × Mm × Prop := f_X5_copyFrom_48 l0 l1 (sI m l0 11 (gI m l1 11)) ((o ∧ gT m l1 = 6) ∧ gT m l0 = 6)
set_option maxRecDepth 10000 in
theorem t_X5_copyFrom_40 (l : Launch) (E : En) (c0 s0 : Nat) (l0 : Nat) (l1 : Nat) (m : Mm) (o : Prop) : Mh wU l E mi_X5_copyFrom c0 s0 40 [(0, .ref l0), (1, .ref l1)] [] m o (f_X5_copyFrom_40 l0 l1 m o) := by
  refine Mh_aload_n 0 rfl dX5_copyFrom_40 ?_
  refine Mh_aload_n 1 rfl dX5_copyFrom_41 ?_
  refine Mh_gI fd_5_11 fl_RX5_43 dX5_copyFrom_42 ?_
  refine Mh_pI fd_5_11 ft_5 rfl fl_RX5_43 rfl dX5_copyFrom_45 ?_
  exact t_X5_copyFrom_48 l E c0 s0 _ _ _ _
def f_X5_copyFrom_32 (l0 : Nat) (l1 : Nat) (m : Mm) (o : Prop) : Unit × Mm × Prop := f_X5_copyFrom_40 l0 l1 (sI m l0 10 (gI m l1 10)) ((o ∧ gT m l1 = 6) ∧ gT m l0 = 6)
set_option maxRecDepth 10000 in
theorem t_X5_copyFrom_32 (l : Launch) (E : En) (c0 s0 : Nat) (l0 : Nat) (l1 : Nat) (m : Mm) (o : Prop) : Mh wU l E mi_X5_copyFrom c0 s0 32 [(0, .ref l0), (1, .ref l1)] [] m o (f_X5_copyFrom_32 l0 l1 m o) := by
  refine Mh_aload_n 0 rfl dX5_copyFrom_32 ?_
  refine Mh_aload_n 1 rfl dX5_copyFrom_33 ?_
  refine Mh_gI fd_5_10 fl_RX5_54 dX5_copyFrom_34 ?_
  refine Mh_pI fd_5_10 ft_5 rfl fl_RX5_54 rfl dX5_copyFrom_37 ?_
  exact t_X5_copyFrom_40 l E c0 s0 _ _ _ _
def f_X5_copyFrom_24 (l0 : Nat) (l1 : Nat) (m : Mm) (o : Prop) : Unit × Mm × Prop := f_X5_copyFrom_32 l0 l1 (sI m l0 9 (gI m l1 9)) ((o ∧ gT m l1 = 6) ∧ gT m l0 = 6)
set_option maxRecDepth 10000 in
theorem t_X5_copyFrom_24 (l : Launch) (E : En) (c0 s0 : Nat) (l0 : Nat) (l1 : Nat) (m : Mm) (o : Prop) : Mh wU l E mi_X5_copyFrom c0 s0 24 [(0, .ref l0), (1, .ref l1)] [] m o (f_X5_copyFrom_24 l0 l1 m o) := by
  refine Mh_aload_n 0 rfl dX5_copyFrom_24 ?_
  refine Mh_aload_n 1 rfl dX5_copyFrom_25 ?_
  refine Mh_gI fd_5_9 fl_RX5_40 dX5_copyFrom_26 ?_
  refine Mh_pI fd_5_9 ft_5 rfl fl_RX5_40 rfl dX5_copyFrom_29 ?_
  exact t_X5_copyFrom_32 l E c0 s0 _ _ _ _
def f_X5_copyFrom_16 (l0 : Nat) (l1 : Nat) (m : Mm) (o : Prop) : Unit × Mm × Prop := f_X5_copyFrom_24 l0 l1 (sI m l0 8 (gI m l1 8)) ((o ∧ gT m l1 = 6) ∧ gT m l0 = 6)
set_option maxRecDepth 10000 in
theorem t_X5_copyFrom_16 (l : Launch) (E : En) (c0 s0 : Nat) (l0 : Nat) (l1 : Nat) (m : Mm) (o : Prop) : Mh wU l E mi_X5_copyFrom c0 s0 16 [(0, .ref l0), (1, .ref l1)] [] m o (f_X5_copyFrom_16 l0 l1 m o) := by
  refine Mh_aload_n 0 rfl dX5_copyFrom_16 ?_
  refine Mh_aload_n 1 rfl dX5_copyFrom_17 ?_
  refine Mh_gI fd_5_8 fl_RX5_36 dX5_copyFrom_18 ?_
  refine Mh_pI fd_5_8 ft_5 rfl fl_RX5_36 rfl dX5_copyFrom_21 ?_
  exact t_X5_copyFrom_24 l E c0 s0 _ _ _ _
def f_X5_copyFrom_8 (l0 : Nat) (l1 : Nat) (m : Mm) (o : Prop) : Unit × Mm × Prop := f_X5_copyFrom_16 l0 l1 (sI m l0 7 (gI m l1 7)) ((o ∧ gT m l1 = 6) ∧ gT m l0 = 6)
set_option maxRecDepth 10000 in
theorem t_X5_copyFrom_8 (l : Launch) (E : En) (c0 s0 : Nat) (l0 : Nat) (l1 : Nat) (m : Mm) (o : Prop) : Mh wU l E mi_X5_copyFrom c0 s0 8 [(0, .ref l0), (1, .ref l1)] [] m o (f_X5_copyFrom_8 l0 l1 m o) := by
  refine Mh_aload_n 0 rfl dX5_copyFrom_8 ?_
  refine Mh_aload_n 1 rfl dX5_copyFrom_9 ?_
  refine Mh_gI fd_5_7 fl_RX5_51 dX5_copyFrom_10 ?_
  refine Mh_pI fd_5_7 ft_5 rfl fl_RX5_51 rfl dX5_copyFrom_13 ?_
  exact t_X5_copyFrom_16 l E c0 s0 _ _ _ _
def f_X5_copyFrom_0 (l0 : Nat) (l1 : Nat) (m : Mm) (o : Prop) : Unit × Mm × Prop := f_X5_copyFrom_8 l0 l1 (sI m l0 6 (gI m l1 6)) ((o ∧ gT m l1 = 6) ∧ gT m l0 = 6)
set_option maxRecDepth 10000 in
theorem t_X5_copyFrom_0 (l : Launch) (E : En) (c0 s0 : Nat) (l0 : Nat) (l1 : Nat) (m : Mm) (o : Prop) : Mh wU l E mi_X5_copyFrom c0 s0 0 [(0, .ref l0), (1, .ref l1)] [] m o (f_X5_copyFrom_0 l0 l1 m o) := by
  refine Mh_aload_n 0 rfl dX5_copyFrom_0 ?_
  refine Mh_aload_n 1 rfl dX5_copyFrom_1 ?_
  refine Mh_gI fd_5_6 fl_RX5_48 dX5_copyFrom_2 ?_
  refine Mh_pI fd_5_6 ft_5 rfl fl_RX5_48 rfl dX5_copyFrom_5 ?_
  exact t_X5_copyFrom_8 l E c0 s0 _ _ _ _
def F_X5_copyFrom (a0 : Nat) (a1 : Nat) (m : Mm) (o : Prop) : Unit × Mm × Prop := f_X5_copyFrom_0 a0 a1 m o
theorem T_X5_copyFrom (l : Launch) (E : En) (a0 : Nat) (a1 : Nat) (m : Mm) (o : Prop) : Mt wU l E yX5_copyFrom mi_X5_copyFrom [.ref a0, .ref a1] m o (F_X5_copyFrom a0 a1 m o) :=
  Mt_U (by decide) rfl (fun h => by cases h) rfl (Nat.le_of_ble_eq_true rfl) rfl (t_X5_copyFrom_0 l E _ _ _ _ _ _)
def f_X5_startRun_19 (k7 : Nat → Int32 → Mm → Prop → Unit × Mm × Prop) (l0 : Nat) (l2 : Int32) (m : Mm) (o : Prop) : Unit × Mm × Prop := k7 l0 (l2 + 1) m o
set_option maxRecDepth 10000 in
theorem t_X5_startRun_19 (l : Launch) (E : En) (c0 s0 : Nat) (k7 : Nat → Int32 → Mm → Prop → Unit × Mm × Prop) (hk7 : ∀ (l0 : Nat) (l2 : Int32) (m : Mm) (o : Prop), Mh wU l E mi_X5_startRun c0 s0 7 [(0, .ref l0), (2, .int l2)] [] m o (k7 l0 l2 m o)) (l0 : Nat) (l2 : Int32) (m : Mm) (o : Prop) : Mh wU l E mi_X5_startRun c0 s0 19 [(0, .ref l0), (2, .int l2)] [] m o (f_X5_startRun_19 k7 l0 l2 m o) := by
  refine Mh_iinc (v := l2 + 1) (lv' := [(2, .int (l2 + 1)), (0, .ref l0)]) 1 dX5_startRun_19 rfl rfl (Nat.le_of_ble_eq_true rfl) rfl ?_
  refine Mh_goto (tgt := 7) dX5_startRun_22 (by decide) ?_
  refine Mh_sub (lv' := [(0, .ref l0), (2, .int (l2 + 1))]) [1, 0] rfl ?_
  exact hk7 _ _ _ _
def f_X5_startRun_7b (k7 : Nat → Int32 → Mm → Prop → Unit × Mm × Prop) (l0 : Nat) (l2 : Int32) (m : Mm) (o : Prop) : Unit × Mm × Prop := if (5 : Int32) ≤ l2 then ((), m, o) else (f_X5_startRun_19 k7 l0 l2 (sI m (gR m l0 2) (ix l2) (0 : Int32)) ((o ∧ (gT m l0 = 6 ∧ gR m l0 2 ≠ 0)) ∧ (gT m (gR m l0 2) = 20 ∧ vp_in l2 (gN m (gR m l0 2)))))
set_option maxRecDepth 10000 in
theorem t_X5_startRun_7b (l : Launch) (E : En) (c0 s0 : Nat) (k7 : Nat → Int32 → Mm → Prop → Unit × Mm × Prop) (hk7 : ∀ (l0 : Nat) (l2 : Int32) (m : Mm) (o : Prop), Mh wU l E mi_X5_startRun c0 s0 7 [(0, .ref l0), (2, .int l2)] [] m o (k7 l0 l2 m o)) (l0 : Nat) (l2 : Int32) (m : Mm) (o : Prop) : Mh wU l E mi_X5_startRun c0 s0 7 [(0, .ref l0), (2, .int l2)] [] m o (f_X5_startRun_7b k7 l0 l2 m o) := by
  refine Mh_iload_n 1 rfl dX5_startRun_7 ?_
  refine Mh_iconst (v := 5) dX5_startRun_8 (by decide) ?_
  refine Mh_icmp_ge (tgt := 25) dX5_startRun_9 (by decide) rfl (fun _ => ?_) (fun _ => ?_)
  · exact Mh_ret dX5_startRun_25 rfl (fun _ => trivial) rfl
  · refine Mh_aload_n 0 rfl dX5_startRun_12 ?_
    refine Mh_gR fd_5_2 fl_RX5_23 dX5_startRun_13 ?_
    refine Mh_iload_n 1 rfl dX5_startRun_16 ?_
    refine Mh_iconst (v := 0) dX5_startRun_17 (by decide) ?_
    refine Mh_ias dX5_startRun_18 ?_
    exact t_X5_startRun_19 l E c0 s0 k7 hk7 _ _ _ _
def f_X5_startRun_7 : Nat → Nat → Int32 → Mm → Prop → Unit × Mm × Prop
  | 0, _, _, m, _ => ((), m, False)
  | n + 1, l0, l2, m, o => f_X5_startRun_7b (f_X5_startRun_7 n) l0 l2 m o
theorem t_X5_startRun_7 (l : Launch) (E : En) (c0 s0 : Nat) : ∀ (n : Nat) (l0 : Nat) (l2 : Int32) (m : Mm) (o : Prop), Mh wU l E mi_X5_startRun c0 s0 7 [(0, .ref l0), (2, .int l2)] [] m o (f_X5_startRun_7 n l0 l2 m o)
  | 0, _, _, _, _ => Mh_out rfl
  | n + 1, l0, l2, m, o => t_X5_startRun_7b l E c0 s0 (f_X5_startRun_7 n) (t_X5_startRun_7 l E c0 s0 n) l0 l2 m o
def f_X5_startRun_5 (l0 : Nat) (m : Mm) (o : Prop) : Unit × Mm × Prop := f_X5_startRun_7 1000 l0 (0 : Int32) m o
set_option maxRecDepth 10000 in
theorem t_X5_startRun_5 (l : Launch) (E : En) (c0 s0 : Nat) (l0 : Nat) (m : Mm) (o : Prop) : Mh wU l E mi_X5_startRun c0 s0 5 [(0, .ref l0)] [] m o (f_X5_startRun_5 l0 m o) := by
  refine Mh_iconst (v := 0) dX5_startRun_5 (by decide) ?_
  refine Mh_istore_n (lv' := [(2, .int (0 : Int32)), (0, .ref l0)]) dX5_startRun_6 (Nat.le_of_ble_eq_true rfl) rfl ?_
  refine Mh_sub (lv' := [(0, .ref l0), (2, .int (0 : Int32))]) [1, 0] rfl ?_
  exact t_X5_startRun_7 l E c0 s0 _ _ _ _ _
def f_X5_startRun_0 (l0 : Nat) (l1 : Nat) (m : Mm) (o : Prop) : Unit × Mm × Prop := bnd (F_X5_copyFrom l0 l1 m (o ∧ gT m l0 = 6)) (fun _ m1 o1 => f_X5_startRun_5 l0 m1 o1)
set_option maxRecDepth 10000 in
theorem t_X5_startRun_0 (l : Launch) (E : En) (c0 s0 : Nat) (l0 : Nat) (l1 : Nat) (m : Mm) (o : Prop) : Mh wU l E mi_X5_startRun c0 s0 0 [(0, .ref l0), (1, .ref l1)] [] m o (f_X5_startRun_0 l0 l1 m o) := by
  refine Mh_aload_n 0 rfl dX5_startRun_0 ?_
  refine Mh_aload_n 1 rfl dX5_startRun_1 ?_
  refine Mh_cvU (N := mi_X5_copyFrom) (q := l0) (ci := 5) (as := [.ref l1]) (st := []) (id) cg_yX5_copyFrom (by decide) rfl rfl ml_RX5_64 iv_yX5_copyFrom pd_yX5_copyFrom rfl (by decide) (Nat.le_of_ble_eq_true rfl) rfl dX5_startRun_2 (T_X5_copyFrom l E _ _ _ _) rfl ?_
  refine Mh_sub (lv' := [(0, .ref l0)]) [0] rfl ?_
  exact t_X5_startRun_5 l E c0 s0 _ _ _
def F_X5_startRun (a0 : Nat) (a1 : Nat) (m : Mm) (o : Prop) : Unit × Mm × Prop := f_X5_startRun_0 a0 a1 m o
theorem T_X5_startRun (l : Launch) (E : En) (a0 : Nat) (a1 : Nat) (m : Mm) (o : Prop) : Mt wU l E yX5_startRun mi_X5_startRun [.ref a0, .ref a1] m o (F_X5_startRun a0 a1 m o) :=
  Mt_U (by decide) rfl (fun h => by cases h) rfl (Nat.le_of_ble_eq_true rfl) rfl (t_X5_startRun_0 l E _ _ _ _ _ _)
def f_X5_winner_50 (k6 : Nat → Int32 → Int32 → Int32 → Mm → Prop → Int32 × Mm × Prop) (l0 : Nat) (l1 : Int32) (l2 : Int32) (l3 : Int32) (m : Mm) (o : Prop) : Int32 × Mm × Prop := k6 l0 l1 l2 (l3 + 1) m o
set_option maxRecDepth 10000 in
theorem t_X5_winner_50 (l : Launch) (E : En) (c0 s0 : Nat) (k6 : Nat → Int32 → Int32 → Int32 → Mm → Prop → Int32 × Mm × Prop) (hk6 : ∀ (l0 : Nat) (l1 : Int32) (l2 : Int32) (l3 : Int32) (m : Mm) (o : Prop), Mh wI l E mi_X5_winner c0 s0 6 [(0, .ref l0), (1, .int l1), (2, .int l2), (3, .int l3)] [] m o (k6 l0 l1 l2 l3 m o)) (l0 : Nat) (l1 : Int32) (l2 : Int32) (l3 : Int32) (m : Mm) (o : Prop) : Mh wI l E mi_X5_winner c0 s0 50 [(0, .ref l0), (1, .int l1), (2, .int l2), (3, .int l3)] [] m o (f_X5_winner_50 k6 l0 l1 l2 l3 m o) := by
  refine Mh_iinc (v := l3 + 1) (lv' := [(3, .int (l3 + 1)), (0, .ref l0), (1, .int l1), (2, .int l2)]) 3 dX5_winner_50 rfl rfl (Nat.le_of_ble_eq_true rfl) rfl ?_
  refine Mh_goto (tgt := 6) dX5_winner_53 (by decide) ?_
  refine Mh_sub (lv' := [(0, .ref l0), (1, .int l1), (2, .int l2), (3, .int (l3 + 1))]) [1, 2, 3, 0] rfl ?_
  exact hk6 _ _ _ _ _ _
def f_X5_winner_66 (y0 : Int32) (m : Mm) (o : Prop) : Int32 × Mm × Prop := (y0, m, o)
set_option maxRecDepth 10000 in
theorem t_X5_winner_66 (l : Launch) (E : En) (c0 s0 : Nat) (y0 : Int32) (m : Mm) (o : Prop) : Mh wI l E mi_X5_winner c0 s0 66 [] [.int y0] m o (f_X5_winner_66 y0 m o) := by
  exact Mh_ret dX5_winner_66 rfl (fun _ => rfl) rfl
def f_X5_winner_6b (k6 : Nat → Int32 → Int32 → Int32 → Mm → Prop → Int32 × Mm × Prop) (l0 : Nat) (l1 : Int32) (l2 : Int32) (l3 : Int32) (m : Mm) (o : Prop) : Int32 × Mm × Prop := if (5 : Int32) ≤ l3 then (if l2 = 0 then (f_X5_winner_66 (-2 : Int32) m o) else (f_X5_winner_66 l1 m o)) else (if (gI m (gR m l0 2) (ix l3)) ≤ (gI m (gR m l0 2) (ix l1)) then (if (gI m (gR m l0 2) (ix l3)) = (gI m (gR m l0 2) (ix l1)) then (f_X5_winner_50 k6 l0 l1 (0 : Int32) l3 m (((o ∧ (gT m l0 = 6 ∧ gR m l0 2 ≠ 0)) ∧ (gT m (gR m l0 2) = 20 ∧ vp_in l3 (gN m (gR m l0 2)))) ∧ (gT m (gR m l0 2) = 20 ∧ vp_in l1 (gN m (gR m l0 2))))) else (f_X5_winner_50 k6 l0 l1 l2 l3 m (((o ∧ (gT m l0 = 6 ∧ gR m l0 2 ≠ 0)) ∧ (gT m (gR m l0 2) = 20 ∧ vp_in l3 (gN m (gR m l0 2)))) ∧ (gT m (gR m l0 2) = 20 ∧ vp_in l1 (gN m (gR m l0 2)))))) else (f_X5_winner_50 k6 l0 l3 (1 : Int32) l3 m (((o ∧ (gT m l0 = 6 ∧ gR m l0 2 ≠ 0)) ∧ (gT m (gR m l0 2) = 20 ∧ vp_in l3 (gN m (gR m l0 2)))) ∧ (gT m (gR m l0 2) = 20 ∧ vp_in l1 (gN m (gR m l0 2))))))
set_option maxRecDepth 10000 in
theorem t_X5_winner_6b (l : Launch) (E : En) (c0 s0 : Nat) (k6 : Nat → Int32 → Int32 → Int32 → Mm → Prop → Int32 × Mm × Prop) (hk6 : ∀ (l0 : Nat) (l1 : Int32) (l2 : Int32) (l3 : Int32) (m : Mm) (o : Prop), Mh wI l E mi_X5_winner c0 s0 6 [(0, .ref l0), (1, .int l1), (2, .int l2), (3, .int l3)] [] m o (k6 l0 l1 l2 l3 m o)) (l0 : Nat) (l1 : Int32) (l2 : Int32) (l3 : Int32) (m : Mm) (o : Prop) : Mh wI l E mi_X5_winner c0 s0 6 [(0, .ref l0), (1, .int l1), (2, .int l2), (3, .int l3)] [] m o (f_X5_winner_6b k6 l0 l1 l2 l3 m o) := by
  refine Mh_iload_n 3 rfl dX5_winner_6 ?_
  refine Mh_iconst (v := 5) dX5_winner_7 (by decide) ?_
  refine Mh_icmp_ge (tgt := 56) dX5_winner_8 (by decide) rfl (fun _ => ?_) (fun _ => ?_)
  · refine Mh_iload_n 2 rfl dX5_winner_56 ?_
    refine Mh_if_eq (tgt := 64) dX5_winner_57 (by decide) rfl (fun _ => ?_) (fun _ => ?_)
    · refine Mh_bipush (v := (-2)) dX5_winner_64 (by decide) ?_
      refine Mh_sub (lv' := []) [] rfl ?_
      exact t_X5_winner_66 l E c0 s0 _ _ _
    · refine Mh_iload_n 1 rfl dX5_winner_60 ?_
      refine Mh_goto (tgt := 66) dX5_winner_61 (by decide) ?_
      refine Mh_sub (lv' := []) [] rfl ?_
      exact t_X5_winner_66 l E c0 s0 _ _ _
  · refine Mh_aload_n 0 rfl dX5_winner_11 ?_
    refine Mh_gR fd_5_2 fl_RX5_23 dX5_winner_12 ?_
    refine Mh_iload_n 3 rfl dX5_winner_15 ?_
    refine Mh_ial dX5_winner_16 ?_
    refine Mh_aload_n 0 rfl dX5_winner_17 ?_
    refine Mh_gR fd_5_2 fl_RX5_23 dX5_winner_18 ?_
    refine Mh_ok (fun h => h.1.2) ?_
    refine Mh_iload_n 1 rfl dX5_winner_21 ?_
    refine Mh_ial dX5_winner_22 ?_
    refine Mh_icmp_le (tgt := 33) dX5_winner_23 (by decide) rfl (fun _ => ?_) (fun _ => ?_)
    · refine Mh_aload_n 0 rfl dX5_winner_33 ?_
      refine Mh_gR fd_5_2 fl_RX5_23 dX5_winner_34 ?_
      refine Mh_ok (fun h => h.1.1.2) ?_
      refine Mh_iload_n 3 rfl dX5_winner_37 ?_
      refine Mh_ial dX5_winner_38 ?_
      refine Mh_ok (fun h => h.1.2) ?_
      refine Mh_aload_n 0 rfl dX5_winner_39 ?_
      refine Mh_gR fd_5_2 fl_RX5_23 dX5_winner_40 ?_
      refine Mh_ok (fun h => h.1.1.2) ?_
      refine Mh_iload_n 1 rfl dX5_winner_43 ?_
      refine Mh_ial dX5_winner_44 ?_
      refine Mh_ok (fun h => h.2) ?_
      refine Mh_icmp_ne (tgt := 50) dX5_winner_45 (by decide) rfl (fun _ => ?_) (fun _ => ?_)
      · exact t_X5_winner_50 l E c0 s0 k6 hk6 _ _ _ _ _ _
      · refine Mh_iconst (v := 0) dX5_winner_48 (by decide) ?_
        refine Mh_istore_n (lv' := [(2, .int (0 : Int32)), (0, .ref l0), (1, .int l1), (3, .int l3)]) dX5_winner_49 (Nat.le_of_ble_eq_true rfl) rfl ?_
        refine Mh_sub (lv' := [(0, .ref l0), (1, .int l1), (2, .int (0 : Int32)), (3, .int l3)]) [1, 2, 0, 3] rfl ?_
        exact t_X5_winner_50 l E c0 s0 k6 hk6 _ _ _ _ _ _
    · refine Mh_iload_n 3 rfl dX5_winner_26 ?_
      refine Mh_istore_n (lv' := [(1, .int l3), (0, .ref l0), (2, .int l2), (3, .int l3)]) dX5_winner_27 (Nat.le_of_ble_eq_true rfl) rfl ?_
      refine Mh_iconst (v := 1) dX5_winner_28 (by decide) ?_
      refine Mh_istore_n (lv' := [(2, .int (1 : Int32)), (1, .int l3), (0, .ref l0), (3, .int l3)]) dX5_winner_29 (Nat.le_of_ble_eq_true rfl) rfl ?_
      refine Mh_goto (tgt := 50) dX5_winner_30 (by decide) ?_
      refine Mh_sub (lv' := [(0, .ref l0), (1, .int l3), (2, .int (1 : Int32)), (3, .int l3)]) [2, 1, 0, 3] rfl ?_
      exact t_X5_winner_50 l E c0 s0 k6 hk6 _ _ _ _ _ _
def f_X5_winner_6 : Nat → Nat → Int32 → Int32 → Int32 → Mm → Prop → Int32 × Mm × Prop
  | 0, _, _, _, _, m, _ => (0, m, False)
  | n + 1, l0, l1, l2, l3, m, o => f_X5_winner_6b (f_X5_winner_6 n) l0 l1 l2 l3 m o
theorem t_X5_winner_6 (l : Launch) (E : En) (c0 s0 : Nat) : ∀ (n : Nat) (l0 : Nat) (l1 : Int32) (l2 : Int32) (l3 : Int32) (m : Mm) (o : Prop), Mh wI l E mi_X5_winner c0 s0 6 [(0, .ref l0), (1, .int l1), (2, .int l2), (3, .int l3)] [] m o (f_X5_winner_6 n l0 l1 l2 l3 m o)
  | 0, _, _, _, _, _, _ => Mh_out rfl
  | n + 1, l0, l1, l2, l3, m, o => t_X5_winner_6b l E c0 s0 (f_X5_winner_6 n) (t_X5_winner_6 l E c0 s0 n) l0 l1 l2 l3 m o
def f_X5_winner_0 (l0 : Nat) (m : Mm) (o : Prop) : Int32 × Mm × Prop := f_X5_winner_6 1000 l0 (0 : Int32) (1 : Int32) (1 : Int32) m o
set_option maxRecDepth 10000 in
theorem t_X5_winner_0 (l : Launch) (E : En) (c0 s0 : Nat) (l0 : Nat) (m : Mm) (o : Prop) : Mh wI l E mi_X5_winner c0 s0 0 [(0, .ref l0)] [] m o (f_X5_winner_0 l0 m o) := by
  refine Mh_iconst (v := 0) dX5_winner_0 (by decide) ?_
  refine Mh_istore_n (lv' := [(1, .int (0 : Int32)), (0, .ref l0)]) dX5_winner_1 (Nat.le_of_ble_eq_true rfl) rfl ?_
  refine Mh_iconst (v := 1) dX5_winner_2 (by decide) ?_
  refine Mh_istore_n (lv' := [(2, .int (1 : Int32)), (1, .int (0 : Int32)), (0, .ref l0)]) dX5_winner_3 (Nat.le_of_ble_eq_true rfl) rfl ?_
  refine Mh_iconst (v := 1) dX5_winner_4 (by decide) ?_
  refine Mh_istore_n (lv' := [(3, .int (1 : Int32)), (2, .int (1 : Int32)), (1, .int (0 : Int32)), (0, .ref l0)]) dX5_winner_5 (Nat.le_of_ble_eq_true rfl) rfl ?_
  refine Mh_sub (lv' := [(0, .ref l0), (1, .int (0 : Int32)), (2, .int (1 : Int32)), (3, .int (1 : Int32))]) [3, 2, 1, 0] rfl ?_
  exact t_X5_winner_6 l E c0 s0 _ _ _ _ _ _ _
def F_X5_winner (a0 : Nat) (m : Mm) (o : Prop) : Int32 × Mm × Prop := f_X5_winner_0 a0 m o
theorem T_X5_winner (l : Launch) (E : En) (a0 : Nat) (m : Mm) (o : Prop) : Mt wI l E yX5_winner mi_X5_winner [.ref a0] m o (F_X5_winner a0 m o) :=
  Mt_I (by decide) rfl rfl rfl (Nat.le_of_ble_eq_true rfl) rfl (.inl rfl) (t_X5_winner_0 l E _ _ _ _ _)
def f_X0_wins_34 (k19 : Nat → Nat → Int32 → Int32 → Int32 → Mm → Prop → Int32 × Mm × Prop) (l0 : Nat) (l2 : Nat) (l3 : Int32) (l4 : Int32) (l5 : Int32) (y0 : Int32) (m : Mm) (o : Prop) : Int32 × Mm × Prop := k19 l0 l2 l3 l4 (l5 + 1) m o
set_option maxRecDepth 10000 in
theorem t_X0_wins_34 (l : Launch) (E : En) (c0 s0 : Nat) (k19 : Nat → Nat → Int32 → Int32 → Int32 → Mm → Prop → Int32 × Mm × Prop) (hk19 : ∀ (l0 : Nat) (l2 : Nat) (l3 : Int32) (l4 : Int32) (l5 : Int32) (m : Mm) (o : Prop), Mh wI l E mi_X0_wins c0 s0 19 [(0, .ref l0), (2, .ref l2), (3, .int l3), (4, .int l4), (5, .int l5)] [] m o (k19 l0 l2 l3 l4 l5 m o)) (l0 : Nat) (l2 : Nat) (l3 : Int32) (l4 : Int32) (l5 : Int32) (y0 : Int32) (m : Mm) (o : Prop) : Mh wI l E mi_X0_wins c0 s0 34 [(0, .ref l0), (2, .ref l2), (3, .int l3), (4, .int l4), (5, .int l5)] [.int y0] m o (f_X0_wins_34 k19 l0 l2 l3 l4 l5 y0 m o) := by
  refine Mh_pop dX0_wins_34 rfl ?_
  refine Mh_iinc (v := l5 + 1) (lv' := [(5, .int (l5 + 1)), (0, .ref l0), (2, .ref l2), (3, .int l3), (4, .int l4)]) 4 dX0_wins_35 rfl rfl (Nat.le_of_ble_eq_true rfl) rfl ?_
  refine Mh_goto (tgt := 19) dX0_wins_38 (by decide) ?_
  refine Mh_sub (lv' := [(0, .ref l0), (2, .ref l2), (3, .int l3), (4, .int l4), (5, .int (l5 + 1))]) [1, 2, 3, 4, 0] rfl ?_
  exact hk19 _ _ _ _ _ _ _
def f_X0_wins_57 (y0 : Int32) (m : Mm) (o : Prop) : Int32 × Mm × Prop := (y0, m, o ∧ (y0 = 0 ∨ y0 = 1))
set_option maxRecDepth 10000 in
theorem t_X0_wins_57 (l : Launch) (E : En) (c0 s0 : Nat) (y0 : Int32) (m : Mm) (o : Prop) : Mh wI l E mi_X0_wins c0 s0 57 [] [.int y0] m o (f_X0_wins_57 y0 m o) := by
  exact Mh_retZ dX0_wins_57 (.inl rfl) rfl
def f_X0_wins_48 (l3 : Int32) (y0 : Int32) (m : Mm) (o : Prop) : Int32 × Mm × Prop := if y0 = l3 then (f_X0_wins_57 (1 : Int32) m o) else (f_X0_wins_57 (0 : Int32) m o)
set_option maxRecDepth 10000 in
theorem t_X0_wins_48 (l : Launch) (E : En) (c0 s0 : Nat) (l3 : Int32) (y0 : Int32) (m : Mm) (o : Prop) : Mh wI l E mi_X0_wins c0 s0 48 [(3, .int l3)] [.int y0] m o (f_X0_wins_48 l3 y0 m o) := by
  refine Mh_iload_n 0 rfl dX0_wins_48 ?_
  refine Mh_icmp_ne (tgt := 56) dX0_wins_49 (by decide) rfl (fun _ => ?_) (fun _ => ?_)
  · refine Mh_iconst (v := 0) dX0_wins_56 (by decide) ?_
    refine Mh_sub (lv' := []) [] rfl ?_
    exact t_X0_wins_57 l E c0 s0 _ _ _
  · refine Mh_iconst (v := 1) dX0_wins_52 (by decide) ?_
    refine Mh_goto (tgt := 57) dX0_wins_53 (by decide) ?_
    refine Mh_sub (lv' := []) [] rfl ?_
    exact t_X0_wins_57 l E c0 s0 _ _ _
def f_X0_wins_19b (k19 : Nat → Nat → Int32 → Int32 → Int32 → Mm → Prop → Int32 × Mm × Prop) (l0 : Nat) (l2 : Nat) (l3 : Int32) (l4 : Int32) (l5 : Int32) (m : Mm) (o : Prop) : Int32 × Mm × Prop := if l4 ≤ l5 then (bnd (F_X5_winner (gR m l0 2) m ((o ∧ (gT m l0 = 1 ∧ gR m l0 2 ≠ 0)) ∧ gT m (gR m l0 2) = 6)) (fun v1 m1 o1 => f_X0_wins_48 l3 v1 m1 o1)) else (bnd (F_X5_passDay (gR m l0 2) l2 m ((o ∧ (gT m l0 = 1 ∧ gR m l0 2 ≠ 0)) ∧ gT m (gR m l0 2) = 6)) (fun v1 m1 o1 => f_X0_wins_34 k19 l0 l2 l3 l4 l5 v1 m1 o1))
set_option maxRecDepth 10000 in
theorem t_X0_wins_19b (l : Launch) (E : En) (c0 s0 : Nat) (k19 : Nat → Nat → Int32 → Int32 → Int32 → Mm → Prop → Int32 × Mm × Prop) (hk19 : ∀ (l0 : Nat) (l2 : Nat) (l3 : Int32) (l4 : Int32) (l5 : Int32) (m : Mm) (o : Prop), Mh wI l E mi_X0_wins c0 s0 19 [(0, .ref l0), (2, .ref l2), (3, .int l3), (4, .int l4), (5, .int l5)] [] m o (k19 l0 l2 l3 l4 l5 m o)) (l0 : Nat) (l2 : Nat) (l3 : Int32) (l4 : Int32) (l5 : Int32) (m : Mm) (o : Prop) : Mh wI l E mi_X0_wins c0 s0 19 [(0, .ref l0), (2, .ref l2), (3, .int l3), (4, .int l4), (5, .int l5)] [] m o (f_X0_wins_19b k19 l0 l2 l3 l4 l5 m o) := by
  refine Mh_iload 4 rfl dX0_wins_19 ?_
  refine Mh_iload 3 rfl dX0_wins_21 ?_
  refine Mh_icmp_ge (tgt := 41) dX0_wins_23 (by decide) rfl (fun _ => ?_) (fun _ => ?_)
  · refine Mh_aload_n 0 rfl dX0_wins_41 ?_
    refine Mh_gR fd_0_2 fl_RX0_18 dX0_wins_42 ?_
    refine Mh_cvI (N := mi_X5_winner) (q := gR m l0 2) (ci := 5) (as := []) (st := []) (id) cg_yX5_winner (by decide) rfl rfl ml_RX0_66 iv_yX5_winner pd_yX5_winner rfl (by decide) (Nat.le_of_ble_eq_true rfl) rfl dX0_wins_45 (T_X5_winner l E _ _ _) rfl ?_
    refine Mh_sub (lv' := [(3, .int l3)]) [2] rfl ?_
    exact t_X0_wins_48 l E c0 s0 _ _ _ _
  · refine Mh_aload_n 0 rfl dX0_wins_26 ?_
    refine Mh_gR fd_0_2 fl_RX0_18 dX0_wins_27 ?_
    refine Mh_aload_n 1 rfl dX0_wins_30 ?_
    refine Mh_cvI (N := mi_X5_passDay) (q := gR m l0 2) (ci := 5) (as := [.ref l2]) (st := []) (id) cg_yX5_passDay (by decide) rfl rfl ml_RX0_62 iv_yX5_passDay pd_yX5_passDay rfl (by decide) (Nat.le_of_ble_eq_true rfl) rfl dX0_wins_31 (T_X5_passDay l E _ _ _ _) rfl ?_
    exact t_X0_wins_34 l E c0 s0 k19 hk19 _ _ _ _ _ _ _ _
def f_X0_wins_19 : Nat → Nat → Nat → Int32 → Int32 → Int32 → Mm → Prop → Int32 × Mm × Prop
  | 0, _, _, _, _, _, m, _ => (0, m, False)
  | n + 1, l0, l2, l3, l4, l5, m, o => f_X0_wins_19b (f_X0_wins_19 n) l0 l2 l3 l4 l5 m o
theorem t_X0_wins_19 (l : Launch) (E : En) (c0 s0 : Nat) : ∀ (n : Nat) (l0 : Nat) (l2 : Nat) (l3 : Int32) (l4 : Int32) (l5 : Int32) (m : Mm) (o : Prop), Mh wI l E mi_X0_wins c0 s0 19 [(0, .ref l0), (2, .ref l2), (3, .int l3), (4, .int l4), (5, .int l5)] [] m o (f_X0_wins_19 n l0 l2 l3 l4 l5 m o)
  | 0, _, _, _, _, _, _, _ => Mh_out rfl
  | n + 1, l0, l2, l3, l4, l5, m, o => t_X0_wins_19b l E c0 s0 (f_X0_wins_19 n) (t_X0_wins_19 l E c0 s0 n) l0 l2 l3 l4 l5 m o
def f_X0_wins_16 (l0 : Nat) (l2 : Nat) (l3 : Int32) (l4 : Int32) (m : Mm) (o : Prop) : Int32 × Mm × Prop := f_X0_wins_19 1000 l0 l2 l3 l4 (0 : Int32) m o
set_option maxRecDepth 10000 in
theorem t_X0_wins_16 (l : Launch) (E : En) (c0 s0 : Nat) (l0 : Nat) (l2 : Nat) (l3 : Int32) (l4 : Int32) (m : Mm) (o : Prop) : Mh wI l E mi_X0_wins c0 s0 16 [(0, .ref l0), (2, .ref l2), (3, .int l3), (4, .int l4)] [] m o (f_X0_wins_16 l0 l2 l3 l4 m o) := by
  refine Mh_iconst (v := 0) dX0_wins_16 (by decide) ?_
  refine Mh_istore (lv' := [(5, .int (0 : Int32)), (0, .ref l0), (2, .ref l2), (3, .int l3), (4, .int l4)]) dX0_wins_17 (Nat.le_of_ble_eq_true rfl) rfl ?_
  refine Mh_sub (lv' := [(0, .ref l0), (2, .ref l2), (3, .int l3), (4, .int l4), (5, .int (0 : Int32))]) [1, 2, 3, 4, 0] rfl ?_
  exact t_X0_wins_19 l E c0 s0 _ _ _ _ _ _ _ _
def f_X0_wins_8 (l0 : Nat) (l2 : Nat) (l3 : Int32) (l4 : Int32) (m : Mm) (o : Prop) : Int32 × Mm × Prop := bnd (F_X0_spreadOn l0 (gR m l0 2) m ((o ∧ (gT m l0 = 1 ∧ gR m l0 2 ≠ 0)) ∧ gT m l0 = 1)) (fun _ m1 o1 => f_X0_wins_16 l0 l2 l3 l4 m1 o1)
set_option maxRecDepth 10000 in
theorem t_X0_wins_8 (l : Launch) (E : En) (c0 s0 : Nat) (l0 : Nat) (l2 : Nat) (l3 : Int32) (l4 : Int32) (m : Mm) (o : Prop) : Mh wI l E mi_X0_wins c0 s0 8 [(0, .ref l0), (2, .ref l2), (3, .int l3), (4, .int l4)] [] m o (f_X0_wins_8 l0 l2 l3 l4 m o) := by
  refine Mh_aload_n 0 rfl dX0_wins_8 ?_
  refine Mh_aload_n 0 rfl dX0_wins_9 ?_
  refine Mh_gR fd_0_2 fl_RX0_18 dX0_wins_10 ?_
  refine Mh_cvU (N := mi_X0_spreadOn) (q := l0) (ci := 0) (as := [.ref (gR m l0 2)]) (st := []) (id) cg_yX0_spreadOn (by decide) rfl rfl ml_RX0_59 iv_yX0_spreadOn pd_yX0_spreadOn rfl (by decide) (Nat.le_of_ble_eq_true rfl) rfl dX0_wins_13 (T_X0_spreadOn l E _ _ _ _) rfl ?_
  exact t_X0_wins_16 l E c0 s0 _ _ _ _ _ _
def f_X0_wins_0 (l0 : Nat) (l1 : Nat) (l2 : Nat) (l3 : Int32) (l4 : Int32) (m : Mm) (o : Prop) : Int32 × Mm × Prop := bnd (F_X5_startRun (gR m l0 2) l1 m ((o ∧ (gT m l0 = 1 ∧ gR m l0 2 ≠ 0)) ∧ gT m (gR m l0 2) = 6)) (fun _ m1 o1 => f_X0_wins_8 l0 l2 l3 l4 m1 o1)
set_option maxRecDepth 10000 in
theorem t_X0_wins_0 (l : Launch) (E : En) (c0 s0 : Nat) (l0 : Nat) (l1 : Nat) (l2 : Nat) (l3 : Int32) (l4 : Int32) (m : Mm) (o : Prop) : Mh wI l E mi_X0_wins c0 s0 0 [(0, .ref l0), (1, .ref l1), (2, .ref l2), (3, .int l3), (4, .int l4)] [] m o (f_X0_wins_0 l0 l1 l2 l3 l4 m o) := by
  refine Mh_aload_n 0 rfl dX0_wins_0 ?_
  refine Mh_gR fd_0_2 fl_RX0_18 dX0_wins_1 ?_
  refine Mh_aload_n 1 rfl dX0_wins_4 ?_
  refine Mh_cvU (N := mi_X5_startRun) (q := gR m l0 2) (ci := 5) (as := [.ref l1]) (st := []) (id) cg_yX5_startRun (by decide) rfl rfl ml_RX0_55 iv_yX5_startRun pd_yX5_startRun rfl (by decide) (Nat.le_of_ble_eq_true rfl) rfl dX0_wins_5 (T_X5_startRun l E _ _ _ _) rfl ?_
  refine Mh_sub (lv' := [(0, .ref l0), (2, .ref l2), (3, .int l3), (4, .int l4)]) [0, 2, 3, 4] rfl ?_
  exact t_X0_wins_8 l E c0 s0 _ _ _ _ _ _
def F_X0_wins (a0 : Nat) (a1 : Nat) (a2 : Nat) (a3 : Int32) (a4 : Int32) (m : Mm) (o : Prop) : Int32 × Mm × Prop := f_X0_wins_0 a0 a1 a2 a3 a4 m o
theorem T_X0_wins (l : Launch) (E : En) (a0 : Nat) (a1 : Nat) (a2 : Nat) (a3 : Int32) (a4 : Int32) (m : Mm) (o : Prop) : Mt wI l E yX0_wins mi_X0_wins [.ref a0, .ref a1, .ref a2, .int a3, .int a4] m o (F_X0_wins a0 a1 a2 a3 a4 m o) :=
  Mt_I (by decide) rfl rfl rfl (Nat.le_of_ble_eq_true rfl) rfl (.inr (.inl rfl)) (t_X0_wins_0 l E _ _ _ _ _ _ _ _ _)
