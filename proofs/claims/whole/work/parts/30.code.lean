def f_X4_condition_78 (rc : Nat → Nat → Int32 → Mm → Prop → Int32 × Mm × Prop) (m : Mm) (o : Prop) : Int32 × Mm × Prop := ((1 : Int32), m, o)
set_option maxRecDepth 10000 in
theorem t_X4_condition_78 (l : Launch) (E : En) (c0 s0 : Nat) (dd : Nat) (rc : Nat → Nat → Int32 → Mm → Prop → Int32 × Mm × Prop) (hrc : RecOk l E dd rc) (m : Mm) (o : Prop) : Mh wI l E (mi_X4_condition (dd + 1)) c0 s0 78 [] [] m o (f_X4_condition_78 rc  m o) := by
  refine Mh_iconst (v := 1) dX4_condition_78 (by decide) ?_
  exact Mh_ret dX4_condition_79 rfl (fun _ => rk1Z) rfl
def f_X4_condition_118 (rc : Nat → Nat → Int32 → Mm → Prop → Int32 × Mm × Prop) (k13 : Nat → Int32 → Int32 → Int32 → Int32 → Mm → Prop → Int32 × Mm × Prop) (l0 : Nat) (l1 : Int32) (l2 : Int32) (l4 : Int32) (y0 : Int32) (m : Mm) (o : Prop) : Int32 × Mm × Prop := k13 l0 l1 l2 y0 (l4 + 1) m o
set_option maxRecDepth 10000 in
theorem t_X4_condition_118 (l : Launch) (E : En) (c0 s0 : Nat) (dd : Nat) (rc : Nat → Nat → Int32 → Mm → Prop → Int32 × Mm × Prop) (hrc : RecOk l E dd rc) (k13 : Nat → Int32 → Int32 → Int32 → Int32 → Mm → Prop → Int32 × Mm × Prop) (hk13 : ∀ (l0 : Nat) (l1 : Int32) (l2 : Int32) (l3 : Int32) (l4 : Int32) (m : Mm) (o : Prop), Mh wI l E (mi_X4_condition (dd + 1)) c0 s0 13 [(0, .ref l0), (1, .int l1), (2, .int l2), (3, .int l3), (4, .int l4)] [] m o (k13 l0 l1 l2 l3 l4 m o)) (l0 : Nat) (l1 : Int32) (l2 : Int32) (l4 : Int32) (y0 : Int32) (m : Mm) (o : Prop) : Mh wI l E (mi_X4_condition (dd + 1)) c0 s0 118 [(0, .ref l0), (1, .int l1), (2, .int l2), (4, .int l4)] [.int y0] m o (f_X4_condition_118 rc k13 l0 l1 l2 l4 y0 m o) := by
  refine Mh_istore_n (lv' := [(3, .int y0), (0, .ref l0), (1, .int l1), (2, .int l2), (4, .int l4)]) dX4_condition_118 (Nat.le_of_ble_eq_true rfl) rfl ?_
  refine Mh_iinc (v := l4 + 1) (lv' := [(4, .int (l4 + 1)), (3, .int y0), (0, .ref l0), (1, .int l1), (2, .int l2)]) 4 dX4_condition_119 rfl rfl (Nat.le_of_ble_eq_true rfl) rfl ?_
  refine Mh_goto (tgt := 13) dX4_condition_122 (by decide) ?_
  refine Mh_sub (lv' := [(0, .ref l0), (1, .int l1), (2, .int l2), (3, .int y0), (4, .int (l4 + 1))]) [2, 3, 4, 1, 0] rfl ?_
  exact hk13 _ _ _ _ _ _ _
def f_X4_condition_100 (rc : Nat → Nat → Int32 → Mm → Prop → Int32 × Mm × Prop) (k13 : Nat → Int32 → Int32 → Int32 → Int32 → Mm → Prop → Int32 × Mm × Prop) (l0 : Nat) (l1 : Int32) (l2 : Int32) (l3 : Int32) (l4 : Int32) (l5 : Int32) (m : Mm) (o : Prop) : Int32 × Mm × Prop := if l5 = (124 : Int32) then (f_X4_condition_118 rc k13 l0 l1 l2 l4 (gI m (gR m l0 1) 9) m ((o ∧ (gT m l0 = 5 ∧ gR m l0 1 ≠ 0)) ∧ gT m (gR m l0 1) = 4)) else (f_X4_condition_118 rc k13 l0 l1 l2 l4 l3 m o)
set_option maxRecDepth 10000 in
theorem t_X4_condition_100 (l : Launch) (E : En) (c0 s0 : Nat) (dd : Nat) (rc : Nat → Nat → Int32 → Mm → Prop → Int32 × Mm × Prop) (hrc : RecOk l E dd rc) (k13 : Nat → Int32 → Int32 → Int32 → Int32 → Mm → Prop → Int32 × Mm × Prop) (hk13 : ∀ (l0 : Nat) (l1 : Int32) (l2 : Int32) (l3 : Int32) (l4 : Int32) (m : Mm) (o : Prop), Mh wI l E (mi_X4_condition (dd + 1)) c0 s0 13 [(0, .ref l0), (1, .int l1), (2, .int l2), (3, .int l3), (4, .int l4)] [] m o (k13 l0 l1 l2 l3 l4 m o)) (l0 : Nat) (l1 : Int32) (l2 : Int32) (l3 : Int32) (l4 : Int32) (l5 : Int32) (m : Mm) (o : Prop) : Mh wI l E (mi_X4_condition (dd + 1)) c0 s0 100 [(0, .ref l0), (1, .int l1), (2, .int l2), (3, .int l3), (4, .int l4), (5, .int l5)] [] m o (f_X4_condition_100 rc k13 l0 l1 l2 l3 l4 l5 m o) := by
  refine Mh_iload 5 rfl dX4_condition_100 ?_
  refine Mh_bipush (v := 124) dX4_condition_102 (by decide) ?_
  refine Mh_icmp_ne (tgt := 117) dX4_condition_104 (by decide) rfl (fun _ => ?_) (fun _ => ?_)
  · refine Mh_iload_n 3 rfl dX4_condition_117 ?_
    refine Mh_sub (lv' := [(0, .ref l0), (1, .int l1), (2, .int l2), (4, .int l4)]) [0, 1, 2, 4] rfl ?_
    exact t_X4_condition_118 l E c0 s0 dd rc hrc k13 hk13 _ _ _ _ _ _ _
  · refine Mh_aload_n 0 rfl dX4_condition_107 ?_
    refine Mh_gR fd_4_1 fl_RX4_15 dX4_condition_108 ?_
    refine Mh_gI fd_3_9 fl_RX4_61 dX4_condition_111 ?_
    refine Mh_goto (tgt := 118) dX4_condition_114 (by decide) ?_
    refine Mh_sub (lv' := [(0, .ref l0), (1, .int l1), (2, .int l2), (4, .int l4)]) [0, 1, 2, 4] rfl ?_
    exact t_X4_condition_118 l E c0 s0 dd rc hrc k13 hk13 _ _ _ _ _ _ _
def f_X4_condition_90 (rc : Nat → Nat → Int32 → Mm → Prop → Int32 × Mm × Prop) (k13 : Nat → Int32 → Int32 → Int32 → Int32 → Mm → Prop → Int32 × Mm × Prop) (l0 : Nat) (l1 : Int32) (l2 : Int32) (l3 : Int32) (l4 : Int32) (l5 : Int32) (m : Mm) (o : Prop) : Int32 × Mm × Prop := bnd (F_X3_add (gR m l0 1) l5 (-1 : Int32) m ((o ∧ (gT m l0 = 5 ∧ gR m l0 1 ≠ 0)) ∧ gT m (gR m l0 1) = 4)) (fun _ m1 o1 => f_X4_condition_100 rc k13 l0 l1 l2 l3 l4 l5 m1 o1)
set_option maxRecDepth 10000 in
theorem t_X4_condition_90 (l : Launch) (E : En) (c0 s0 : Nat) (dd : Nat) (rc : Nat → Nat → Int32 → Mm → Prop → Int32 × Mm × Prop) (hrc : RecOk l E dd rc) (k13 : Nat → Int32 → Int32 → Int32 → Int32 → Mm → Prop → Int32 × Mm × Prop) (hk13 : ∀ (l0 : Nat) (l1 : Int32) (l2 : Int32) (l3 : Int32) (l4 : Int32) (m : Mm) (o : Prop), Mh wI l E (mi_X4_condition (dd + 1)) c0 s0 13 [(0, .ref l0), (1, .int l1), (2, .int l2), (3, .int l3), (4, .int l4)] [] m o (k13 l0 l1 l2 l3 l4 m o)) (l0 : Nat) (l1 : Int32) (l2 : Int32) (l3 : Int32) (l4 : Int32) (l5 : Int32) (m : Mm) (o : Prop) : Mh wI l E (mi_X4_condition (dd + 1)) c0 s0 90 [(0, .ref l0), (1, .int l1), (2, .int l2), (3, .int l3), (4, .int l4), (5, .int l5)] [] m o (f_X4_condition_90 rc k13 l0 l1 l2 l3 l4 l5 m o) := by
  refine Mh_aload_n 0 rfl dX4_condition_90 ?_
  refine Mh_gR fd_4_1 fl_RX4_15 dX4_condition_91 ?_
  refine Mh_iload 5 rfl dX4_condition_94 ?_
  refine Mh_iconst (v := (-1)) dX4_condition_96 (by decide) ?_
  refine Mh_cvU (N := mi_X3_add) (q := gR m l0 1) (ci := 3) (as := [.int l5, .int (-1 : Int32)]) (st := []) (id) cg_yX3_add (by decide) rfl rfl ml_RX4_81 iv_yX3_add pd_yX3_add rfl ⟨by show _ ≤ _; simp only [mF, mL, mN, mi_X3_add, mi_X4_condition]; omega, by show _ ≤ _; simp only [mF, mL, mN, mi_X3_add, mi_X4_condition]; omega⟩ (Nat.le_of_ble_eq_true rfl) rfl dX4_condition_97 (T_X3_add l E _ _ _ _ _) rfl ?_
  exact t_X4_condition_100 l E c0 s0 dd rc hrc k13 hk13 _ _ _ _ _ _ _ _
def f_X4_condition_80 (rc : Nat → Nat → Int32 → Mm → Prop → Int32 × Mm × Prop) (k13 : Nat → Int32 → Int32 → Int32 → Int32 → Mm → Prop → Int32 × Mm × Prop) (l0 : Nat) (l1 : Int32) (l2 : Int32) (l3 : Int32) (l4 : Int32) (l5 : Int32) (m : Mm) (o : Prop) : Int32 × Mm × Prop := f_X4_condition_90 rc k13 l0 l1 l2 l3 l4 l5 (sI m l0 3 ((gI m l0 3) + (1 : Int32))) (o ∧ gT m l0 = 5)
set_option maxRecDepth 10000 in
theorem t_X4_condition_80 (l : Launch) (E : En) (c0 s0 : Nat) (dd : Nat) (rc : Nat → Nat → Int32 → Mm → Prop → Int32 × Mm × Prop) (hrc : RecOk l E dd rc) (k13 : Nat → Int32 → Int32 → Int32 → Int32 → Mm → Prop → Int32 × Mm × Prop) (hk13 : ∀ (l0 : Nat) (l1 : Int32) (l2 : Int32) (l3 : Int32) (l4 : Int32) (m : Mm) (o : Prop), Mh wI l E (mi_X4_condition (dd + 1)) c0 s0 13 [(0, .ref l0), (1, .int l1), (2, .int l2), (3, .int l3), (4, .int l4)] [] m o (k13 l0 l1 l2 l3 l4 m o)) (l0 : Nat) (l1 : Int32) (l2 : Int32) (l3 : Int32) (l4 : Int32) (l5 : Int32) (m : Mm) (o : Prop) : Mh wI l E (mi_X4_condition (dd + 1)) c0 s0 80 [(0, .ref l0), (1, .int l1), (2, .int l2), (3, .int l3), (4, .int l4), (5, .int l5)] [] m o (f_X4_condition_80 rc k13 l0 l1 l2 l3 l4 l5 m o) := by
  refine Mh_aload_n 0 rfl dX4_condition_80 ?_
  refine Mh_dup dX4_condition_81 rfl ?_
  refine Mh_gI fd_4_3 fl_RX4_28 dX4_condition_82 ?_
  refine Mh_iconst (v := 1) dX4_condition_85 (by decide) ?_
  refine Mh_iadd dX4_condition_86 ?_
  refine Mh_pI fd_4_3 ft_4 rfl fl_RX4_28 rfl dX4_condition_87 ?_
  refine Mh_ok (fun h => h.2) ?_
  exact t_X4_condition_90 l E c0 s0 dd rc hrc k13 hk13 _ _ _ _ _ _ _ _
def f_X4_condition_54 (rc : Nat → Nat → Int32 → Mm → Prop → Int32 × Mm × Prop) (k13 : Nat → Int32 → Int32 → Int32 → Int32 → Mm → Prop → Int32 × Mm × Prop) (l0 : Nat) (l1 : Int32) (l2 : Int32) (l3 : Int32) (l4 : Int32) (l5 : Int32) (m : Mm) (o : Prop) : Int32 × Mm × Prop := if l5 = (38 : Int32) then (f_X4_condition_80 rc k13 l0 l1 l2 l3 l4 l5 m o) else (if l5 = (124 : Int32) then (f_X4_condition_80 rc k13 l0 l1 l2 l3 l4 l5 m o) else (bnd (F_X3_landJumps (gR m l0 1) l2 (124 : Int32) m ((o ∧ (gT m l0 = 5 ∧ gR m l0 1 ≠ 0)) ∧ gT m (gR m l0 1) = 4)) (fun _ m1 o1 => f_X4_condition_78 rc  m1 o1)))
set_option maxRecDepth 10000 in
theorem t_X4_condition_54 (l : Launch) (E : En) (c0 s0 : Nat) (dd : Nat) (rc : Nat → Nat → Int32 → Mm → Prop → Int32 × Mm × Prop) (hrc : RecOk l E dd rc) (k13 : Nat → Int32 → Int32 → Int32 → Int32 → Mm → Prop → Int32 × Mm × Prop) (hk13 : ∀ (l0 : Nat) (l1 : Int32) (l2 : Int32) (l3 : Int32) (l4 : Int32) (m : Mm) (o : Prop), Mh wI l E (mi_X4_condition (dd + 1)) c0 s0 13 [(0, .ref l0), (1, .int l1), (2, .int l2), (3, .int l3), (4, .int l4)] [] m o (k13 l0 l1 l2 l3 l4 m o)) (l0 : Nat) (l1 : Int32) (l2 : Int32) (l3 : Int32) (l4 : Int32) (l5 : Int32) (m : Mm) (o : Prop) : Mh wI l E (mi_X4_condition (dd + 1)) c0 s0 54 [(0, .ref l0), (1, .int l1), (2, .int l2), (3, .int l3), (4, .int l4), (5, .int l5)] [] m o (f_X4_condition_54 rc k13 l0 l1 l2 l3 l4 l5 m o) := by
  refine Mh_iload 5 rfl dX4_condition_54 ?_
  refine Mh_bipush (v := 38) dX4_condition_56 (by decide) ?_
  refine Mh_icmp_eq (tgt := 80) dX4_condition_58 (by decide) rfl (fun _ => ?_) (fun _ => ?_)
  · exact t_X4_condition_80 l E c0 s0 dd rc hrc k13 hk13 _ _ _ _ _ _ _ _
  · refine Mh_iload 5 rfl dX4_condition_61 ?_
    refine Mh_bipush (v := 124) dX4_condition_63 (by decide) ?_
    refine Mh_icmp_eq (tgt := 80) dX4_condition_65 (by decide) rfl (fun _ => ?_) (fun _ => ?_)
    · exact t_X4_condition_80 l E c0 s0 dd rc hrc k13 hk13 _ _ _ _ _ _ _ _
    · refine Mh_aload_n 0 rfl dX4_condition_68 ?_
      refine Mh_gR fd_4_1 fl_RX4_15 dX4_condition_69 ?_
      refine Mh_iload_n 2 rfl dX4_condition_72 ?_
      refine Mh_bipush (v := 124) dX4_condition_73 (by decide) ?_
      refine Mh_cvU (N := mi_X3_landJumps) (q := gR m l0 1) (ci := 3) (as := [.int l2, .int (124 : Int32)]) (st := []) (id) cg_yX3_landJumps (by decide) rfl rfl ml_RX4_77 iv_yX3_landJumps pd_yX3_landJumps rfl ⟨by show _ ≤ _; simp only [mF, mL, mN, mi_X3_landJumps, mi_X4_condition]; omega, by show _ ≤ _; simp only [mF, mL, mN, mi_X3_landJumps, mi_X4_condition]; omega⟩ (Nat.le_of_ble_eq_true rfl) rfl dX4_condition_75 (T_X3_landJumps l E _ _ _ _ _) rfl ?_
      refine Mh_sub (lv' := []) [] rfl ?_
      exact t_X4_condition_78 l E c0 s0 dd rc hrc  _ _
def f_X4_condition_35 (rc : Nat → Nat → Int32 → Mm → Prop → Int32 × Mm × Prop) (k13 : Nat → Int32 → Int32 → Int32 → Int32 → Mm → Prop → Int32 × Mm × Prop) (l0 : Nat) (l1 : Int32) (l2 : Int32) (l3 : Int32) (l4 : Int32) (y0 : Int32) (m : Mm) (o : Prop) : Int32 × Mm × Prop := if y0 = (38 : Int32) then (f_X4_condition_54 rc k13 l0 l1 l2 l3 l4 y0 m o) else (bnd (F_X3_landJumps (gR m l0 1) l3 (38 : Int32) m ((o ∧ (gT m l0 = 5 ∧ gR m l0 1 ≠ 0)) ∧ gT m (gR m l0 1) = 4)) (fun _ m1 o1 => f_X4_condition_54 rc k13 l0 l1 l2 l3 l4 y0 m1 o1))
set_option maxRecDepth 10000 in
theorem t_X4_condition_35 (l : Launch) (E : En) (c0 s0 : Nat) (dd : Nat) (rc : Nat → Nat → Int32 → Mm → Prop → Int32 × Mm × Prop) (hrc : RecOk l E dd rc) (k13 : Nat → Int32 → Int32 → Int32 → Int32 → Mm → Prop → Int32 × Mm × Prop) (hk13 : ∀ (l0 : Nat) (l1 : Int32) (l2 : Int32) (l3 : Int32) (l4 : Int32) (m : Mm) (o : Prop), Mh wI l E (mi_X4_condition (dd + 1)) c0 s0 13 [(0, .ref l0), (1, .int l1), (2, .int l2), (3, .int l3), (4, .int l4)] [] m o (k13 l0 l1 l2 l3 l4 m o)) (l0 : Nat) (l1 : Int32) (l2 : Int32) (l3 : Int32) (l4 : Int32) (y0 : Int32) (m : Mm) (o : Prop) : Mh wI l E (mi_X4_condition (dd + 1)) c0 s0 35 [(0, .ref l0), (1, .int l1), (2, .int l2), (3, .int l3), (4, .int l4)] [.int y0] m o (f_X4_condition_35 rc k13 l0 l1 l2 l3 l4 y0 m o) := by
  refine Mh_istore (lv' := [(5, .int y0), (0, .ref l0), (1, .int l1), (2, .int l2), (3, .int l3), (4, .int l4)]) dX4_condition_35 (Nat.le_of_ble_eq_true rfl) rfl ?_
  refine Mh_iload 0 rfl dX4_condition_37 ?_
  refine Mh_bipush (v := 38) dX4_condition_39 (by decide) ?_
  refine Mh_icmp_eq (tgt := 54) dX4_condition_41 (by decide) rfl (fun _ => ?_) (fun _ => ?_)
  · refine Mh_sub (lv' := [(0, .ref l0), (1, .int l1), (2, .int l2), (3, .int l3), (4, .int l4), (5, .int y0)]) [1, 2, 3, 4, 5, 0] rfl ?_
    exact t_X4_condition_54 l E c0 s0 dd rc hrc k13 hk13 _ _ _ _ _ _ _ _
  · refine Mh_aload_n 1 rfl dX4_condition_44 ?_
    refine Mh_gR fd_4_1 fl_RX4_15 dX4_condition_45 ?_
    refine Mh_iload_n 4 rfl dX4_condition_48 ?_
    refine Mh_bipush (v := 38) dX4_condition_49 (by decide) ?_
    refine Mh_cvU (N := mi_X3_landJumps) (q := gR m l0 1) (ci := 3) (as := [.int l3, .int (38 : Int32)]) (st := []) (id) cg_yX3_landJumps (by decide) rfl rfl ml_RX4_77 iv_yX3_landJumps pd_yX3_landJumps rfl ⟨by show _ ≤ _; simp only [mF, mL, mN, mi_X3_landJumps, mi_X4_condition]; omega, by show _ ≤ _; simp only [mF, mL, mN, mi_X3_landJumps, mi_X4_condition]; omega⟩ (Nat.le_of_ble_eq_true rfl) rfl dX4_condition_51 (T_X3_landJumps l E _ _ _ _ _) rfl ?_
    refine Mh_sub (lv' := [(0, .ref l0), (1, .int l1), (2, .int l2), (3, .int l3), (4, .int l4), (5, .int y0)]) [1, 2, 3, 4, 5, 0] rfl ?_
    exact t_X4_condition_54 l E c0 s0 dd rc hrc k13 hk13 _ _ _ _ _ _ _ _
def f_X4_condition_26 (rc : Nat → Nat → Int32 → Mm → Prop → Int32 × Mm × Prop) (k13 : Nat → Int32 → Int32 → Int32 → Int32 → Mm → Prop → Int32 × Mm × Prop) (l0 : Nat) (l1 : Int32) (l2 : Int32) (l3 : Int32) (l4 : Int32) (y0 : Int32) (m : Mm) (o : Prop) : Int32 × Mm × Prop := if y0 = 0 then ((0 : Int32), m, o) else (bnd (F_X4_sign l0 m (o ∧ gT m l0 = 5)) (fun v1 m1 o1 => f_X4_condition_35 rc k13 l0 l1 l2 l3 l4 v1 m1 o1))
set_option maxRecDepth 10000 in
theorem t_X4_condition_26 (l : Launch) (E : En) (c0 s0 : Nat) (dd : Nat) (rc : Nat → Nat → Int32 → Mm → Prop → Int32 × Mm × Prop) (hrc : RecOk l E dd rc) (k13 : Nat → Int32 → Int32 → Int32 → Int32 → Mm → Prop → Int32 × Mm × Prop) (hk13 : ∀ (l0 : Nat) (l1 : Int32) (l2 : Int32) (l3 : Int32) (l4 : Int32) (m : Mm) (o : Prop), Mh wI l E (mi_X4_condition (dd + 1)) c0 s0 13 [(0, .ref l0), (1, .int l1), (2, .int l2), (3, .int l3), (4, .int l4)] [] m o (k13 l0 l1 l2 l3 l4 m o)) (l0 : Nat) (l1 : Int32) (l2 : Int32) (l3 : Int32) (l4 : Int32) (y0 : Int32) (m : Mm) (o : Prop) : Mh wI l E (mi_X4_condition (dd + 1)) c0 s0 26 [(0, .ref l0), (1, .int l1), (2, .int l2), (3, .int l3), (4, .int l4)] [.int y0] m o (f_X4_condition_26 rc k13 l0 l1 l2 l3 l4 y0 m o) := by
  refine Mh_if_ne (tgt := 31) dX4_condition_26 (by decide) rfl (fun _ => ?_) (fun _ => ?_)
  · refine Mh_aload_n 0 rfl dX4_condition_31 ?_
    refine Mh_cvI (N := mi_X4_sign) (q := l0) (ci := 4) (as := []) (st := []) (id) cg_yX4_sign (by decide) rfl rfl ml_RX4_47 iv_yX4_sign pd_yX4_sign rfl ⟨by show _ ≤ _; simp only [mF, mL, mN, mi_X4_sign, mi_X4_condition]; omega, by show _ ≤ _; simp only [mF, mL, mN, mi_X4_sign, mi_X4_condition]; omega⟩ (Nat.le_of_ble_eq_true rfl) rfl dX4_condition_32 (T_X4_sign l E _ _ _) rfl ?_
    exact t_X4_condition_35 l E c0 s0 dd rc hrc k13 hk13 _ _ _ _ _ _ _ _
  · refine Mh_iconst (v := 0) dX4_condition_29 (by decide) ?_
    exact Mh_ret dX4_condition_30 rfl (fun _ => rk0Z) rfl
def f_X4_condition_13b (rc : Nat → Nat → Int32 → Mm → Prop → Int32 × Mm × Prop) (k13 : Nat → Int32 → Int32 → Int32 → Int32 → Mm → Prop → Int32 × Mm × Prop) (l0 : Nat) (l1 : Int32) (l2 : Int32) (l3 : Int32) (l4 : Int32) (m : Mm) (o : Prop) : Int32 × Mm × Prop := if (200 : Int32) ≤ l4 then ((0 : Int32), m, o) else (bnd (rc 1 l0 l1 m (o ∧ gT m l0 = 5)) (fun v1 m1 o1 => f_X4_condition_26 rc k13 l0 l1 l2 l3 l4 v1 m1 o1))
set_option maxRecDepth 10000 in
theorem t_X4_condition_13b (l : Launch) (E : En) (c0 s0 : Nat) (dd : Nat) (rc : Nat → Nat → Int32 → Mm → Prop → Int32 × Mm × Prop) (hrc : RecOk l E dd rc) (k13 : Nat → Int32 → Int32 → Int32 → Int32 → Mm → Prop → Int32 × Mm × Prop) (hk13 : ∀ (l0 : Nat) (l1 : Int32) (l2 : Int32) (l3 : Int32) (l4 : Int32) (m : Mm) (o : Prop), Mh wI l E (mi_X4_condition (dd + 1)) c0 s0 13 [(0, .ref l0), (1, .int l1), (2, .int l2), (3, .int l3), (4, .int l4)] [] m o (k13 l0 l1 l2 l3 l4 m o)) (l0 : Nat) (l1 : Int32) (l2 : Int32) (l3 : Int32) (l4 : Int32) (m : Mm) (o : Prop) : Mh wI l E (mi_X4_condition (dd + 1)) c0 s0 13 [(0, .ref l0), (1, .int l1), (2, .int l2), (3, .int l3), (4, .int l4)] [] m o (f_X4_condition_13b rc k13 l0 l1 l2 l3 l4 m o) := by
  refine Mh_iload 4 rfl dX4_condition_13 ?_
  refine Mh_sipush (v := 200) dX4_condition_15 (by decide) ?_
  refine Mh_icmp_ge (tgt := 125) dX4_condition_18 (by decide) rfl (fun _ => ?_) (fun _ => ?_)
  · refine Mh_iconst (v := 0) dX4_condition_125 (by decide) ?_
    exact Mh_ret dX4_condition_126 rfl (fun _ => rk0Z) rfl
  · refine Mh_aload_n 0 rfl dX4_condition_21 ?_
    refine Mh_iload_n 1 rfl dX4_condition_22 ?_
    refine Mh_cvI (N := (mi_X4_piece dd)) (q := l0) (ci := 4) (as := [.int l1]) (st := []) (id) cg_yX4_piece (by decide) rfl rfl ml_RX4_74 iv_yX4_piece pd_yX4_piece rfl ⟨by show _ ≤ _; simp only [mF, mL, mN, mi_X4_piece, mi_X4_condition]; omega, by show _ ≤ _; simp only [mF, mL, mN, mi_X4_piece, mi_X4_condition]; omega⟩ (Nat.le_of_ble_eq_true rfl) rfl dX4_condition_23 (hrc.2.1 _ _ _ _) rfl ?_
    exact t_X4_condition_26 l E c0 s0 dd rc hrc k13 hk13 _ _ _ _ _ _ _ _
def f_X4_condition_13 (rc : Nat → Nat → Int32 → Mm → Prop → Int32 × Mm × Prop) : Nat → Nat → Int32 → Int32 → Int32 → Int32 → Mm → Prop → Int32 × Mm × Prop
  | 0, _, _, _, _, _, m, _ => (0, m, False)
  | n + 1, l0, l1, l2, l3, l4, m, o => f_X4_condition_13b rc (f_X4_condition_13 rc n) l0 l1 l2 l3 l4 m o
theorem t_X4_condition_13 (l : Launch) (E : En) (c0 s0 : Nat) (dd : Nat) (rc : Nat → Nat → Int32 → Mm → Prop → Int32 × Mm × Prop) (hrc : RecOk l E dd rc) : ∀ (n : Nat) (l0 : Nat) (l1 : Int32) (l2 : Int32) (l3 : Int32) (l4 : Int32) (m : Mm) (o : Prop), Mh wI l E (mi_X4_condition (dd + 1)) c0 s0 13 [(0, .ref l0), (1, .int l1), (2, .int l2), (3, .int l3), (4, .int l4)] [] m o (f_X4_condition_13 rc n l0 l1 l2 l3 l4 m o)
  | 0, _, _, _, _, _, _, _ => Mh_out rfl
  | n + 1, l0, l1, l2, l3, l4, m, o => t_X4_condition_13b l E c0 s0 dd rc hrc (f_X4_condition_13 rc n) (t_X4_condition_13 l E c0 s0 dd rc hrc n) l0 l1 l2 l3 l4 m o
def f_X4_condition_0 (rc : Nat → Nat → Int32 → Mm → Prop → Int32 × Mm × Prop) (l0 : Nat) (l1 : Int32) (m : Mm) (o : Prop) : Int32 × Mm × Prop := f_X4_condition_13 rc 1000 l0 l1 (gI m (gR m l0 1) 9) (gI m (gR m l0 1) 9) (0 : Int32) m ((o ∧ (gT m l0 = 5 ∧ gR m l0 1 ≠ 0)) ∧ gT m (gR m l0 1) = 4)
set_option maxRecDepth 10000 in
theorem t_X4_condition_0 (l : Launch) (E : En) (c0 s0 : Nat) (dd : Nat) (rc : Nat → Nat → Int32 → Mm → Prop → Int32 × Mm × Prop) (hrc : RecOk l E dd rc) (l0 : Nat) (l1 : Int32) (m : Mm) (o : Prop) : Mh wI l E (mi_X4_condition (dd + 1)) c0 s0 0 [(0, .ref l0), (1, .int l1)] [] m o (f_X4_condition_0 rc l0 l1 m o) := by
  refine Mh_aload_n 0 rfl dX4_condition_0 ?_
  refine Mh_gR fd_4_1 fl_RX4_15 dX4_condition_1 ?_
  refine Mh_gI fd_3_9 fl_RX4_61 dX4_condition_4 ?_
  refine Mh_istore_n (lv' := [(2, .int (gI m (gR m l0 1) 9)), (0, .ref l0), (1, .int l1)]) dX4_condition_7 (Nat.le_of_ble_eq_true rfl) rfl ?_
  refine Mh_iload_n 0 rfl dX4_condition_8 ?_
  refine Mh_istore_n (lv' := [(3, .int (gI m (gR m l0 1) 9)), (2, .int (gI m (gR m l0 1) 9)), (0, .ref l0), (1, .int l1)]) dX4_condition_9 (Nat.le_of_ble_eq_true rfl) rfl ?_
  refine Mh_iconst (v := 0) dX4_condition_10 (by decide) ?_
  refine Mh_istore (lv' := [(4, .int (0 : Int32)), (3, .int (gI m (gR m l0 1) 9)), (2, .int (gI m (gR m l0 1) 9)), (0, .ref l0), (1, .int l1)]) dX4_condition_11 (Nat.le_of_ble_eq_true rfl) rfl ?_
  refine Mh_sub (lv' := [(0, .ref l0), (1, .int l1), (2, .int (gI m (gR m l0 1) 9)), (3, .int (gI m (gR m l0 1) 9)), (4, .int (0 : Int32))]) [3, 4, 2, 1, 0] rfl ?_
  exact t_X4_condition_13 l E c0 s0 dd rc hrc _ _ _ _ _ _ _ _
def G_X4_condition (rc : Nat → Nat → Int32 → Mm → Prop → Int32 × Mm × Prop) (a0 : Nat) (a1 : Int32) (m : Mm) (o : Prop) : Int32 × Mm × Prop := f_X4_condition_0 rc a0 a1 m o
theorem U_X4_condition (l : Launch) (E : En) (dd : Nat) (rc : Nat → Nat → Int32 → Mm → Prop → Int32 × Mm × Prop) (hrc : RecOk l E dd rc) (a0 : Nat) (a1 : Int32) (m : Mm) (o : Prop) : Mt wI l E yX4_condition (mi_X4_condition (dd + 1)) [.ref a0, .int a1] m o (G_X4_condition rc a0 a1 m o) :=
  Mt_I (by decide) rfl rfl rfl (Nat.le_of_ble_eq_true rfl) rfl (.inr (.inl rfl)) (t_X4_condition_0 l E _ _ dd rc hrc _ _ _ _)
def f_X4_piece_28 (rc : Nat → Nat → Int32 → Mm → Prop → Int32 × Mm × Prop) (y0 : Int32) (m : Mm) (o : Prop) : Int32 × Mm × Prop := (y0, m, o ∧ (y0 = 0 ∨ y0 = 1))
set_option maxRecDepth 10000 in
theorem t_X4_piece_28 (l : Launch) (E : En) (c0 s0 : Nat) (dd : Nat) (rc : Nat → Nat → Int32 → Mm → Prop → Int32 × Mm × Prop) (hrc : RecOk l E dd rc) (y0 : Int32) (m : Mm) (o : Prop) : Mh wI l E (mi_X4_piece (dd + 1)) c0 s0 28 [] [.int y0] m o (f_X4_piece_28 rc y0 m o) := by
  exact Mh_retZ dX4_piece_28 (.inl rfl) rfl
def f_X4_piece_69 (rc : Nat → Nat → Int32 → Mm → Prop → Int32 × Mm × Prop) (y0 : Int32) (m : Mm) (o : Prop) : Int32 × Mm × Prop := (y0, m, o ∧ (y0 = 0 ∨ y0 = 1))
set_option maxRecDepth 10000 in
theorem t_X4_piece_69 (l : Launch) (E : En) (c0 s0 : Nat) (dd : Nat) (rc : Nat → Nat → Int32 → Mm → Prop → Int32 × Mm × Prop) (hrc : RecOk l E dd rc) (y0 : Int32) (m : Mm) (o : Prop) : Mh wI l E (mi_X4_piece (dd + 1)) c0 s0 69 [] [.int y0] m o (f_X4_piece_69 rc y0 m o) := by
  exact Mh_retZ dX4_piece_69 (.inl rfl) rfl
def f_X4_piece_68 (rc : Nat → Nat → Int32 → Mm → Prop → Int32 × Mm × Prop) (m : Mm) (o : Prop) : Int32 × Mm × Prop := f_X4_piece_69 rc (0 : Int32) m o
set_option maxRecDepth 10000 in
theorem t_X4_piece_68 (l : Launch) (E : En) (c0 s0 : Nat) (dd : Nat) (rc : Nat → Nat → Int32 → Mm → Prop → Int32 × Mm × Prop) (hrc : RecOk l E dd rc) (m : Mm) (o : Prop) : Mh wI l E (mi_X4_piece (dd + 1)) c0 s0 68 [] [] m o (f_X4_piece_68 rc  m o) := by
  refine Mh_iconst (v := 0) dX4_piece_68 (by decide) ?_
  exact t_X4_piece_69 l E c0 s0 dd rc hrc _ _ _
def f_X4_piece_61 (rc : Nat → Nat → Int32 → Mm → Prop → Int32 × Mm × Prop) (y0 : Int32) (m : Mm) (o : Prop) : Int32 × Mm × Prop := if y0 = 0 then (f_X4_piece_68 rc  m o) else (f_X4_piece_69 rc (1 : Int32) m o)
set_option maxRecDepth 10000 in
theorem t_X4_piece_61 (l : Launch) (E : En) (c0 s0 : Nat) (dd : Nat) (rc : Nat → Nat → Int32 → Mm → Prop → Int32 × Mm × Prop) (hrc : RecOk l E dd rc) (y0 : Int32) (m : Mm) (o : Prop) : Mh wI l E (mi_X4_piece (dd + 1)) c0 s0 61 [] [.int y0] m o (f_X4_piece_61 rc y0 m o) := by
  refine Mh_if_eq (tgt := 68) dX4_piece_61 (by decide) rfl (fun _ => ?_) (fun _ => ?_)
  · exact t_X4_piece_68 l E c0 s0 dd rc hrc  _ _
  · refine Mh_iconst (v := 1) dX4_piece_64 (by decide) ?_
    refine Mh_goto (tgt := 69) dX4_piece_65 (by decide) ?_
    exact t_X4_piece_69 l E c0 s0 dd rc hrc _ _ _
def f_X4_piece_52 (rc : Nat → Nat → Int32 → Mm → Prop → Int32 × Mm × Prop) (l0 : Nat) (y0 : Int32) (m : Mm) (o : Prop) : Int32 × Mm × Prop := if y0 = 0 then (f_X4_piece_68 rc  m o) else (bnd (F_X4_expect l0 (41 : Int32) m (o ∧ gT m l0 = 5)) (fun v1 m1 o1 => f_X4_piece_61 rc v1 m1 o1))
set_option maxRecDepth 10000 in
theorem t_X4_piece_52 (l : Launch) (E : En) (c0 s0 : Nat) (dd : Nat) (rc : Nat → Nat → Int32 → Mm → Prop → Int32 × Mm × Prop) (hrc : RecOk l E dd rc) (l0 : Nat) (y0 : Int32) (m : Mm) (o : Prop) : Mh wI l E (mi_X4_piece (dd + 1)) c0 s0 52 [(0, .ref l0)] [.int y0] m o (f_X4_piece_52 rc l0 y0 m o) := by
  refine Mh_if_eq (tgt := 68) dX4_piece_52 (by decide) rfl (fun _ => ?_) (fun _ => ?_)
  · refine Mh_sub (lv' := []) [] rfl ?_
    exact t_X4_piece_68 l E c0 s0 dd rc hrc  _ _
  · refine Mh_aload_n 0 rfl dX4_piece_55 ?_
    refine Mh_bipush (v := 41) dX4_piece_56 (by decide) ?_
    refine Mh_cvI (N := mi_X4_expect) (q := l0) (ci := 4) (as := [.int (41 : Int32)]) (st := []) (id) cg_yX4_expect (by decide) rfl rfl ml_RX4_58 iv_yX4_expect pd_yX4_expect rfl ⟨by show _ ≤ _; simp only [mF, mL, mN, mi_X4_expect, mi_X4_piece]; omega, by show _ ≤ _; simp only [mF, mL, mN, mi_X4_expect, mi_X4_piece]; omega⟩ (Nat.le_of_ble_eq_true rfl) rfl dX4_piece_58 (T_X4_expect l E _ _ _ _) rfl ?_
    refine Mh_sub (lv' := []) [] rfl ?_
    exact t_X4_piece_61 l E c0 s0 dd rc hrc _ _ _
def f_X4_piece_88 (rc : Nat → Nat → Int32 → Mm → Prop → Int32 × Mm × Prop) (l3 : Int32) (m : Mm) (o : Prop) : Int32 × Mm × Prop := (l3, m, o ∧ (l3 = 0 ∨ l3 = 1))
set_option maxRecDepth 10000 in
theorem t_X4_piece_88 (l : Launch) (E : En) (c0 s0 : Nat) (dd : Nat) (rc : Nat → Nat → Int32 → Mm → Prop → Int32 × Mm × Prop) (hrc : RecOk l E dd rc) (l3 : Int32) (m : Mm) (o : Prop) : Mh wI l E (mi_X4_piece (dd + 1)) c0 s0 88 [(3, .int l3)] [] m o (f_X4_piece_88 rc l3 m o) := by
  refine Mh_iload_n 0 rfl dX4_piece_88 ?_
  exact Mh_retZ dX4_piece_89 (.inl rfl) rfl
def f_X4_piece_77 (rc : Nat → Nat → Int32 → Mm → Prop → Int32 × Mm × Prop) (l0 : Nat) (y0 : Int32) (m : Mm) (o : Prop) : Int32 × Mm × Prop := bnd (F_X3_add (gR m l0 1) (33 : Int32) (0 : Int32) m ((o ∧ (gT m l0 = 5 ∧ gR m l0 1 ≠ 0)) ∧ gT m (gR m l0 1) = 4)) (fun _ m1 o1 => f_X4_piece_88 rc y0 m1 o1)
set_option maxRecDepth 10000 in
theorem t_X4_piece_77 (l : Launch) (E : En) (c0 s0 : Nat) (dd : Nat) (rc : Nat → Nat → Int32 → Mm → Prop → Int32 × Mm × Prop) (hrc : RecOk l E dd rc) (l0 : Nat) (y0 : Int32) (m : Mm) (o : Prop) : Mh wI l E (mi_X4_piece (dd + 1)) c0 s0 77 [(0, .ref l0)] [.int y0] m o (f_X4_piece_77 rc l0 y0 m o) := by
  refine Mh_istore_n (lv' := [(3, .int y0), (0, .ref l0)]) dX4_piece_77 (Nat.le_of_ble_eq_true rfl) rfl ?_
  refine Mh_aload_n 1 rfl dX4_piece_78 ?_
  refine Mh_gR fd_4_1 fl_RX4_15 dX4_piece_79 ?_
  refine Mh_bipush (v := 33) dX4_piece_82 (by decide) ?_
  refine Mh_iconst (v := 0) dX4_piece_84 (by decide) ?_
  refine Mh_cvU (N := mi_X3_add) (q := gR m l0 1) (ci := 3) (as := [.int (33 : Int32), .int (0 : Int32)]) (st := []) (id) cg_yX3_add (by decide) rfl rfl ml_RX4_81 iv_yX3_add pd_yX3_add rfl ⟨by show _ ≤ _; simp only [mF, mL, mN, mi_X3_add, mi_X4_piece]; omega, by show _ ≤ _; simp only [mF, mL, mN, mi_X3_add, mi_X4_piece]; omega⟩ (Nat.le_of_ble_eq_true rfl) rfl dX4_piece_85 (T_X3_add l E _ _ _ _ _) rfl ?_
  refine Mh_sub (lv' := [(3, .int y0)]) [0] rfl ?_
  exact t_X4_piece_88 l E c0 s0 dd rc hrc _ _ _
def f_X4_piece_39 (rc : Nat → Nat → Int32 → Mm → Prop → Int32 × Mm × Prop) (l0 : Nat) (l1 : Int32) (l2 : Int32) (m : Mm) (o : Prop) : Int32 × Mm × Prop := if l2 = (40 : Int32) then (bnd (rc 0 l0 (l1 + (1 : Int32)) m (o ∧ gT m l0 = 5)) (fun v1 m1 o1 => f_X4_piece_52 rc l0 v1 m1 o1)) else (bnd (rc 1 l0 (l1 + (1 : Int32)) m (o ∧ gT m l0 = 5)) (fun v1 m1 o1 => f_X4_piece_77 rc l0 v1 m1 o1))
set_option maxRecDepth 10000 in
theorem t_X4_piece_39 (l : Launch) (E : En) (c0 s0 : Nat) (dd : Nat) (rc : Nat → Nat → Int32 → Mm → Prop → Int32 × Mm × Prop) (hrc : RecOk l E dd rc) (l0 : Nat) (l1 : Int32) (l2 : Int32) (m : Mm) (o : Prop) : Mh wI l E (mi_X4_piece (dd + 1)) c0 s0 39 [(0, .ref l0), (1, .int l1), (2, .int l2)] [] m o (f_X4_piece_39 rc l0 l1 l2 m o) := by
  refine Mh_iload_n 2 rfl dX4_piece_39 ?_
  refine Mh_bipush (v := 40) dX4_piece_40 (by decide) ?_
  refine Mh_icmp_ne (tgt := 70) dX4_piece_42 (by decide) rfl (fun _ => ?_) (fun _ => ?_)
  · refine Mh_aload_n 0 rfl dX4_piece_70 ?_
    refine Mh_iload_n 1 rfl dX4_piece_71 ?_
    refine Mh_iconst (v := 1) dX4_piece_72 (by decide) ?_
    refine Mh_iadd dX4_piece_73 ?_
    refine Mh_cvI (N := (mi_X4_piece dd)) (q := l0) (ci := 4) (as := [.int (l1 + (1 : Int32))]) (st := []) (id) cg_yX4_piece (by decide) rfl rfl ml_RX4_74 iv_yX4_piece pd_yX4_piece rfl ⟨by show _ ≤ _; simp only [mF, mL, mN, mi_X4_piece, mi_X4_piece]; omega, by show _ ≤ _; simp only [mF, mL, mN, mi_X4_piece, mi_X4_piece]; omega⟩ (Nat.le_of_ble_eq_true rfl) rfl dX4_piece_74 (hrc.2.1 _ _ _ _) rfl ?_
    refine Mh_sub (lv' := [(0, .ref l0)]) [0] rfl ?_
    exact t_X4_piece_77 l E c0 s0 dd rc hrc _ _ _ _
  · refine Mh_aload_n 0 rfl dX4_piece_45 ?_
    refine Mh_iload_n 1 rfl dX4_piece_46 ?_
    refine Mh_iconst (v := 1) dX4_piece_47 (by decide) ?_
    refine Mh_iadd dX4_piece_48 ?_
    refine Mh_cvI (N := (mi_X4_condition dd)) (q := l0) (ci := 4) (as := [.int (l1 + (1 : Int32))]) (st := []) (id) cg_yX4_condition (by decide) rfl rfl ml_RX4_67 iv_yX4_condition pd_yX4_condition rfl ⟨by show _ ≤ _; simp only [mF, mL, mN, mi_X4_condition, mi_X4_piece]; omega, by show _ ≤ _; simp only [mF, mL, mN, mi_X4_condition, mi_X4_piece]; omega⟩ (Nat.le_of_ble_eq_true rfl) rfl dX4_piece_49 (hrc.1 _ _ _ _) rfl ?_
    refine Mh_sub (lv' := [(0, .ref l0)]) [0] rfl ?_
    exact t_X4_piece_52 l E c0 s0 dd rc hrc _ _ _ _
def f_X4_piece_17 (rc : Nat → Nat → Int32 → Mm → Prop → Int32 × Mm × Prop) (l0 : Nat) (l1 : Int32) (l2 : Int32) (m : Mm) (o : Prop) : Int32 × Mm × Prop := if l1 < (6 : Int32) then (f_X4_piece_39 rc l0 l1 l2 (sI m l0 3 ((gI m l0 3) + (1 : Int32))) (o ∧ gT m l0 = 5)) else (bnd (F_X4_fail l0 (5 : Int32) m (o ∧ gT m l0 = 5)) (fun v1 m1 o1 => f_X4_piece_28 rc v1 m1 o1))
set_option maxRecDepth 10000 in
theorem t_X4_piece_17 (l : Launch) (E : En) (c0 s0 : Nat) (dd : Nat) (rc : Nat → Nat → Int32 → Mm → Prop → Int32 × Mm × Prop) (hrc : RecOk l E dd rc) (l0 : Nat) (l1 : Int32) (l2 : Int32) (m : Mm) (o : Prop) : Mh wI l E (mi_X4_piece (dd + 1)) c0 s0 17 [(0, .ref l0), (1, .int l1), (2, .int l2)] [] m o (f_X4_piece_17 rc l0 l1 l2 m o) := by
  refine Mh_iload_n 1 rfl dX4_piece_17 ?_
  refine Mh_bipush (v := 6) dX4_piece_18 (by decide) ?_
  refine Mh_icmp_lt (tgt := 29) dX4_piece_20 (by decide) rfl (fun _ => ?_) (fun _ => ?_)
  · refine Mh_aload_n 0 rfl dX4_piece_29 ?_
    refine Mh_dup dX4_piece_30 rfl ?_
    refine Mh_gI fd_4_3 fl_RX4_28 dX4_piece_31 ?_
    refine Mh_iconst (v := 1) dX4_piece_34 (by decide) ?_
    refine Mh_iadd dX4_piece_35 ?_
    refine Mh_pI fd_4_3 ft_4 rfl fl_RX4_28 rfl dX4_piece_36 ?_
    refine Mh_ok (fun h => h.2) ?_
    exact t_X4_piece_39 l E c0 s0 dd rc hrc _ _ _ _ _
  · refine Mh_aload_n 0 rfl dX4_piece_23 ?_
    refine Mh_iconst (v := 5) dX4_piece_24 (by decide) ?_
    refine Mh_cvI (N := mi_X4_fail) (q := l0) (ci := 4) (as := [.int (5 : Int32)]) (st := []) (id) cg_yX4_fail (by decide) rfl rfl ml_RX4_51 iv_yX4_fail pd_yX4_fail rfl ⟨by show _ ≤ _; simp only [mF, mL, mN, mi_X4_fail, mi_X4_piece]; omega, by show _ ≤ _; simp only [mF, mL, mN, mi_X4_fail, mi_X4_piece]; omega⟩ (Nat.le_of_ble_eq_true rfl) rfl dX4_piece_25 (T_X4_fail l E _ _ _ _) rfl ?_
    refine Mh_sub (lv' := []) [] rfl ?_
    exact t_X4_piece_28 l E c0 s0 dd rc hrc _ _ _
def f_X4_piece_128 (rc : Nat → Nat → Int32 → Mm → Prop → Int32 × Mm × Prop) (y0 : Int32) (m : Mm) (o : Prop) : Int32 × Mm × Prop := (y0, m, o ∧ (y0 = 0 ∨ y0 = 1))
set_option maxRecDepth 10000 in
theorem t_X4_piece_128 (l : Launch) (E : En) (c0 s0 : Nat) (dd : Nat) (rc : Nat → Nat → Int32 → Mm → Prop → Int32 × Mm × Prop) (hrc : RecOk l E dd rc) (y0 : Int32) (m : Mm) (o : Prop) : Mh wI l E (mi_X4_piece (dd + 1)) c0 s0 128 [] [.int y0] m o (f_X4_piece_128 rc y0 m o) := by
  exact Mh_retZ dX4_piece_128 (.inl rfl) rfl
def f_X4_piece_155 (rc : Nat → Nat → Int32 → Mm → Prop → Int32 × Mm × Prop) (l4 : Int32) (m : Mm) (o : Prop) : Int32 × Mm × Prop := (l4, m, o ∧ (l4 = 0 ∨ l4 = 1))
set_option maxRecDepth 10000 in
theorem t_X4_piece_155 (l : Launch) (E : En) (c0 s0 : Nat) (dd : Nat) (rc : Nat → Nat → Int32 → Mm → Prop → Int32 × Mm × Prop) (hrc : RecOk l E dd rc) (l4 : Int32) (m : Mm) (o : Prop) : Mh wI l E (mi_X4_piece (dd + 1)) c0 s0 155 [(4, .int l4)] [] m o (f_X4_piece_155 rc l4 m o) := by
  refine Mh_iload 0 rfl dX4_piece_155 ?_
  exact Mh_retZ dX4_piece_157 (.inl rfl) rfl
def f_X4_piece_144 (rc : Nat → Nat → Int32 → Mm → Prop → Int32 × Mm × Prop) (l0 : Nat) (l3 : Int32) (y0 : Int32) (m : Mm) (o : Prop) : Int32 × Mm × Prop := bnd (F_X3_add (gR m l0 1) l3 (0 : Int32) m ((o ∧ (gT m l0 = 5 ∧ gR m l0 1 ≠ 0)) ∧ gT m (gR m l0 1) = 4)) (fun _ m1 o1 => f_X4_piece_155 rc y0 m1 o1)
set_option maxRecDepth 10000 in
theorem t_X4_piece_144 (l : Launch) (E : En) (c0 s0 : Nat) (dd : Nat) (rc : Nat → Nat → Int32 → Mm → Prop → Int32 × Mm × Prop) (hrc : RecOk l E dd rc) (l0 : Nat) (l3 : Int32) (y0 : Int32) (m : Mm) (o : Prop) : Mh wI l E (mi_X4_piece (dd + 1)) c0 s0 144 [(0, .ref l0), (3, .int l3)] [.int y0] m o (f_X4_piece_144 rc l0 l3 y0 m o) := by
  refine Mh_istore (lv' := [(4, .int y0), (0, .ref l0), (3, .int l3)]) dX4_piece_144 (Nat.le_of_ble_eq_true rfl) rfl ?_
  refine Mh_aload_n 1 rfl dX4_piece_146 ?_
  refine Mh_gR fd_4_1 fl_RX4_15 dX4_piece_147 ?_
  refine Mh_iload_n 2 rfl dX4_piece_150 ?_
  refine Mh_iconst (v := 0) dX4_piece_151 (by decide) ?_
  refine Mh_cvU (N := mi_X3_add) (q := gR m l0 1) (ci := 3) (as := [.int l3, .int (0 : Int32)]) (st := []) (id) cg_yX3_add (by decide) rfl rfl ml_RX4_81 iv_yX3_add pd_yX3_add rfl ⟨by show _ ≤ _; simp only [mF, mL, mN, mi_X3_add, mi_X4_piece]; omega, by show _ ≤ _; simp only [mF, mL, mN, mi_X3_add, mi_X4_piece]; omega⟩ (Nat.le_of_ble_eq_true rfl) rfl dX4_piece_152 (T_X3_add l E _ _ _ _ _) rfl ?_
  refine Mh_sub (lv' := [(4, .int y0)]) [0] rfl ?_
  exact t_X4_piece_155 l E c0 s0 dd rc hrc _ _ _
def f_X4_piece_139 (rc : Nat → Nat → Int32 → Mm → Prop → Int32 × Mm × Prop) (l0 : Nat) (l1 : Int32) (l3 : Int32) (m : Mm) (o : Prop) : Int32 × Mm × Prop := bnd (rc 2 l0 l1 m (o ∧ gT m l0 = 5)) (fun v1 m1 o1 => f_X4_piece_144 rc l0 l3 v1 m1 o1)
set_option maxRecDepth 10000 in
theorem t_X4_piece_139 (l : Launch) (E : En) (c0 s0 : Nat) (dd : Nat) (rc : Nat → Nat → Int32 → Mm → Prop → Int32 × Mm × Prop) (hrc : RecOk l E dd rc) (l0 : Nat) (l1 : Int32) (l3 : Int32) (m : Mm) (o : Prop) : Mh wI l E (mi_X4_piece (dd + 1)) c0 s0 139 [(0, .ref l0), (1, .int l1), (3, .int l3)] [] m o (f_X4_piece_139 rc l0 l1 l3 m o) := by
  refine Mh_aload_n 0 rfl dX4_piece_139 ?_
  refine Mh_iload_n 1 rfl dX4_piece_140 ?_
  refine Mh_cvI (N := (mi_X4_expression dd)) (q := l0) (ci := 4) (as := [.int l1]) (st := []) (id) cg_yX4_expression (by decide) rfl rfl ml_RX4_64 iv_yX4_expression pd_yX4_expression rfl ⟨by show _ ≤ _; simp only [mF, mL, mN, mi_X4_expression, mi_X4_piece]; omega, by show _ ≤ _; simp only [mF, mL, mN, mi_X4_expression, mi_X4_piece]; omega⟩ (Nat.le_of_ble_eq_true rfl) rfl dX4_piece_141 (hrc.2.2.1 _ _ _ _) rfl ?_
  refine Mh_sub (lv' := [(0, .ref l0), (3, .int l3)]) [0, 2] rfl ?_
  exact t_X4_piece_144 l E c0 s0 dd rc hrc _ _ _ _ _
def f_X4_piece_129 (rc : Nat → Nat → Int32 → Mm → Prop → Int32 × Mm × Prop) (l0 : Nat) (l1 : Int32) (l3 : Int32) (m : Mm) (o : Prop) : Int32 × Mm × Prop := f_X4_piece_139 rc l0 l1 l3 (sI m l0 3 ((gI m l0 3) + (1 : Int32))) (o ∧ gT m l0 = 5)
set_option maxRecDepth 10000 in
theorem t_X4_piece_129 (l : Launch) (E : En) (c0 s0 : Nat) (dd : Nat) (rc : Nat → Nat → Int32 → Mm → Prop → Int32 × Mm × Prop) (hrc : RecOk l E dd rc) (l0 : Nat) (l1 : Int32) (l3 : Int32) (m : Mm) (o : Prop) : Mh wI l E (mi_X4_piece (dd + 1)) c0 s0 129 [(0, .ref l0), (1, .int l1), (3, .int l3)] [] m o (f_X4_piece_129 rc l0 l1 l3 m o) := by
  refine Mh_aload_n 0 rfl dX4_piece_129 ?_
  refine Mh_dup dX4_piece_130 rfl ?_
  refine Mh_gI fd_4_3 fl_RX4_28 dX4_piece_131 ?_
  refine Mh_iconst (v := 1) dX4_piece_134 (by decide) ?_
  refine Mh_iadd dX4_piece_135 ?_
  refine Mh_pI fd_4_3 ft_4 rfl fl_RX4_28 rfl dX4_piece_136 ?_
  refine Mh_ok (fun h => h.2) ?_
  exact t_X4_piece_139 l E c0 s0 dd rc hrc _ _ _ _ _
def f_X4_piece_104 (rc : Nat → Nat → Int32 → Mm → Prop → Int32 × Mm × Prop) (l0 : Nat) (l1 : Int32) (y0 : Int32) (m : Mm) (o : Prop) : Int32 × Mm × Prop := if y0 = (60 : Int32) then (f_X4_piece_129 rc l0 l1 y0 m o) else (if y0 = (62 : Int32) then (f_X4_piece_129 rc l0 l1 y0 m o) else (if y0 = (61 : Int32) then (f_X4_piece_129 rc l0 l1 y0 m o) else (bnd (F_X4_fail l0 (1 : Int32) m (o ∧ gT m l0 = 5)) (fun v1 m1 o1 => f_X4_piece_128 rc v1 m1 o1))))
set_option maxRecDepth 10000 in
theorem t_X4_piece_104 (l : Launch) (E : En) (c0 s0 : Nat) (dd : Nat) (rc : Nat → Nat → Int32 → Mm → Prop → Int32 × Mm × Prop) (hrc : RecOk l E dd rc) (l0 : Nat) (l1 : Int32) (y0 : Int32) (m : Mm) (o : Prop) : Mh wI l E (mi_X4_piece (dd + 1)) c0 s0 104 [(0, .ref l0), (1, .int l1)] [.int y0] m o (f_X4_piece_104 rc l0 l1 y0 m o) := by
  refine Mh_istore_n (lv' := [(3, .int y0), (0, .ref l0), (1, .int l1)]) dX4_piece_104 (Nat.le_of_ble_eq_true rfl) rfl ?_
  refine Mh_iload_n 0 rfl dX4_piece_105 ?_
  refine Mh_bipush (v := 60) dX4_piece_106 (by decide) ?_
  refine Mh_icmp_eq (tgt := 129) dX4_piece_108 (by decide) rfl (fun _ => ?_) (fun _ => ?_)
  · refine Mh_sub (lv' := [(0, .ref l0), (1, .int l1), (3, .int y0)]) [1, 2, 0] rfl ?_
    exact t_X4_piece_129 l E c0 s0 dd rc hrc _ _ _ _ _
  · refine Mh_iload_n 0 rfl dX4_piece_111 ?_
    refine Mh_bipush (v := 62) dX4_piece_112 (by decide) ?_
    refine Mh_icmp_eq (tgt := 129) dX4_piece_114 (by decide) rfl (fun _ => ?_) (fun _ => ?_)
    · refine Mh_sub (lv' := [(0, .ref l0), (1, .int l1), (3, .int y0)]) [1, 2, 0] rfl ?_
      exact t_X4_piece_129 l E c0 s0 dd rc hrc _ _ _ _ _
    · refine Mh_iload_n 0 rfl dX4_piece_117 ?_
      refine Mh_bipush (v := 61) dX4_piece_118 (by decide) ?_
      refine Mh_icmp_eq (tgt := 129) dX4_piece_120 (by decide) rfl (fun _ => ?_) (fun _ => ?_)
      · refine Mh_sub (lv' := [(0, .ref l0), (1, .int l1), (3, .int y0)]) [1, 2, 0] rfl ?_
        exact t_X4_piece_129 l E c0 s0 dd rc hrc _ _ _ _ _
      · refine Mh_aload_n 1 rfl dX4_piece_123 ?_
        refine Mh_iconst (v := 1) dX4_piece_124 (by decide) ?_
        refine Mh_cvI (N := mi_X4_fail) (q := l0) (ci := 4) (as := [.int (1 : Int32)]) (st := []) (id) cg_yX4_fail (by decide) rfl rfl ml_RX4_51 iv_yX4_fail pd_yX4_fail rfl ⟨by show _ ≤ _; simp only [mF, mL, mN, mi_X4_fail, mi_X4_piece]; omega, by show _ ≤ _; simp only [mF, mL, mN, mi_X4_fail, mi_X4_piece]; omega⟩ (Nat.le_of_ble_eq_true rfl) rfl dX4_piece_125 (T_X4_fail l E _ _ _ _) rfl ?_
        refine Mh_sub (lv' := []) [] rfl ?_
        exact t_X4_piece_128 l E c0 s0 dd rc hrc _ _ _
def f_X4_piece_95 (rc : Nat → Nat → Int32 → Mm → Prop → Int32 × Mm × Prop) (l0 : Nat) (l1 : Int32) (y0 : Int32) (m : Mm) (o : Prop) : Int32 × Mm × Prop := if y0 = 0 then ((0 : Int32), m, o) else (bnd (F_X4_sign l0 m (o ∧ gT m l0 = 5)) (fun v1 m1 o1 => f_X4_piece_104 rc l0 l1 v1 m1 o1))
set_option maxRecDepth 10000 in
theorem t_X4_piece_95 (l : Launch) (E : En) (c0 s0 : Nat) (dd : Nat) (rc : Nat → Nat → Int32 → Mm → Prop → Int32 × Mm × Prop) (hrc : RecOk l E dd rc) (l0 : Nat) (l1 : Int32) (y0 : Int32) (m : Mm) (o : Prop) : Mh wI l E (mi_X4_piece (dd + 1)) c0 s0 95 [(0, .ref l0), (1, .int l1)] [.int y0] m o (f_X4_piece_95 rc l0 l1 y0 m o) := by
  refine Mh_if_ne (tgt := 100) dX4_piece_95 (by decide) rfl (fun _ => ?_) (fun _ => ?_)
  · refine Mh_aload_n 0 rfl dX4_piece_100 ?_
    refine Mh_cvI (N := mi_X4_sign) (q := l0) (ci := 4) (as := []) (st := []) (id) cg_yX4_sign (by decide) rfl rfl ml_RX4_47 iv_yX4_sign pd_yX4_sign rfl ⟨by show _ ≤ _; simp only [mF, mL, mN, mi_X4_sign, mi_X4_piece]; omega, by show _ ≤ _; simp only [mF, mL, mN, mi_X4_sign, mi_X4_piece]; omega⟩ (Nat.le_of_ble_eq_true rfl) rfl dX4_piece_101 (T_X4_sign l E _ _ _) rfl ?_
    exact t_X4_piece_104 l E c0 s0 dd rc hrc _ _ _ _ _
  · refine Mh_iconst (v := 0) dX4_piece_98 (by decide) ?_
    exact Mh_ret dX4_piece_99 rfl (fun _ => rk0Z) rfl
def f_X4_piece_4 (rc : Nat → Nat → Int32 → Mm → Prop → Int32 × Mm × Prop) (l0 : Nat) (l1 : Int32) (y0 : Int32) (m : Mm) (o : Prop) : Int32 × Mm × Prop := if y0 = (33 : Int32) then (f_X4_piece_17 rc l0 l1 y0 m o) else (if y0 = (40 : Int32) then (f_X4_piece_17 rc l0 l1 y0 m o) else (bnd (rc 2 l0 l1 m (o ∧ gT m l0 = 5)) (fun v1 m1 o1 => f_X4_piece_95 rc l0 l1 v1 m1 o1)))
set_option maxRecDepth 10000 in
theorem t_X4_piece_4 (l : Launch) (E : En) (c0 s0 : Nat) (dd : Nat) (rc : Nat → Nat → Int32 → Mm → Prop → Int32 × Mm × Prop) (hrc : RecOk l E dd rc) (l0 : Nat) (l1 : Int32) (y0 : Int32) (m : Mm) (o : Prop) : Mh wI l E (mi_X4_piece (dd + 1)) c0 s0 4 [(0, .ref l0), (1, .int l1)] [.int y0] m o (f_X4_piece_4 rc l0 l1 y0 m o) := by
  refine Mh_istore_n (lv' := [(2, .int y0), (0, .ref l0), (1, .int l1)]) dX4_piece_4 (Nat.le_of_ble_eq_true rfl) rfl ?_
  refine Mh_iload_n 0 rfl dX4_piece_5 ?_
  refine Mh_bipush (v := 33) dX4_piece_6 (by decide) ?_
  refine Mh_icmp_eq (tgt := 17) dX4_piece_8 (by decide) rfl (fun _ => ?_) (fun _ => ?_)
  · refine Mh_sub (lv' := [(0, .ref l0), (1, .int l1), (2, .int y0)]) [1, 2, 0] rfl ?_
    exact t_X4_piece_17 l E c0 s0 dd rc hrc _ _ _ _ _
  · refine Mh_iload_n 0 rfl dX4_piece_11 ?_
    refine Mh_bipush (v := 40) dX4_piece_12 (by decide) ?_
    refine Mh_icmp_ne (tgt := 90) dX4_piece_14 (by decide) rfl (fun _ => ?_) (fun _ => ?_)
    · refine Mh_aload_n 1 rfl dX4_piece_90 ?_
      refine Mh_iload_n 2 rfl dX4_piece_91 ?_
      refine Mh_cvI (N := (mi_X4_expression dd)) (q := l0) (ci := 4) (as := [.int l1]) (st := []) (id) cg_yX4_expression (by decide) rfl rfl ml_RX4_64 iv_yX4_expression pd_yX4_expression rfl ⟨by show _ ≤ _; simp only [mF, mL, mN, mi_X4_expression, mi_X4_piece]; omega, by show _ ≤ _; simp only [mF, mL, mN, mi_X4_expression, mi_X4_piece]; omega⟩ (Nat.le_of_ble_eq_true rfl) rfl dX4_piece_92 (hrc.2.2.1 _ _ _ _) rfl ?_
      refine Mh_sub (lv' := [(0, .ref l0), (1, .int l1)]) [1, 2] rfl ?_
      exact t_X4_piece_95 l E c0 s0 dd rc hrc _ _ _ _ _
    · refine Mh_sub (lv' := [(0, .ref l0), (1, .int l1), (2, .int y0)]) [1, 2, 0] rfl ?_
      exact t_X4_piece_17 l E c0 s0 dd rc hrc _ _ _ _ _
def f_X4_piece_0 (rc : Nat → Nat → Int32 → Mm → Prop → Int32 × Mm × Prop) (l0 : Nat) (l1 : Int32) (m : Mm) (o : Prop) : Int32 × Mm × Prop := bnd (F_X4_sign l0 m (o ∧ gT m l0 = 5)) (fun v1 m1 o1 => f_X4_piece_4 rc l0 l1 v1 m1 o1)
set_option maxRecDepth 10000 in
theorem t_X4_piece_0 (l : Launch) (E : En) (c0 s0 : Nat) (dd : Nat) (rc : Nat → Nat → Int32 → Mm → Prop → Int32 × Mm × Prop) (hrc : RecOk l E dd rc) (l0 : Nat) (l1 : Int32) (m : Mm) (o : Prop) : Mh wI l E (mi_X4_piece (dd + 1)) c0 s0 0 [(0, .ref l0), (1, .int l1)] [] m o (f_X4_piece_0 rc l0 l1 m o) := by
  refine Mh_aload_n 0 rfl dX4_piece_0 ?_
  refine Mh_cvI (N := mi_X4_sign) (q := l0) (ci := 4) (as := []) (st := []) (id) cg_yX4_sign (by decide) rfl rfl ml_RX4_47 iv_yX4_sign pd_yX4_sign rfl ⟨by show _ ≤ _; simp only [mF, mL, mN, mi_X4_sign, mi_X4_piece]; omega, by show _ ≤ _; simp only [mF, mL, mN, mi_X4_sign, mi_X4_piece]; omega⟩ (Nat.le_of_ble_eq_true rfl) rfl dX4_piece_1 (T_X4_sign l E _ _ _) rfl ?_
  exact t_X4_piece_4 l E c0 s0 dd rc hrc _ _ _ _ _
def G_X4_piece (rc : Nat → Nat → Int32 → Mm → Prop → Int32 × Mm × Prop) (a0 : Nat) (a1 : Int32) (m : Mm) (o : Prop) : Int32 × Mm × Prop := f_X4_piece_0 rc a0 a1 m o
theorem U_X4_piece (l : Launch) (E : En) (dd : Nat) (rc : Nat → Nat → Int32 → Mm → Prop → Int32 × Mm × Prop) (hrc : RecOk l E dd rc) (a0 : Nat) (a1 : Int32) (m : Mm) (o : Prop) : Mt wI l E yX4_piece (mi_X4_piece (dd + 1)) [.ref a0, .int a1] m o (G_X4_piece rc a0 a1 m o) :=
  Mt_I (by decide) rfl rfl rfl (Nat.le_of_ble_eq_true rfl) rfl (.inr (.inl rfl)) (t_X4_piece_0 l E _ _ dd rc hrc _ _ _ _)
def f_X4_expression_129 (rc : Nat → Nat → Int32 → Mm → Prop → Int32 × Mm × Prop) (k7 : Nat → Int32 → Int32 → Int32 → Int32 → Mm → Prop → Int32 × Mm × Prop) (l0 : Nat) (l1 : Int32) (l2 : Int32) (l3 : Int32) (l4 : Int32) (m : Mm) (o : Prop) : Int32 × Mm × Prop := k7 l0 l1 l2 l3 (l4 + 1) m o
set_option maxRecDepth 10000 in
theorem t_X4_expression_129 (l : Launch) (E : En) (c0 s0 : Nat) (dd : Nat) (rc : Nat → Nat → Int32 → Mm → Prop → Int32 × Mm × Prop) (hrc : RecOk l E dd rc) (k7 : Nat → Int32 → Int32 → Int32 → Int32 → Mm → Prop → Int32 × Mm × Prop) (hk7 : ∀ (l0 : Nat) (l1 : Int32) (l2 : Int32) (l3 : Int32) (l4 : Int32) (m : Mm) (o : Prop), Mh wI l E (mi_X4_expression (dd + 1)) c0 s0 7 [(0, .ref l0), (1, .int l1), (2, .int l2), (3, .int l3), (4, .int l4)] [] m o (k7 l0 l1 l2 l3 l4 m o)) (l0 : Nat) (l1 : Int32) (l2 : Int32) (l3 : Int32) (l4 : Int32) (m : Mm) (o : Prop) : Mh wI l E (mi_X4_expression (dd + 1)) c0 s0 129 [(0, .ref l0), (1, .int l1), (2, .int l2), (3, .int l3), (4, .int l4)] [] m o (f_X4_expression_129 rc k7 l0 l1 l2 l3 l4 m o) := by
  refine Mh_iinc (v := l4 + 1) (lv' := [(4, .int (l4 + 1)), (0, .ref l0), (1, .int l1), (2, .int l2), (3, .int l3)]) 4 dX4_expression_129 rfl rfl (Nat.le_of_ble_eq_true rfl) rfl ?_
  refine Mh_goto (tgt := 7) dX4_expression_132 (by decide) ?_
  refine Mh_sub (lv' := [(0, .ref l0), (1, .int l1), (2, .int l2), (3, .int l3), (4, .int (l4 + 1))]) [1, 2, 3, 4, 0] rfl ?_
  exact hk7 _ _ _ _ _ _ _
def f_X4_expression_119 (rc : Nat → Nat → Int32 → Mm → Prop → Int32 × Mm × Prop) (k7 : Nat → Int32 → Int32 → Int32 → Int32 → Mm → Prop → Int32 × Mm × Prop) (l0 : Nat) (l1 : Int32) (l2 : Int32) (l3 : Int32) (l4 : Int32) (m : Mm) (o : Prop) : Int32 × Mm × Prop := f_X4_expression_129 rc k7 l0 l1 l2 l3 l4 (sI m l0 3 ((gI m l0 3) + (1 : Int32))) (o ∧ gT m l0 = 5)
set_option maxRecDepth 10000 in
theorem t_X4_expression_119 (l : Launch) (E : En) (c0 s0 : Nat) (dd : Nat) (rc : Nat → Nat → Int32 → Mm → Prop → Int32 × Mm × Prop) (hrc : RecOk l E dd rc) (k7 : Nat → Int32 → Int32 → Int32 → Int32 → Mm → Prop → Int32 × Mm × Prop) (hk7 : ∀ (l0 : Nat) (l1 : Int32) (l2 : Int32) (l3 : Int32) (l4 : Int32) (m : Mm) (o : Prop), Mh wI l E (mi_X4_expression (dd + 1)) c0 s0 7 [(0, .ref l0), (1, .int l1), (2, .int l2), (3, .int l3), (4, .int l4)] [] m o (k7 l0 l1 l2 l3 l4 m o)) (l0 : Nat) (l1 : Int32) (l2 : Int32) (l3 : Int32) (l4 : Int32) (m : Mm) (o : Prop) : Mh wI l E (mi_X4_expression (dd + 1)) c0 s0 119 [(0, .ref l0), (1, .int l1), (2, .int l2), (3, .int l3), (4, .int l4)] [] m o (f_X4_expression_119 rc k7 l0 l1 l2 l3 l4 m o) := by
  refine Mh_aload_n 0 rfl dX4_expression_119 ?_
  refine Mh_dup dX4_expression_120 rfl ?_
  refine Mh_gI fd_4_3 fl_RX4_28 dX4_expression_121 ?_
  refine Mh_iconst (v := 1) dX4_expression_124 (by decide) ?_
  refine Mh_iadd dX4_expression_125 ?_
  refine Mh_pI fd_4_3 ft_4 rfl fl_RX4_28 rfl dX4_expression_126 ?_
  refine Mh_ok (fun h => h.2) ?_
  exact t_X4_expression_129 l E c0 s0 dd rc hrc k7 hk7 _ _ _ _ _ _ _
def f_X4_expression_116 (rc : Nat → Nat → Int32 → Mm → Prop → Int32 × Mm × Prop) (k7 : Nat → Int32 → Int32 → Int32 → Int32 → Mm → Prop → Int32 × Mm × Prop) (l0 : Nat) (l1 : Int32) (l3 : Int32) (l4 : Int32) (l5 : Int32) (m : Mm) (o : Prop) : Int32 × Mm × Prop := f_X4_expression_119 rc k7 l0 l1 l5 l3 l4 m o
set_option maxRecDepth 10000 in
theorem t_X4_expression_116 (l : Launch) (E : En) (c0 s0 : Nat) (dd : Nat) (rc : Nat → Nat → Int32 → Mm → Prop → Int32 × Mm × Prop) (hrc : RecOk l E dd rc) (k7 : Nat → Int32 → Int32 → Int32 → Int32 → Mm → Prop → Int32 × Mm × Prop) (hk7 : ∀ (l0 : Nat) (l1 : Int32) (l2 : Int32) (l3 : Int32) (l4 : Int32) (m : Mm) (o : Prop), Mh wI l E (mi_X4_expression (dd + 1)) c0 s0 7 [(0, .ref l0), (1, .int l1), (2, .int l2), (3, .int l3), (4, .int l4)] [] m o (k7 l0 l1 l2 l3 l4 m o)) (l0 : Nat) (l1 : Int32) (l3 : Int32) (l4 : Int32) (l5 : Int32) (m : Mm) (o : Prop) : Mh wI l E (mi_X4_expression (dd + 1)) c0 s0 116 [(0, .ref l0), (1, .int l1), (3, .int l3), (4, .int l4), (5, .int l5)] [] m o (f_X4_expression_116 rc k7 l0 l1 l3 l4 l5 m o) := by
  refine Mh_iload 4 rfl dX4_expression_116 ?_
  refine Mh_istore_n (lv' := [(2, .int l5), (0, .ref l0), (1, .int l1), (3, .int l3), (4, .int l4), (5, .int l5)]) dX4_expression_118 (Nat.le_of_ble_eq_true rfl) rfl ?_
  refine Mh_sub (lv' := [(0, .ref l0), (1, .int l1), (2, .int l5), (3, .int l3), (4, .int l4)]) [1, 2, 0, 3, 4] rfl ?_
  exact t_X4_expression_119 l E c0 s0 dd rc hrc k7 hk7 _ _ _ _ _ _ _
def f_X4_expression_100 (rc : Nat → Nat → Int32 → Mm → Prop → Int32 × Mm × Prop) (k7 : Nat → Int32 → Int32 → Int32 → Int32 → Mm → Prop → Int32 × Mm × Prop) (l0 : Nat) (l1 : Int32) (l3 : Int32) (l4 : Int32) (l5 : Int32) (m : Mm) (o : Prop) : Int32 × Mm × Prop := if l5 = (43 : Int32) then (f_X4_expression_116 rc k7 l0 l1 l3 l4 l5 m o) else (if l5 = (45 : Int32) then (f_X4_expression_116 rc k7 l0 l1 l3 l4 l5 m o) else ((1 : Int32), m, o))
set_option maxRecDepth 10000 in
theorem t_X4_expression_100 (l : Launch) (E : En) (c0 s0 : Nat) (dd : Nat) (rc : Nat → Nat → Int32 → Mm → Prop → Int32 × Mm × Prop) (hrc : RecOk l E dd rc) (k7 : Nat → Int32 → Int32 → Int32 → Int32 → Mm → Prop → Int32 × Mm × Prop) (hk7 : ∀ (l0 : Nat) (l1 : Int32) (l2 : Int32) (l3 : Int32) (l4 : Int32) (m : Mm) (o : Prop), Mh wI l E (mi_X4_expression (dd + 1)) c0 s0 7 [(0, .ref l0), (1, .int l1), (2, .int l2), (3, .int l3), (4, .int l4)] [] m o (k7 l0 l1 l2 l3 l4 m o)) (l0 : Nat) (l1 : Int32) (l3 : Int32) (l4 : Int32) (l5 : Int32) (m : Mm) (o : Prop) : Mh wI l E (mi_X4_expression (dd + 1)) c0 s0 100 [(0, .ref l0), (1, .int l1), (3, .int l3), (4, .int l4), (5, .int l5)] [] m o (f_X4_expression_100 rc k7 l0 l1 l3 l4 l5 m o) := by
  refine Mh_iload 4 rfl dX4_expression_100 ?_
  refine Mh_bipush (v := 43) dX4_expression_102 (by decide) ?_
  refine Mh_icmp_eq (tgt := 116) dX4_expression_104 (by decide) rfl (fun _ => ?_) (fun _ => ?_)
  · exact t_X4_expression_116 l E c0 s0 dd rc hrc k7 hk7 _ _ _ _ _ _ _
  · refine Mh_iload 4 rfl dX4_expression_107 ?_
    refine Mh_bipush (v := 45) dX4_expression_109 (by decide) ?_
    refine Mh_icmp_eq (tgt := 116) dX4_expression_111 (by decide) rfl (fun _ => ?_) (fun _ => ?_)
    · exact t_X4_expression_116 l E c0 s0 dd rc hrc k7 hk7 _ _ _ _ _ _ _
    · refine Mh_iconst (v := 1) dX4_expression_114 (by decide) ?_
      exact Mh_ret dX4_expression_115 rfl (fun _ => rk1Z) rfl
def f_X4_expression_81 (rc : Nat → Nat → Int32 → Mm → Prop → Int32 × Mm × Prop) (k7 : Nat → Int32 → Int32 → Int32 → Int32 → Mm → Prop → Int32 × Mm × Prop) (l0 : Nat) (l1 : Int32) (l2 : Int32) (l4 : Int32) (l5 : Int32) (l6 : Int32) (y0 : Int32) (m : Mm) (o : Prop) : Int32 × Mm × Prop := if l6 = 0 then (if l2 = 0 then (f_X4_expression_100 rc k7 l0 l1 y0 l4 l5 m o) else (bnd (F_X3_add (gR m l0 1) l2 (0 : Int32) m ((o ∧ (gT m l0 = 5 ∧ gR m l0 1 ≠ 0)) ∧ gT m (gR m l0 1) = 4)) (fun _ m1 o1 => f_X4_expression_100 rc k7 l0 l1 y0 l4 l5 m1 o1))) else (f_X4_expression_119 rc k7 l0 l1 l2 y0 l4 m o)
set_option maxRecDepth 10000 in
theorem t_X4_expression_81 (l : Launch) (E : En) (c0 s0 : Nat) (dd : Nat) (rc : Nat → Nat → Int32 → Mm → Prop → Int32 × Mm × Prop) (hrc : RecOk l E dd rc) (k7 : Nat → Int32 → Int32 → Int32 → Int32 → Mm → Prop → Int32 × Mm × Prop) (hk7 : ∀ (l0 : Nat) (l1 : Int32) (l2 : Int32) (l3 : Int32) (l4 : Int32) (m : Mm) (o : Prop), Mh wI l E (mi_X4_expression (dd + 1)) c0 s0 7 [(0, .ref l0), (1, .int l1), (2, .int l2), (3, .int l3), (4, .int l4)] [] m o (k7 l0 l1 l2 l3 l4 m o)) (l0 : Nat) (l1 : Int32) (l2 : Int32) (l4 : Int32) (l5 : Int32) (l6 : Int32) (y0 : Int32) (m : Mm) (o : Prop) : Mh wI l E (mi_X4_expression (dd + 1)) c0 s0 81 [(0, .ref l0), (1, .int l1), (2, .int l2), (4, .int l4), (5, .int l5), (6, .int l6)] [.int y0] m o (f_X4_expression_81 rc k7 l0 l1 l2 l4 l5 l6 y0 m o) := by
  refine Mh_istore_n (lv' := [(3, .int y0), (0, .ref l0), (1, .int l1), (2, .int l2), (4, .int l4), (5, .int l5), (6, .int l6)]) dX4_expression_81 (Nat.le_of_ble_eq_true rfl) rfl ?_
  refine Mh_iload 6 rfl dX4_expression_82 ?_
  refine Mh_if_ne (tgt := 119) dX4_expression_84 (by decide) rfl (fun _ => ?_) (fun _ => ?_)
  · refine Mh_sub (lv' := [(0, .ref l0), (1, .int l1), (2, .int l2), (3, .int y0), (4, .int l4)]) [1, 2, 3, 0, 4] rfl ?_
    exact t_X4_expression_119 l E c0 s0 dd rc hrc k7 hk7 _ _ _ _ _ _ _
  · refine Mh_iload_n 3 rfl dX4_expression_87 ?_
    refine Mh_if_eq (tgt := 100) dX4_expression_88 (by decide) rfl (fun _ => ?_) (fun _ => ?_)
    · refine Mh_sub (lv' := [(0, .ref l0), (1, .int l1), (3, .int y0), (4, .int l4), (5, .int l5)]) [1, 2, 0, 4, 5] rfl ?_
      exact t_X4_expression_100 l E c0 s0 dd rc hrc k7 hk7 _ _ _ _ _ _ _
    · refine Mh_aload_n 1 rfl dX4_expression_91 ?_
      refine Mh_gR fd_4_1 fl_RX4_15 dX4_expression_92 ?_
      refine Mh_iload_n 3 rfl dX4_expression_95 ?_
      refine Mh_iconst (v := 0) dX4_expression_96 (by decide) ?_
      refine Mh_cvU (N := mi_X3_add) (q := gR m l0 1) (ci := 3) (as := [.int l2, .int (0 : Int32)]) (st := []) (id) cg_yX3_add (by decide) rfl rfl ml_RX4_81 iv_yX3_add pd_yX3_add rfl ⟨by show _ ≤ _; simp only [mF, mL, mN, mi_X3_add, mi_X4_expression]; omega, by show _ ≤ _; simp only [mF, mL, mN, mi_X3_add, mi_X4_expression]; omega⟩ (Nat.le_of_ble_eq_true rfl) rfl dX4_expression_97 (T_X3_add l E _ _ _ _ _) rfl ?_
      refine Mh_sub (lv' := [(0, .ref l0), (1, .int l1), (3, .int y0), (4, .int l4), (5, .int l5)]) [1, 2, 0, 4, 5] rfl ?_
      exact t_X4_expression_100 l E c0 s0 dd rc hrc k7 hk7 _ _ _ _ _ _ _
def f_X4_expression_68 (rc : Nat → Nat → Int32 → Mm → Prop → Int32 × Mm × Prop) (k7 : Nat → Int32 → Int32 → Int32 → Int32 → Mm → Prop → Int32 × Mm × Prop) (l0 : Nat) (l1 : Int32) (l2 : Int32) (l4 : Int32) (l5 : Int32) (y0 : Int32) (m : Mm) (o : Prop) : Int32 × Mm × Prop := if y0 = 0 then (f_X4_expression_81 rc k7 l0 l1 l2 l4 l5 y0 (0 : Int32) m o) else (f_X4_expression_81 rc k7 l0 l1 l2 l4 l5 y0 l5 m o)
set_option maxRecDepth 10000 in
theorem t_X4_expression_68 (l : Launch) (E : En) (c0 s0 : Nat) (dd : Nat) (rc : Nat → Nat → Int32 → Mm → Prop → Int32 × Mm × Prop) (hrc : RecOk l E dd rc) (k7 : Nat → Int32 → Int32 → Int32 → Int32 → Mm → Prop → Int32 × Mm × Prop) (hk7 : ∀ (l0 : Nat) (l1 : Int32) (l2 : Int32) (l3 : Int32) (l4 : Int32) (m : Mm) (o : Prop), Mh wI l E (mi_X4_expression (dd + 1)) c0 s0 7 [(0, .ref l0), (1, .int l1), (2, .int l2), (3, .int l3), (4, .int l4)] [] m o (k7 l0 l1 l2 l3 l4 m o)) (l0 : Nat) (l1 : Int32) (l2 : Int32) (l4 : Int32) (l5 : Int32) (y0 : Int32) (m : Mm) (o : Prop) : Mh wI l E (mi_X4_expression (dd + 1)) c0 s0 68 [(0, .ref l0), (1, .int l1), (2, .int l2), (4, .int l4), (5, .int l5)] [.int y0] m o (f_X4_expression_68 rc k7 l0 l1 l2 l4 l5 y0 m o) := by
  refine Mh_istore (lv' := [(6, .int y0), (0, .ref l0), (1, .int l1), (2, .int l2), (4, .int l4), (5, .int l5)]) dX4_expression_68 (Nat.le_of_ble_eq_true rfl) rfl ?_
  refine Mh_iload 0 rfl dX4_expression_70 ?_
  refine Mh_if_eq (tgt := 80) dX4_expression_72 (by decide) rfl (fun _ => ?_) (fun _ => ?_)
  · refine Mh_iconst (v := 0) dX4_expression_80 (by decide) ?_
    refine Mh_sub (lv' := [(0, .ref l0), (1, .int l1), (2, .int l2), (4, .int l4), (5, .int l5), (6, .int y0)]) [1, 2, 3, 4, 5, 0] rfl ?_
    exact t_X4_expression_81 l E c0 s0 dd rc hrc k7 hk7 _ _ _ _ _ _ _ _ _
  · refine Mh_iload 5 rfl dX4_expression_75 ?_
    refine Mh_goto (tgt := 81) dX4_expression_77 (by decide) ?_
    refine Mh_sub (lv' := [(0, .ref l0), (1, .int l1), (2, .int l2), (4, .int l4), (5, .int l5), (6, .int y0)]) [1, 2, 3, 4, 5, 0] rfl ?_
    exact t_X4_expression_81 l E c0 s0 dd rc hrc k7 hk7 _ _ _ _ _ _ _ _ _
def f_X4_expression_63 (rc : Nat → Nat → Int32 → Mm → Prop → Int32 × Mm × Prop) (k7 : Nat → Int32 → Int32 → Int32 → Int32 → Mm → Prop → Int32 × Mm × Prop) (l0 : Nat) (l1 : Int32) (l2 : Int32) (l4 : Int32) (l5 : Int32) (m : Mm) (o : Prop) : Int32 × Mm × Prop := f_X4_expression_68 rc k7 l0 l1 l2 l4 l5 (1 : Int32) m o
set_option maxRecDepth 10000 in
theorem t_X4_expression_63 (l : Launch) (E : En) (c0 s0 : Nat) (dd : Nat) (rc : Nat → Nat → Int32 → Mm → Prop → Int32 × Mm × Prop) (hrc : RecOk l E dd rc) (k7 : Nat → Int32 → Int32 → Int32 → Int32 → Mm → Prop → Int32 × Mm × Prop) (hk7 : ∀ (l0 : Nat) (l1 : Int32) (l2 : Int32) (l3 : Int32) (l4 : Int32) (m : Mm) (o : Prop), Mh wI l E (mi_X4_expression (dd + 1)) c0 s0 7 [(0, .ref l0), (1, .int l1), (2, .int l2), (3, .int l3), (4, .int l4)] [] m o (k7 l0 l1 l2 l3 l4 m o)) (l0 : Nat) (l1 : Int32) (l2 : Int32) (l4 : Int32) (l5 : Int32) (m : Mm) (o : Prop) : Mh wI l E (mi_X4_expression (dd + 1)) c0 s0 63 [(0, .ref l0), (1, .int l1), (2, .int l2), (4, .int l4), (5, .int l5)] [] m o (f_X4_expression_63 rc k7 l0 l1 l2 l4 l5 m o) := by
  refine Mh_iconst (v := 1) dX4_expression_63 (by decide) ?_
  refine Mh_goto (tgt := 68) dX4_expression_64 (by decide) ?_
  exact t_X4_expression_68 l E c0 s0 dd rc hrc k7 hk7 _ _ _ _ _ _ _ _
def f_X4_expression_40 (rc : Nat → Nat → Int32 → Mm → Prop → Int32 × Mm × Prop) (k7 : Nat → Int32 → Int32 → Int32 → Int32 → Mm → Prop → Int32 × Mm × Prop) (l0 : Nat) (l1 : Int32) (l2 : Int32) (l4 : Int32) (y0 : Int32) (m : Mm) (o : Prop) : Int32 × Mm × Prop := if y0 = (42 : Int32) then (f_X4_expression_63 rc k7 l0 l1 l2 l4 y0 m o) else (if y0 = (47 : Int32) then (f_X4_expression_63 rc k7 l0 l1 l2 l4 y0 m o) else (if y0 = (37 : Int32) then (f_X4_expression_63 rc k7 l0 l1 l2 l4 y0 m o) else (f_X4_expression_68 rc k7 l0 l1 l2 l4 y0 (0 : Int32) m o)))
set_option maxRecDepth 10000 in
theorem t_X4_expression_40 (l : Launch) (E : En) (c0 s0 : Nat) (dd : Nat) (rc : Nat → Nat → Int32 → Mm → Prop → Int32 × Mm × Prop) (hrc : RecOk l E dd rc) (k7 : Nat → Int32 → Int32 → Int32 → Int32 → Mm → Prop → Int32 × Mm × Prop) (hk7 : ∀ (l0 : Nat) (l1 : Int32) (l2 : Int32) (l3 : Int32) (l4 : Int32) (m : Mm) (o : Prop), Mh wI l E (mi_X4_expression (dd + 1)) c0 s0 7 [(0, .ref l0), (1, .int l1), (2, .int l2), (3, .int l3), (4, .int l4)] [] m o (k7 l0 l1 l2 l3 l4 m o)) (l0 : Nat) (l1 : Int32) (l2 : Int32) (l4 : Int32) (y0 : Int32) (m : Mm) (o : Prop) : Mh wI l E (mi_X4_expression (dd + 1)) c0 s0 40 [(0, .ref l0), (1, .int l1), (2, .int l2), (4, .int l4)] [.int y0] m o (f_X4_expression_40 rc k7 l0 l1 l2 l4 y0 m o) := by
  refine Mh_istore (lv' := [(5, .int y0), (0, .ref l0), (1, .int l1), (2, .int l2), (4, .int l4)]) dX4_expression_40 (Nat.le_of_ble_eq_true rfl) rfl ?_
  refine Mh_iload 0 rfl dX4_expression_42 ?_
  refine Mh_bipush (v := 42) dX4_expression_44 (by decide) ?_
  refine Mh_icmp_eq (tgt := 63) dX4_expression_46 (by decide) rfl (fun _ => ?_) (fun _ => ?_)
  · refine Mh_sub (lv' := [(0, .ref l0), (1, .int l1), (2, .int l2), (4, .int l4), (5, .int y0)]) [1, 2, 3, 4, 0] rfl ?_
    exact t_X4_expression_63 l E c0 s0 dd rc hrc k7 hk7 _ _ _ _ _ _ _
  · refine Mh_iload 0 rfl dX4_expression_49 ?_
    refine Mh_bipush (v := 47) dX4_expression_51 (by decide) ?_
    refine Mh_icmp_eq (tgt := 63) dX4_expression_53 (by decide) rfl (fun _ => ?_) (fun _ => ?_)
    · refine Mh_sub (lv' := [(0, .ref l0), (1, .int l1), (2, .int l2), (4, .int l4), (5, .int y0)]) [1, 2, 3, 4, 0] rfl ?_
      exact t_X4_expression_63 l E c0 s0 dd rc hrc k7 hk7 _ _ _ _ _ _ _
    · refine Mh_iload 0 rfl dX4_expression_56 ?_
      refine Mh_bipush (v := 37) dX4_expression_58 (by decide) ?_
      refine Mh_icmp_ne (tgt := 67) dX4_expression_60 (by decide) rfl (fun _ => ?_) (fun _ => ?_)
      · refine Mh_iconst (v := 0) dX4_expression_67 (by decide) ?_
        refine Mh_sub (lv' := [(0, .ref l0), (1, .int l1), (2, .int l2), (4, .int l4), (5, .int y0)]) [1, 2, 3, 4, 0] rfl ?_
        exact t_X4_expression_68 l E c0 s0 dd rc hrc k7 hk7 _ _ _ _ _ _ _ _
      · refine Mh_sub (lv' := [(0, .ref l0), (1, .int l1), (2, .int l2), (4, .int l4), (5, .int y0)]) [1, 2, 3, 4, 0] rfl ?_
        exact t_X4_expression_63 l E c0 s0 dd rc hrc k7 hk7 _ _ _ _ _ _ _
def f_X4_expression_36 (rc : Nat → Nat → Int32 → Mm → Prop → Int32 × Mm × Prop) (k7 : Nat → Int32 → Int32 → Int32 → Int32 → Mm → Prop → Int32 × Mm × Prop) (l0 : Nat) (l1 : Int32) (l2 : Int32) (l4 : Int32) (m : Mm) (o : Prop) : Int32 × Mm × Prop := bnd (F_X4_sign l0 m (o ∧ gT m l0 = 5)) (fun v1 m1 o1 => f_X4_expression_40 rc k7 l0 l1 l2 l4 v1 m1 o1)
set_option maxRecDepth 10000 in
theorem t_X4_expression_36 (l : Launch) (E : En) (c0 s0 : Nat) (dd : Nat) (rc : Nat → Nat → Int32 → Mm → Prop → Int32 × Mm × Prop) (hrc : RecOk l E dd rc) (k7 : Nat → Int32 → Int32 → Int32 → Int32 → Mm → Prop → Int32 × Mm × Prop) (hk7 : ∀ (l0 : Nat) (l1 : Int32) (l2 : Int32) (l3 : Int32) (l4 : Int32) (m : Mm) (o : Prop), Mh wI l E (mi_X4_expression (dd + 1)) c0 s0 7 [(0, .ref l0), (1, .int l1), (2, .int l2), (3, .int l3), (4, .int l4)] [] m o (k7 l0 l1 l2 l3 l4 m o)) (l0 : Nat) (l1 : Int32) (l2 : Int32) (l4 : Int32) (m : Mm) (o : Prop) : Mh wI l E (mi_X4_expression (dd + 1)) c0 s0 36 [(0, .ref l0), (1, .int l1), (2, .int l2), (4, .int l4)] [] m o (f_X4_expression_36 rc k7 l0 l1 l2 l4 m o) := by
  refine Mh_aload_n 0 rfl dX4_expression_36 ?_
  refine Mh_cvI (N := mi_X4_sign) (q := l0) (ci := 4) (as := []) (st := []) (id) cg_yX4_sign (by decide) rfl rfl ml_RX4_47 iv_yX4_sign pd_yX4_sign rfl ⟨by show _ ≤ _; simp only [mF, mL, mN, mi_X4_sign, mi_X4_expression]; omega, by show _ ≤ _; simp only [mF, mL, mN, mi_X4_sign, mi_X4_expression]; omega⟩ (Nat.le_of_ble_eq_true rfl) rfl dX4_expression_37 (T_X4_sign l E _ _ _) rfl ?_
  exact t_X4_expression_40 l E c0 s0 dd rc hrc k7 hk7 _ _ _ _ _ _ _
def f_X4_expression_135 (rc : Nat → Nat → Int32 → Mm → Prop → Int32 × Mm × Prop) (m : Mm) (o : Prop) : Int32 × Mm × Prop := ((0 : Int32), m, o)
set_option maxRecDepth 10000 in
theorem t_X4_expression_135 (l : Launch) (E : En) (c0 s0 : Nat) (dd : Nat) (rc : Nat → Nat → Int32 → Mm → Prop → Int32 × Mm × Prop) (hrc : RecOk l E dd rc) (m : Mm) (o : Prop) : Mh wI l E (mi_X4_expression (dd + 1)) c0 s0 135 [] [] m o (f_X4_expression_135 rc  m o) := by
  refine Mh_iconst (v := 0) dX4_expression_135 (by decide) ?_
  exact Mh_ret dX4_expression_136 rfl (fun _ => rk0Z) rfl
def f_X4_expression_20 (rc : Nat → Nat → Int32 → Mm → Prop → Int32 × Mm × Prop) (k7 : Nat → Int32 → Int32 → Int32 → Int32 → Mm → Prop → Int32 × Mm × Prop) (l0 : Nat) (l1 : Int32) (l2 : Int32) (l3 : Int32) (l4 : Int32) (y0 : Int32) (m : Mm) (o : Prop) : Int32 × Mm × Prop := if y0 = 0 then (f_X4_expression_135 rc  m o) else (if l3 = 0 then (f_X4_expression_36 rc k7 l0 l1 l2 l4 m o) else (bnd (F_X3_add (gR m l0 1) l3 (0 : Int32) m ((o ∧ (gT m l0 = 5 ∧ gR m l0 1 ≠ 0)) ∧ gT m (gR m l0 1) = 4)) (fun _ m1 o1 => f_X4_expression_36 rc k7 l0 l1 l2 l4 m1 o1)))
set_option maxRecDepth 10000 in
theorem t_X4_expression_20 (l : Launch) (E : En) (c0 s0 : Nat) (dd : Nat) (rc : Nat → Nat → Int32 → Mm → Prop → Int32 × Mm × Prop) (hrc : RecOk l E dd rc) (k7 : Nat → Int32 → Int32 → Int32 → Int32 → Mm → Prop → Int32 × Mm × Prop) (hk7 : ∀ (l0 : Nat) (l1 : Int32) (l2 : Int32) (l3 : Int32) (l4 : Int32) (m : Mm) (o : Prop), Mh wI l E (mi_X4_expression (dd + 1)) c0 s0 7 [(0, .ref l0), (1, .int l1), (2, .int l2), (3, .int l3), (4, .int l4)] [] m o (k7 l0 l1 l2 l3 l4 m o)) (l0 : Nat) (l1 : Int32) (l2 : Int32) (l3 : Int32) (l4 : Int32) (y0 : Int32) (m : Mm) (o : Prop) : Mh wI l E (mi_X4_expression (dd + 1)) c0 s0 20 [(0, .ref l0), (1, .int l1), (2, .int l2), (3, .int l3), (4, .int l4)] [.int y0] m o (f_X4_expression_20 rc k7 l0 l1 l2 l3 l4 y0 m o) := by
  refine Mh_if_eq (tgt := 135) dX4_expression_20 (by decide) rfl (fun _ => ?_) (fun _ => ?_)
  · refine Mh_sub (lv' := []) [] rfl ?_
    exact t_X4_expression_135 l E c0 s0 dd rc hrc  _ _
  · refine Mh_iload_n 3 rfl dX4_expression_23 ?_
    refine Mh_if_eq (tgt := 36) dX4_expression_24 (by decide) rfl (fun _ => ?_) (fun _ => ?_)
    · refine Mh_sub (lv' := [(0, .ref l0), (1, .int l1), (2, .int l2), (4, .int l4)]) [0, 1, 2, 4] rfl ?_
      exact t_X4_expression_36 l E c0 s0 dd rc hrc k7 hk7 _ _ _ _ _ _
    · refine Mh_aload_n 0 rfl dX4_expression_27 ?_
      refine Mh_gR fd_4_1 fl_RX4_15 dX4_expression_28 ?_
      refine Mh_iload_n 3 rfl dX4_expression_31 ?_
      refine Mh_iconst (v := 0) dX4_expression_32 (by decide) ?_
      refine Mh_cvU (N := mi_X3_add) (q := gR m l0 1) (ci := 3) (as := [.int l3, .int (0 : Int32)]) (st := []) (id) cg_yX3_add (by decide) rfl rfl ml_RX4_81 iv_yX3_add pd_yX3_add rfl ⟨by show _ ≤ _; simp only [mF, mL, mN, mi_X3_add, mi_X4_expression]; omega, by show _ ≤ _; simp only [mF, mL, mN, mi_X3_add, mi_X4_expression]; omega⟩ (Nat.le_of_ble_eq_true rfl) rfl dX4_expression_33 (T_X3_add l E _ _ _ _ _) rfl ?_
      refine Mh_sub (lv' := [(0, .ref l0), (1, .int l1), (2, .int l2), (4, .int l4)]) [0, 1, 2, 4] rfl ?_
      exact t_X4_expression_36 l E c0 s0 dd rc hrc k7 hk7 _ _ _ _ _ _
def f_X4_expression_7b (rc : Nat → Nat → Int32 → Mm → Prop → Int32 × Mm × Prop) (k7 : Nat → Int32 → Int32 → Int32 → Int32 → Mm → Prop → Int32 × Mm × Prop) (l0 : Nat) (l1 : Int32) (l2 : Int32) (l3 : Int32) (l4 : Int32) (m : Mm) (o : Prop) : Int32 × Mm × Prop := if (200 : Int32) ≤ l4 then (f_X4_expression_135 rc  m o) else (bnd (rc 3 l0 l1 m (o ∧ gT m l0 = 5)) (fun v1 m1 o1 => f_X4_expression_20 rc k7 l0 l1 l2 l3 l4 v1 m1 o1))
set_option maxRecDepth 10000 in
theorem t_X4_expression_7b (l : Launch) (E : En) (c0 s0 : Nat) (dd : Nat) (rc : Nat → Nat → Int32 → Mm → Prop → Int32 × Mm × Prop) (hrc : RecOk l E dd rc) (k7 : Nat → Int32 → Int32 → Int32 → Int32 → Mm → Prop → Int32 × Mm × Prop) (hk7 : ∀ (l0 : Nat) (l1 : Int32) (l2 : Int32) (l3 : Int32) (l4 : Int32) (m : Mm) (o : Prop), Mh wI l E (mi_X4_expression (dd + 1)) c0 s0 7 [(0, .ref l0), (1, .int l1), (2, .int l2), (3, .int l3), (4, .int l4)] [] m o (k7 l0 l1 l2 l3 l4 m o)) (l0 : Nat) (l1 : Int32) (l2 : Int32) (l3 : Int32) (l4 : Int32) (m : Mm) (o : Prop) : Mh wI l E (mi_X4_expression (dd + 1)) c0 s0 7 [(0, .ref l0), (1, .int l1), (2, .int l2), (3, .int l3), (4, .int l4)] [] m o (f_X4_expression_7b rc k7 l0 l1 l2 l3 l4 m o) := by
  refine Mh_iload 4 rfl dX4_expression_7 ?_
  refine Mh_sipush (v := 200) dX4_expression_9 (by decide) ?_
  refine Mh_icmp_ge (tgt := 135) dX4_expression_12 (by decide) rfl (fun _ => ?_) (fun _ => ?_)
  · refine Mh_sub (lv' := []) [] rfl ?_
    exact t_X4_expression_135 l E c0 s0 dd rc hrc  _ _
  · refine Mh_aload_n 0 rfl dX4_expression_15 ?_
    refine Mh_iload_n 1 rfl dX4_expression_16 ?_
    refine Mh_cvI (N := (mi_X4_factor dd)) (q := l0) (ci := 4) (as := [.int l1]) (st := []) (id) cg_yX4_factor (by decide) rfl rfl ml_RX4_84 iv_yX4_factor pd_yX4_factor rfl ⟨by show _ ≤ _; simp only [mF, mL, mN, mi_X4_factor, mi_X4_expression]; omega, by show _ ≤ _; simp only [mF, mL, mN, mi_X4_factor, mi_X4_expression]; omega⟩ (Nat.le_of_ble_eq_true rfl) rfl dX4_expression_17 (hrc.2.2.2 _ _ _ _) rfl ?_
    exact t_X4_expression_20 l E c0 s0 dd rc hrc k7 hk7 _ _ _ _ _ _ _ _
def f_X4_expression_7 (rc : Nat → Nat → Int32 → Mm → Prop → Int32 × Mm × Prop) : Nat → Nat → Int32 → Int32 → Int32 → Int32 → Mm → Prop → Int32 × Mm × Prop
  | 0, _, _, _, _, _, m, _ => (0, m, False)
  | n + 1, l0, l1, l2, l3, l4, m, o => f_X4_expression_7b rc (f_X4_expression_7 rc n) l0 l1 l2 l3 l4 m o
theorem t_X4_expression_7 (l : Launch) (E : En) (c0 s0 : Nat) (dd : Nat) (rc : Nat → Nat → Int32 → Mm → Prop → Int32 × Mm × Prop) (hrc : RecOk l E dd rc) : ∀ (n : Nat) (l0 : Nat) (l1 : Int32) (l2 : Int32) (l3 : Int32) (l4 : Int32) (m : Mm) (o : Prop), Mh wI l E (mi_X4_expression (dd + 1)) c0 s0 7 [(0, .ref l0), (1, .int l1), (2, .int l2), (3, .int l3), (4, .int l4)] [] m o (f_X4_expression_7 rc n l0 l1 l2 l3 l4 m o)
  | 0, _, _, _, _, _, _, _ => Mh_out rfl
  | n + 1, l0, l1, l2, l3, l4, m, o => t_X4_expression_7b l E c0 s0 dd rc hrc (f_X4_expression_7 rc n) (t_X4_expression_7 l E c0 s0 dd rc hrc n) l0 l1 l2 l3 l4 m o
def f_X4_expression_0 (rc : Nat → Nat → Int32 → Mm → Prop → Int32 × Mm × Prop) (l0 : Nat) (l1 : Int32) (m : Mm) (o : Prop) : Int32 × Mm × Prop := f_X4_expression_7 rc 1000 l0 l1 (0 : Int32) (0 : Int32) (0 : Int32) m o
set_option maxRecDepth 10000 in
theorem t_X4_expression_0 (l : Launch) (E : En) (c0 s0 : Nat) (dd : Nat) (rc : Nat → Nat → Int32 → Mm → Prop → Int32 × Mm × Prop) (hrc : RecOk l E dd rc) (l0 : Nat) (l1 : Int32) (m : Mm) (o : Prop) : Mh wI l E (mi_X4_expression (dd + 1)) c0 s0 0 [(0, .ref l0), (1, .int l1)] [] m o (f_X4_expression_0 rc l0 l1 m o) := by
  refine Mh_iconst (v := 0) dX4_expression_0 (by decide) ?_
  refine Mh_istore_n (lv' := [(2, .int (0 : Int32)), (0, .ref l0), (1, .int l1)]) dX4_expression_1 (Nat.le_of_ble_eq_true rfl) rfl ?_
  refine Mh_iconst (v := 0) dX4_expression_2 (by decide) ?_
  refine Mh_istore_n (lv' := [(3, .int (0 : Int32)), (2, .int (0 : Int32)), (0, .ref l0), (1, .int l1)]) dX4_expression_3 (Nat.le_of_ble_eq_true rfl) rfl ?_
  refine Mh_iconst (v := 0) dX4_expression_4 (by decide) ?_
  refine Mh_istore (lv' := [(4, .int (0 : Int32)), (3, .int (0 : Int32)), (2, .int (0 : Int32)), (0, .ref l0), (1, .int l1)]) dX4_expression_5 (Nat.le_of_ble_eq_true rfl) rfl ?_
  refine Mh_sub (lv' := [(0, .ref l0), (1, .int l1), (2, .int (0 : Int32)), (3, .int (0 : Int32)), (4, .int (0 : Int32))]) [3, 4, 2, 1, 0] rfl ?_
  exact t_X4_expression_7 l E c0 s0 dd rc hrc _ _ _ _ _ _ _ _
def G_X4_expression (rc : Nat → Nat → Int32 → Mm → Prop → Int32 × Mm × Prop) (a0 : Nat) (a1 : Int32) (m : Mm) (o : Prop) : Int32 × Mm × Prop := f_X4_expression_0 rc a0 a1 m o
theorem U_X4_expression (l : Launch) (E : En) (dd : Nat) (rc : Nat → Nat → Int32 → Mm → Prop → Int32 × Mm × Prop) (hrc : RecOk l E dd rc) (a0 : Nat) (a1 : Int32) (m : Mm) (o : Prop) : Mt wI l E yX4_expression (mi_X4_expression (dd + 1)) [.ref a0, .int a1] m o (G_X4_expression rc a0 a1 m o) :=
  Mt_I (by decide) rfl rfl rfl (Nat.le_of_ble_eq_true rfl) rfl (.inr (.inl rfl)) (t_X4_expression_0 l E _ _ dd rc hrc _ _ _ _)
def f_X4_factor_22 (rc : Nat → Nat → Int32 → Mm → Prop → Int32 × Mm × Prop) (y0 : Int32) (m : Mm) (o : Prop) : Int32 × Mm × Prop := (y0, m, o ∧ (y0 = 0 ∨ y0 = 1))
set_option maxRecDepth 10000 in
theorem t_X4_factor_22 (l : Launch) (E : En) (c0 s0 : Nat) (dd : Nat) (rc : Nat → Nat → Int32 → Mm → Prop → Int32 × Mm × Prop) (hrc : RecOk l E dd rc) (y0 : Int32) (m : Mm) (o : Prop) : Mh wI l E (mi_X4_factor (dd + 1)) c0 s0 22 [] [.int y0] m o (f_X4_factor_22 rc y0 m o) := by
  exact Mh_retZ dX4_factor_22 (.inl rfl) rfl
def f_X4_factor_57 (rc : Nat → Nat → Int32 → Mm → Prop → Int32 × Mm × Prop) (y0 : Int32) (m : Mm) (o : Prop) : Int32 × Mm × Prop := (y0, m, o ∧ (y0 = 0 ∨ y0 = 1))
set_option maxRecDepth 10000 in
theorem t_X4_factor_57 (l : Launch) (E : En) (c0 s0 : Nat) (dd : Nat) (rc : Nat → Nat → Int32 → Mm → Prop → Int32 × Mm × Prop) (hrc : RecOk l E dd rc) (y0 : Int32) (m : Mm) (o : Prop) : Mh wI l E (mi_X4_factor (dd + 1)) c0 s0 57 [] [.int y0] m o (f_X4_factor_57 rc y0 m o) := by
  exact Mh_retZ dX4_factor_57 (.inl rfl) rfl
def f_X4_factor_56 (rc : Nat → Nat → Int32 → Mm → Prop → Int32 × Mm × Prop) (m : Mm) (o : Prop) : Int32 × Mm × Prop := f_X4_factor_57 rc (0 : Int32) m o
set_option maxRecDepth 10000 in
theorem t_X4_factor_56 (l : Launch) (E : En) (c0 s0 : Nat) (dd : Nat) (rc : Nat → Nat → Int32 → Mm → Prop → Int32 × Mm × Prop) (hrc : RecOk l E dd rc) (m : Mm) (o : Prop) : Mh wI l E (mi_X4_factor (dd + 1)) c0 s0 56 [] [] m o (f_X4_factor_56 rc  m o) := by
  refine Mh_iconst (v := 0) dX4_factor_56 (by decide) ?_
  exact t_X4_factor_57 l E c0 s0 dd rc hrc _ _ _
def f_X4_factor_49 (rc : Nat → Nat → Int32 → Mm → Prop → Int32 × Mm × Prop) (y0 : Int32) (m : Mm) (o : Prop) : Int32 × Mm × Prop := if y0 = 0 then (f_X4_factor_56 rc  m o) else (f_X4_factor_57 rc (1 : Int32) m o)
set_option maxRecDepth 10000 in
theorem t_X4_factor_49 (l : Launch) (E : En) (c0 s0 : Nat) (dd : Nat) (rc : Nat → Nat → Int32 → Mm → Prop → Int32 × Mm × Prop) (hrc : RecOk l E dd rc) (y0 : Int32) (m : Mm) (o : Prop) : Mh wI l E (mi_X4_factor (dd + 1)) c0 s0 49 [] [.int y0] m o (f_X4_factor_49 rc y0 m o) := by
  refine Mh_if_eq (tgt := 56) dX4_factor_49 (by decide) rfl (fun _ => ?_) (fun _ => ?_)
  · exact t_X4_factor_56 l E c0 s0 dd rc hrc  _ _
  · refine Mh_iconst (v := 1) dX4_factor_52 (by decide) ?_
    refine Mh_goto (tgt := 57) dX4_factor_53 (by decide) ?_
    exact t_X4_factor_57 l E c0 s0 dd rc hrc _ _ _
def f_X4_factor_40 (rc : Nat → Nat → Int32 → Mm → Prop → Int32 × Mm × Prop) (l0 : Nat) (y0 : Int32) (m : Mm) (o : Prop) : Int32 × Mm × Prop := if y0 = 0 then (f_X4_factor_56 rc  m o) else (bnd (F_X4_expect l0 (93 : Int32) m (o ∧ gT m l0 = 5)) (fun v1 m1 o1 => f_X4_factor_49 rc v1 m1 o1))
set_option maxRecDepth 10000 in
theorem t_X4_factor_40 (l : Launch) (E : En) (c0 s0 : Nat) (dd : Nat) (rc : Nat → Nat → Int32 → Mm → Prop → Int32 × Mm × Prop) (hrc : RecOk l E dd rc) (l0 : Nat) (y0 : Int32) (m : Mm) (o : Prop) : Mh wI l E (mi_X4_factor (dd + 1)) c0 s0 40 [(0, .ref l0)] [.int y0] m o (f_X4_factor_40 rc l0 y0 m o) := by
  refine Mh_if_eq (tgt := 56) dX4_factor_40 (by decide) rfl (fun _ => ?_) (fun _ => ?_)
  · refine Mh_sub (lv' := []) [] rfl ?_
    exact t_X4_factor_56 l E c0 s0 dd rc hrc  _ _
  · refine Mh_aload_n 0 rfl dX4_factor_43 ?_
    refine Mh_bipush (v := 93) dX4_factor_44 (by decide) ?_
    refine Mh_cvI (N := mi_X4_expect) (q := l0) (ci := 4) (as := [.int (93 : Int32)]) (st := []) (id) cg_yX4_expect (by decide) rfl rfl ml_RX4_58 iv_yX4_expect pd_yX4_expect rfl ⟨by show _ ≤ _; simp only [mF, mL, mN, mi_X4_expect, mi_X4_factor]; omega, by show _ ≤ _; simp only [mF, mL, mN, mi_X4_expect, mi_X4_factor]; omega⟩ (Nat.le_of_ble_eq_true rfl) rfl dX4_factor_46 (T_X4_expect l E _ _ _ _) rfl ?_
    refine Mh_sub (lv' := []) [] rfl ?_
    exact t_X4_factor_49 l E c0 s0 dd rc hrc _ _ _
def f_X4_factor_33 (rc : Nat → Nat → Int32 → Mm → Prop → Int32 × Mm × Prop) (l0 : Nat) (l1 : Int32) (m : Mm) (o : Prop) : Int32 × Mm × Prop := bnd (rc 2 l0 (l1 + (1 : Int32)) m (o ∧ gT m l0 = 5)) (fun v1 m1 o1 => f_X4_factor_40 rc l0 v1 m1 o1)
set_option maxRecDepth 10000 in
theorem t_X4_factor_33 (l : Launch) (E : En) (c0 s0 : Nat) (dd : Nat) (rc : Nat → Nat → Int32 → Mm → Prop → Int32 × Mm × Prop) (hrc : RecOk l E dd rc) (l0 : Nat) (l1 : Int32) (m : Mm) (o : Prop) : Mh wI l E (mi_X4_factor (dd + 1)) c0 s0 33 [(0, .ref l0), (1, .int l1)] [] m o (f_X4_factor_33 rc l0 l1 m o) := by
  refine Mh_aload_n 0 rfl dX4_factor_33 ?_
  refine Mh_iload_n 1 rfl dX4_factor_34 ?_
  refine Mh_iconst (v := 1) dX4_factor_35 (by decide) ?_
  refine Mh_iadd dX4_factor_36 ?_
  refine Mh_cvI (N := (mi_X4_expression dd)) (q := l0) (ci := 4) (as := [.int (l1 + (1 : Int32))]) (st := []) (id) cg_yX4_expression (by decide) rfl rfl ml_RX4_64 iv_yX4_expression pd_yX4_expression rfl ⟨by show _ ≤ _; simp only [mF, mL, mN, mi_X4_expression, mi_X4_factor]; omega, by show _ ≤ _; simp only [mF, mL, mN, mi_X4_expression, mi_X4_factor]; omega⟩ (Nat.le_of_ble_eq_true rfl) rfl dX4_factor_37 (hrc.2.2.1 _ _ _ _) rfl ?_
  refine Mh_sub (lv' := [(0, .ref l0)]) [0] rfl ?_
  exact t_X4_factor_40 l E c0 s0 dd rc hrc _ _ _ _
def f_X4_factor_69 (rc : Nat → Nat → Int32 → Mm → Prop → Int32 × Mm × Prop) (y0 : Int32) (m : Mm) (o : Prop) : Int32 × Mm × Prop := (y0, m, o ∧ (y0 = 0 ∨ y0 = 1))
set_option maxRecDepth 10000 in
theorem t_X4_factor_69 (l : Launch) (E : En) (c0 s0 : Nat) (dd : Nat) (rc : Nat → Nat → Int32 → Mm → Prop → Int32 × Mm × Prop) (hrc : RecOk l E dd rc) (y0 : Int32) (m : Mm) (o : Prop) : Mh wI l E (mi_X4_factor (dd + 1)) c0 s0 69 [] [.int y0] m o (f_X4_factor_69 rc y0 m o) := by
  exact Mh_retZ dX4_factor_69 (.inl rfl) rfl
def f_X4_factor_96 (rc : Nat → Nat → Int32 → Mm → Prop → Int32 × Mm × Prop) (y0 : Int32) (m : Mm) (o : Prop) : Int32 × Mm × Prop := (y0, m, o ∧ (y0 = 0 ∨ y0 = 1))
set_option maxRecDepth 10000 in
theorem t_X4_factor_96 (l : Launch) (E : En) (c0 s0 : Nat) (dd : Nat) (rc : Nat → Nat → Int32 → Mm → Prop → Int32 × Mm × Prop) (hrc : RecOk l E dd rc) (y0 : Int32) (m : Mm) (o : Prop) : Mh wI l E (mi_X4_factor (dd + 1)) c0 s0 96 [] [.int y0] m o (f_X4_factor_96 rc y0 m o) := by
  exact Mh_retZ dX4_factor_96 (.inl rfl) rfl
def f_X4_factor_116 (rc : Nat → Nat → Int32 → Mm → Prop → Int32 × Mm × Prop) (m : Mm) (o : Prop) : Int32 × Mm × Prop := ((1 : Int32), m, o)
set_option maxRecDepth 10000 in
theorem t_X4_factor_116 (l : Launch) (E : En) (c0 s0 : Nat) (dd : Nat) (rc : Nat → Nat → Int32 → Mm → Prop → Int32 × Mm × Prop) (hrc : RecOk l E dd rc) (m : Mm) (o : Prop) : Mh wI l E (mi_X4_factor (dd + 1)) c0 s0 116 [] [] m o (f_X4_factor_116 rc  m o) := by
  refine Mh_iconst (v := 1) dX4_factor_116 (by decide) ?_
  exact Mh_ret dX4_factor_117 rfl (fun _ => rk1Z) rfl
def f_X4_factor_107 (rc : Nat → Nat → Int32 → Mm → Prop → Int32 × Mm × Prop) (l0 : Nat) (l3 : Int32) (m : Mm) (o : Prop) : Int32 × Mm × Prop := bnd (F_X3_add (gR m l0 1) (2 : Int32) l3 m ((o ∧ (gT m l0 = 5 ∧ gR m l0 1 ≠ 0)) ∧ gT m (gR m l0 1) = 4)) (fun _ m1 o1 => f_X4_factor_116 rc  m1 o1)
set_option maxRecDepth 10000 in
theorem t_X4_factor_107 (l : Launch) (E : En) (c0 s0 : Nat) (dd : Nat) (rc : Nat → Nat → Int32 → Mm → Prop → Int32 × Mm × Prop) (hrc : RecOk l E dd rc) (l0 : Nat) (l3 : Int32) (m : Mm) (o : Prop) : Mh wI l E (mi_X4_factor (dd + 1)) c0 s0 107 [(0, .ref l0), (3, .int l3)] [] m o (f_X4_factor_107 rc l0 l3 m o) := by
  refine Mh_aload_n 0 rfl dX4_factor_107 ?_
  refine Mh_gR fd_4_1 fl_RX4_15 dX4_factor_108 ?_
  refine Mh_iconst (v := 2) dX4_factor_111 (by decide) ?_
  refine Mh_iload_n 1 rfl dX4_factor_112 ?_
  refine Mh_cvU (N := mi_X3_add) (q := gR m l0 1) (ci := 3) (as := [.int (2 : Int32), .int l3]) (st := []) (id) cg_yX3_add (by decide) rfl rfl ml_RX4_81 iv_yX3_add pd_yX3_add rfl ⟨by show _ ≤ _; simp only [mF, mL, mN, mi_X3_add, mi_X4_factor]; omega, by show _ ≤ _; simp only [mF, mL, mN, mi_X3_add, mi_X4_factor]; omega⟩ (Nat.le_of_ble_eq_true rfl) rfl dX4_factor_113 (T_X3_add l E _ _ _ _ _) rfl ?_
  refine Mh_sub (lv' := []) [] rfl ?_
  exact t_X4_factor_116 l E c0 s0 dd rc hrc  _ _
def f_X4_factor_86 (rc : Nat → Nat → Int32 → Mm → Prop → Int32 × Mm × Prop) (l0 : Nat) (y0 : Int32) (m : Mm) (o : Prop) : Int32 × Mm × Prop := if 0 ≤ y0 then (f_X4_factor_107 rc l0 y0 (sI m l0 3 ((gI m l0 3) + (1 : Int32))) (o ∧ gT m l0 = 5)) else (bnd (F_X4_fail l0 (1 : Int32) m (o ∧ gT m l0 = 5)) (fun v1 m1 o1 => f_X4_factor_96 rc v1 m1 o1))
set_option maxRecDepth 10000 in
theorem t_X4_factor_86 (l : Launch) (E : En) (c0 s0 : Nat) (dd : Nat) (rc : Nat → Nat → Int32 → Mm → Prop → Int32 × Mm × Prop) (hrc : RecOk l E dd rc) (l0 : Nat) (y0 : Int32) (m : Mm) (o : Prop) : Mh wI l E (mi_X4_factor (dd + 1)) c0 s0 86 [(0, .ref l0)] [.int y0] m o (f_X4_factor_86 rc l0 y0 m o) := by
  refine Mh_istore_n (lv' := [(3, .int y0), (0, .ref l0)]) dX4_factor_86 (Nat.le_of_ble_eq_true rfl) rfl ?_
  refine Mh_iload_n 0 rfl dX4_factor_87 ?_
  refine Mh_if_ge (tgt := 97) dX4_factor_88 (by decide) rfl (fun _ => ?_) (fun _ => ?_)
  · refine Mh_aload_n 1 rfl dX4_factor_97 ?_
    refine Mh_dup dX4_factor_98 rfl ?_
    refine Mh_gI fd_4_3 fl_RX4_28 dX4_factor_99 ?_
    refine Mh_iconst (v := 1) dX4_factor_102 (by decide) ?_
    refine Mh_iadd dX4_factor_103 ?_
    refine Mh_pI fd_4_3 ft_4 rfl fl_RX4_28 rfl dX4_factor_104 ?_
    refine Mh_ok (fun h => h.2) ?_
    refine Mh_sub (lv' := [(0, .ref l0), (3, .int y0)]) [1, 0] rfl ?_
    exact t_X4_factor_107 l E c0 s0 dd rc hrc _ _ _ _
  · refine Mh_aload_n 1 rfl dX4_factor_91 ?_
    refine Mh_iconst (v := 1) dX4_factor_92 (by decide) ?_
    refine Mh_cvI (N := mi_X4_fail) (q := l0) (ci := 4) (as := [.int (1 : Int32)]) (st := []) (id) cg_yX4_fail (by decide) rfl rfl ml_RX4_51 iv_yX4_fail pd_yX4_fail rfl ⟨by show _ ≤ _; simp only [mF, mL, mN, mi_X4_fail, mi_X4_factor]; omega, by show _ ≤ _; simp only [mF, mL, mN, mi_X4_fail, mi_X4_factor]; omega⟩ (Nat.le_of_ble_eq_true rfl) rfl dX4_factor_93 (T_X4_fail l E _ _ _ _) rfl ?_
    refine Mh_sub (lv' := []) [] rfl ?_
    exact t_X4_factor_96 l E c0 s0 dd rc hrc _ _ _
def f_X4_factor_62 (rc : Nat → Nat → Int32 → Mm → Prop → Int32 × Mm × Prop) (l0 : Nat) (l2 : Int32) (y0 : Int32) (m : Mm) (o : Prop) : Int32 × Mm × Prop := if y0 = 0 then (if l2 = (-1 : Int32) then (f_X4_factor_86 rc l0 (-1 : Int32) m o) else (bnd (F_J0_indexOf_0f7a4 (UInt32.toInt32 (Int32.toUInt32 l2 % 65536)) m o) (fun v1 m1 o1 => f_X4_factor_86 rc l0 v1 m1 o1))) else (bnd (F_X4_number l0 m (o ∧ gT m l0 = 5)) (fun v1 m1 o1 => f_X4_factor_69 rc v1 m1 o1))
set_option maxRecDepth 10000 in
theorem t_X4_factor_62 (l : Launch) (E : En) (c0 s0 : Nat) (dd : Nat) (rc : Nat → Nat → Int32 → Mm → Prop → Int32 × Mm × Prop) (hrc : RecOk l E dd rc) (l0 : Nat) (l2 : Int32) (y0 : Int32) (m : Mm) (o : Prop) : Mh wI l E (mi_X4_factor (dd + 1)) c0 s0 62 [(0, .ref l0), (2, .int l2)] [.int y0] m o (f_X4_factor_62 rc l0 l2 y0 m o) := by
  refine Mh_if_eq (tgt := 70) dX4_factor_62 (by decide) rfl (fun _ => ?_) (fun _ => ?_)
  · refine Mh_iload_n 1 rfl dX4_factor_70 ?_
    refine Mh_iconst (v := (-1)) dX4_factor_71 (by decide) ?_
    refine Mh_icmp_ne (tgt := 79) dX4_factor_72 (by decide) rfl (fun _ => ?_) (fun _ => ?_)
    · refine Mh_ldS rfl dX4_factor_79 ?_
      refine Mh_iload_n 1 rfl dX4_factor_81 ?_
      refine Mh_i2c dX4_factor_82 ?_
      refine Mh_cvSI (N := mi_J0_indexOf_0f7a4) (as := [.int (UInt32.toInt32 (Int32.toUInt32 l2 % 65536))]) (st := []) cg_yJ0_indexOf_0f7a4 rfl ml_RX4_95 iv_yJ0_indexOf_0f7a4 pd_yJ0_indexOf_0f7a4 rfl ⟨by show _ ≤ _; simp only [mF, mL, mN, mi_J0_indexOf_0f7a4, mi_X4_factor]; omega, by show _ ≤ _; simp only [mF, mL, mN, mi_J0_indexOf_0f7a4, mi_X4_factor]; omega⟩ (Nat.le_of_ble_eq_true rfl) rfl dX4_factor_83 (T_J0_indexOf_0f7a4 l E _ _ _) rfl ?_
      refine Mh_sub (lv' := [(0, .ref l0)]) [0] rfl ?_
      exact t_X4_factor_86 l E c0 s0 dd rc hrc _ _ _ _
    · refine Mh_iconst (v := (-1)) dX4_factor_75 (by decide) ?_
      refine Mh_goto (tgt := 86) dX4_factor_76 (by decide) ?_
      refine Mh_sub (lv' := [(0, .ref l0)]) [0] rfl ?_
      exact t_X4_factor_86 l E c0 s0 dd rc hrc _ _ _ _
  · refine Mh_aload_n 0 rfl dX4_factor_65 ?_
    refine Mh_cvI (N := mi_X4_number) (q := l0) (ci := 4) (as := []) (st := []) (id) cg_yX4_number (by decide) rfl rfl ml_RX4_90 iv_yX4_number pd_yX4_number rfl ⟨by show _ ≤ _; simp only [mF, mL, mN, mi_X4_number, mi_X4_factor]; omega, by show _ ≤ _; simp only [mF, mL, mN, mi_X4_number, mi_X4_factor]; omega⟩ (Nat.le_of_ble_eq_true rfl) rfl dX4_factor_66 (T_X4_number l E _ _ _) rfl ?_
    refine Mh_sub (lv' := []) [] rfl ?_
    exact t_X4_factor_69 l E c0 s0 dd rc hrc _ _ _
def f_X4_factor_4 (rc : Nat → Nat → Int32 → Mm → Prop → Int32 × Mm × Prop) (l0 : Nat) (l1 : Int32) (y0 : Int32) (m : Mm) (o : Prop) : Int32 × Mm × Prop := if y0 = (91 : Int32) then (if l1 < (6 : Int32) then (f_X4_factor_33 rc l0 l1 (sI m l0 3 ((gI m l0 3) + (1 : Int32))) (o ∧ gT m l0 = 5)) else (bnd (F_X4_fail l0 (5 : Int32) m (o ∧ gT m l0 = 5)) (fun v1 m1 o1 => f_X4_factor_22 rc v1 m1 o1))) else (bnd (F_X4_isDigit y0 m o) (fun v1 m1 o1 => f_X4_factor_62 rc l0 y0 v1 m1 o1))
set_option maxRecDepth 10000 in
theorem t_X4_factor_4 (l : Launch) (E : En) (c0 s0 : Nat) (dd : Nat) (rc : Nat → Nat → Int32 → Mm → Prop → Int32 × Mm × Prop) (hrc : RecOk l E dd rc) (l0 : Nat) (l1 : Int32) (y0 : Int32) (m : Mm) (o : Prop) : Mh wI l E (mi_X4_factor (dd + 1)) c0 s0 4 [(0, .ref l0), (1, .int l1)] [.int y0] m o (f_X4_factor_4 rc l0 l1 y0 m o) := by
  refine Mh_istore_n (lv' := [(2, .int y0), (0, .ref l0), (1, .int l1)]) dX4_factor_4 (Nat.le_of_ble_eq_true rfl) rfl ?_
  refine Mh_iload_n 0 rfl dX4_factor_5 ?_
  refine Mh_bipush (v := 91) dX4_factor_6 (by decide) ?_
  refine Mh_icmp_ne (tgt := 58) dX4_factor_8 (by decide) rfl (fun _ => ?_) (fun _ => ?_)
  · refine Mh_iload_n 0 rfl dX4_factor_58 ?_
    refine Mh_csI (N := mi_X4_isDigit) (as := [.int y0]) (st := []) cg_yX4_isDigit (.inl ml_RX4_87) sv_yX4_isDigit pd_yX4_isDigit rfl ⟨by show _ ≤ _; simp only [mF, mL, mN, mi_X4_isDigit, mi_X4_factor]; omega, by show _ ≤ _; simp only [mF, mL, mN, mi_X4_isDigit, mi_X4_factor]; omega⟩ (Nat.le_of_ble_eq_true rfl) rfl dX4_factor_59 (T_X4_isDigit l E _ _ _) rfl ?_
    refine Mh_sub (lv' := [(0, .ref l0), (2, .int y0)]) [1, 0] rfl ?_
    exact t_X4_factor_62 l E c0 s0 dd rc hrc _ _ _ _ _
  · refine Mh_iload_n 2 rfl dX4_factor_11 ?_
    refine Mh_bipush (v := 6) dX4_factor_12 (by decide) ?_
    refine Mh_icmp_lt (tgt := 23) dX4_factor_14 (by decide) rfl (fun _ => ?_) (fun _ => ?_)
    · refine Mh_aload_n 1 rfl dX4_factor_23 ?_
      refine Mh_dup dX4_factor_24 rfl ?_
      refine Mh_gI fd_4_3 fl_RX4_28 dX4_factor_25 ?_
      refine Mh_iconst (v := 1) dX4_factor_28 (by decide) ?_
      refine Mh_iadd dX4_factor_29 ?_
      refine Mh_pI fd_4_3 ft_4 rfl fl_RX4_28 rfl dX4_factor_30 ?_
      refine Mh_ok (fun h => h.2) ?_
      refine Mh_sub (lv' := [(0, .ref l0), (1, .int l1)]) [1, 2] rfl ?_
      exact t_X4_factor_33 l E c0 s0 dd rc hrc _ _ _ _
    · refine Mh_aload_n 1 rfl dX4_factor_17 ?_
      refine Mh_iconst (v := 5) dX4_factor_18 (by decide) ?_
      refine Mh_cvI (N := mi_X4_fail) (q := l0) (ci := 4) (as := [.int (5 : Int32)]) (st := []) (id) cg_yX4_fail (by decide) rfl rfl ml_RX4_51 iv_yX4_fail pd_yX4_fail rfl ⟨by show _ ≤ _; simp only [mF, mL, mN, mi_X4_fail, mi_X4_factor]; omega, by show _ ≤ _; simp only [mF, mL, mN, mi_X4_fail, mi_X4_factor]; omega⟩ (Nat.le_of_ble_eq_true rfl) rfl dX4_factor_19 (T_X4_fail l E _ _ _ _) rfl ?_
      refine Mh_sub (lv' := []) [] rfl ?_
      exact t_X4_factor_22 l E c0 s0 dd rc hrc _ _ _
def f_X4_factor_0 (rc : Nat → Nat → Int32 → Mm → Prop → Int32 × Mm × Prop) (l0 : Nat) (l1 : Int32) (m : Mm) (o : Prop) : Int32 × Mm × Prop := bnd (F_X4_sign l0 m (o ∧ gT m l0 = 5)) (fun v1 m1 o1 => f_X4_factor_4 rc l0 l1 v1 m1 o1)
set_option maxRecDepth 10000 in
theorem t_X4_factor_0 (l : Launch) (E : En) (c0 s0 : Nat) (dd : Nat) (rc : Nat → Nat → Int32 → Mm → Prop → Int32 × Mm × Prop) (hrc : RecOk l E dd rc) (l0 : Nat) (l1 : Int32) (m : Mm) (o : Prop) : Mh wI l E (mi_X4_factor (dd + 1)) c0 s0 0 [(0, .ref l0), (1, .int l1)] [] m o (f_X4_factor_0 rc l0 l1 m o) := by
  refine Mh_aload_n 0 rfl dX4_factor_0 ?_
  refine Mh_cvI (N := mi_X4_sign) (q := l0) (ci := 4) (as := []) (st := []) (id) cg_yX4_sign (by decide) rfl rfl ml_RX4_47 iv_yX4_sign pd_yX4_sign rfl ⟨by show _ ≤ _; simp only [mF, mL, mN, mi_X4_sign, mi_X4_factor]; omega, by show _ ≤ _; simp only [mF, mL, mN, mi_X4_sign, mi_X4_factor]; omega⟩ (Nat.le_of_ble_eq_true rfl) rfl dX4_factor_1 (T_X4_sign l E _ _ _) rfl ?_
  exact t_X4_factor_4 l E c0 s0 dd rc hrc _ _ _ _ _
def G_X4_factor (rc : Nat → Nat → Int32 → Mm → Prop → Int32 × Mm × Prop) (a0 : Nat) (a1 : Int32) (m : Mm) (o : Prop) : Int32 × Mm × Prop := f_X4_factor_0 rc a0 a1 m o
theorem U_X4_factor (l : Launch) (E : En) (dd : Nat) (rc : Nat → Nat → Int32 → Mm → Prop → Int32 × Mm × Prop) (hrc : RecOk l E dd rc) (a0 : Nat) (a1 : Int32) (m : Mm) (o : Prop) : Mt wI l E yX4_factor (mi_X4_factor (dd + 1)) [.ref a0, .int a1] m o (G_X4_factor rc a0 a1 m o) :=
  Mt_I (by decide) rfl rfl rfl (Nat.le_of_ble_eq_true rfl) rfl (.inr (.inl rfl)) (t_X4_factor_0 l E _ _ dd rc hrc _ _ _ _)
def FR : Nat → Nat → Nat → Int32 → Mm → Prop → Int32 × Mm × Prop
  | 0, _, _, _, m, _ => (0, m, False)
  | d + 1, i, a, b, m, o => if i = 0 then G_X4_condition (FR d) a b m o else if i = 1 then G_X4_piece (FR d) a b m o else if i = 2 then G_X4_expression (FR d) a b m o else G_X4_factor (FR d) a b m o
theorem FR_0 (d a : Nat) (b : Int32) (m : Mm) (o : Prop) : FR (d + 1) 0 a b m o = G_X4_condition (FR d) a b m o := by
  rw [FR]
  rw [if_pos rfl]
theorem FR_1 (d a : Nat) (b : Int32) (m : Mm) (o : Prop) : FR (d + 1) 1 a b m o = G_X4_piece (FR d) a b m o := by
  rw [FR]
  rw [if_neg (by decide)]
  rw [if_pos rfl]
theorem FR_2 (d a : Nat) (b : Int32) (m : Mm) (o : Prop) : FR (d + 1) 2 a b m o = G_X4_expression (FR d) a b m o := by
  rw [FR]
  rw [if_neg (by decide)]
  rw [if_neg (by decide)]
  rw [if_pos rfl]
theorem FR_3 (d a : Nat) (b : Int32) (m : Mm) (o : Prop) : FR (d + 1) 3 a b m o = G_X4_factor (FR d) a b m o := by
  rw [FR]
  rw [if_neg (by decide)]
  rw [if_neg (by decide)]
  rw [if_neg (by decide)]
theorem T_rec (l : Launch) (E : En) (d : Nat) : RecOk l E d (FR d) := by
  induction d with
  | zero => exact ⟨fun _ _ _ _ => by rw [FR]; exact Mt_out, fun _ _ _ _ => by rw [FR]; exact Mt_out, fun _ _ _ _ => by rw [FR]; exact Mt_out, fun _ _ _ _ => by rw [FR]; exact Mt_out⟩
  | succ d ih => exact ⟨fun a b m o => by rw [FR_0]; exact U_X4_condition l E d (FR d) ih a b m o, fun a b m o => by rw [FR_1]; exact U_X4_piece l E d (FR d) ih a b m o, fun a b m o => by rw [FR_2]; exact U_X4_expression l E d (FR d) ih a b m o, fun a b m o => by rw [FR_3]; exact U_X4_factor l E d (FR d) ih a b m o⟩
