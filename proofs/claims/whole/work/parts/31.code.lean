def f_X4_clause_58 (m : Mm) (o : Prop) : Int32 × Mm × Prop := ((0 : Int32), m, o)
set_option maxRecDepth 10000 in
theorem t_X4_clause_58 (l : Launch) (E : En) (c0 s0 : Nat) (m : Mm) (o : Prop) : Mh wI l E mi_X4_clause c0 s0 58 [] [] m o (f_X4_clause_58  m o) := by
  refine Mh_iconst (v := 0) dX4_clause_58 (by decide) ?_
  exact Mh_ret dX4_clause_59 rfl (fun _ => rk0Z) rfl
def f_X4_clause_70 (m : Mm) (o : Prop) : Int32 × Mm × Prop := ((1 : Int32), m, o)
set_option maxRecDepth 10000 in
theorem t_X4_clause_70 (l : Launch) (E : En) (c0 s0 : Nat) (m : Mm) (o : Prop) : Mh wI l E mi_X4_clause c0 s0 70 [] [] m o (f_X4_clause_70  m o) := by
  refine Mh_iconst (v := 1) dX4_clause_70 (by decide) ?_
  exact Mh_ret dX4_clause_71 rfl (fun _ => rk1Z) rfl
def f_X4_clause_55 (l0 : Nat) (l1 : Int32) (l2 : Int32) (l3 : Int32) (y0 : Int32) (m : Mm) (o : Prop) : Int32 × Mm × Prop := if y0 = 0 then (f_X4_clause_58  m o) else (bnd (F_X3_addClause (gR m l0 1) l1 l2 l3 m ((o ∧ (gT m l0 = 5 ∧ gR m l0 1 ≠ 0)) ∧ gT m (gR m l0 1) = 4)) (fun _ m1 o1 => f_X4_clause_70  m1 o1))
set_option maxRecDepth 10000 in
theorem t_X4_clause_55 (l : Launch) (E : En) (c0 s0 : Nat) (l0 : Nat) (l1 : Int32) (l2 : Int32) (l3 : Int32) (y0 : Int32) (m : Mm) (o : Prop) : Mh wI l E mi_X4_clause c0 s0 55 [(0, .ref l0), (1, .int l1), (2, .int l2), (3, .int l3)] [.int y0] m o (f_X4_clause_55 l0 l1 l2 l3 y0 m o) := by
  refine Mh_if_ne (tgt := 60) dX4_clause_55 (by decide) rfl (fun _ => ?_) (fun _ => ?_)
  · refine Mh_aload_n 0 rfl dX4_clause_60 ?_
    refine Mh_gR fd_4_1 fl_RX4_15 dX4_clause_61 ?_
    refine Mh_iload_n 1 rfl dX4_clause_64 ?_
    refine Mh_iload_n 2 rfl dX4_clause_65 ?_
    refine Mh_iload_n 3 rfl dX4_clause_66 ?_
    refine Mh_cvU (N := mi_X3_addClause) (q := gR m l0 1) (ci := 3) (as := [.int l1, .int l2, .int l3]) (st := []) (id) cg_yX3_addClause (by decide) rfl rfl ml_RX4_70 iv_yX3_addClause pd_yX3_addClause rfl (by decide) (Nat.le_of_ble_eq_true rfl) rfl dX4_clause_67 (T_X3_addClause l E _ _ _ _ _ _) rfl ?_
    refine Mh_sub (lv' := []) [] rfl ?_
    exact t_X4_clause_70 l E c0 s0  _ _
  · refine Mh_sub (lv' := []) [] rfl ?_
    exact t_X4_clause_58 l E c0 s0  _ _
def f_X4_clause_46 (l0 : Nat) (l1 : Int32) (l2 : Int32) (l3 : Int32) (y0 : Int32) (m : Mm) (o : Prop) : Int32 × Mm × Prop := if y0 = 0 then (f_X4_clause_58  m o) else (bnd (F_X4_expect l0 (41 : Int32) m (o ∧ gT m l0 = 5)) (fun v1 m1 o1 => f_X4_clause_55 l0 l1 l2 l3 v1 m1 o1))
set_option maxRecDepth 10000 in
theorem t_X4_clause_46 (l : Launch) (E : En) (c0 s0 : Nat) (l0 : Nat) (l1 : Int32) (l2 : Int32) (l3 : Int32) (y0 : Int32) (m : Mm) (o : Prop) : Mh wI l E mi_X4_clause c0 s0 46 [(0, .ref l0), (1, .int l1), (2, .int l2), (3, .int l3)] [.int y0] m o (f_X4_clause_46 l0 l1 l2 l3 y0 m o) := by
  refine Mh_if_eq (tgt := 58) dX4_clause_46 (by decide) rfl (fun _ => ?_) (fun _ => ?_)
  · refine Mh_sub (lv' := []) [] rfl ?_
    exact t_X4_clause_58 l E c0 s0  _ _
  · refine Mh_aload_n 0 rfl dX4_clause_49 ?_
    refine Mh_bipush (v := 41) dX4_clause_50 (by decide) ?_
    refine Mh_cvI (N := mi_X4_expect) (q := l0) (ci := 4) (as := [.int (41 : Int32)]) (st := []) (id) cg_yX4_expect (by decide) rfl rfl ml_RX4_58 iv_yX4_expect pd_yX4_expect rfl (by decide) (Nat.le_of_ble_eq_true rfl) rfl dX4_clause_52 (T_X4_expect l E _ _ _ _) rfl ?_
    exact t_X4_clause_55 l E c0 s0 _ _ _ _ _ _ _
def f_X4_clause_38 (l0 : Nat) (l1 : Int32) (l2 : Int32) (l3 : Int32) (y0 : Int32) (m : Mm) (o : Prop) : Int32 × Mm × Prop := if y0 = 0 then (f_X4_clause_58  m o) else (bnd (FR 20 0 l0 (1 : Int32) m (o ∧ gT m l0 = 5)) (fun v1 m1 o1 => f_X4_clause_46 l0 l1 l2 l3 v1 m1 o1))
set_option maxRecDepth 10000 in
theorem t_X4_clause_38 (l : Launch) (E : En) (c0 s0 : Nat) (l0 : Nat) (l1 : Int32) (l2 : Int32) (l3 : Int32) (y0 : Int32) (m : Mm) (o : Prop) : Mh wI l E mi_X4_clause c0 s0 38 [(0, .ref l0), (1, .int l1), (2, .int l2), (3, .int l3)] [.int y0] m o (f_X4_clause_38 l0 l1 l2 l3 y0 m o) := by
  refine Mh_if_eq (tgt := 58) dX4_clause_38 (by decide) rfl (fun _ => ?_) (fun _ => ?_)
  · refine Mh_sub (lv' := []) [] rfl ?_
    exact t_X4_clause_58 l E c0 s0  _ _
  · refine Mh_aload_n 0 rfl dX4_clause_41 ?_
    refine Mh_iconst (v := 1) dX4_clause_42 (by decide) ?_
    refine Mh_cvI (N := (mi_X4_condition 20)) (q := l0) (ci := 4) (as := [.int (1 : Int32)]) (st := []) (id) cg_yX4_condition (by decide) rfl rfl ml_RX4_67 iv_yX4_condition pd_yX4_condition rfl (by decide) (Nat.le_of_ble_eq_true rfl) rfl dX4_clause_43 ((T_rec l E 20).1 _ _ _ _) rfl ?_
    exact t_X4_clause_46 l E c0 s0 _ _ _ _ _ _ _
def f_X4_clause_24 (l0 : Nat) (l1 : Int32) (l2 : Int32) (m : Mm) (o : Prop) : Int32 × Mm × Prop := bnd (F_X4_expect l0 (40 : Int32) m (((o ∧ (gT m l0 = 5 ∧ gR m l0 1 ≠ 0)) ∧ gT m (gR m l0 1) = 4) ∧ gT m l0 = 5)) (fun v1 m1 o1 => f_X4_clause_38 l0 l1 l2 (gI m (gR m l0 1) 9) v1 m1 o1)
set_option maxRecDepth 10000 in
theorem t_X4_clause_24 (l : Launch) (E : En) (c0 s0 : Nat) (l0 : Nat) (l1 : Int32) (l2 : Int32) (m : Mm) (o : Prop) : Mh wI l E mi_X4_clause c0 s0 24 [(0, .ref l0), (1, .int l1), (2, .int l2)] [] m o (f_X4_clause_24 l0 l1 l2 m o) := by
  refine Mh_aload_n 0 rfl dX4_clause_24 ?_
  refine Mh_gR fd_4_1 fl_RX4_15 dX4_clause_25 ?_
  refine Mh_gI fd_3_9 fl_RX4_61 dX4_clause_28 ?_
  refine Mh_istore_n (lv' := [(3, .int (gI m (gR m l0 1) 9)), (0, .ref l0), (1, .int l1), (2, .int l2)]) dX4_clause_31 (Nat.le_of_ble_eq_true rfl) rfl ?_
  refine Mh_aload_n 1 rfl dX4_clause_32 ?_
  refine Mh_bipush (v := 40) dX4_clause_33 (by decide) ?_
  refine Mh_cvI (N := mi_X4_expect) (q := l0) (ci := 4) (as := [.int (40 : Int32)]) (st := []) (id) cg_yX4_expect (by decide) rfl rfl ml_RX4_58 iv_yX4_expect pd_yX4_expect rfl (by decide) (Nat.le_of_ble_eq_true rfl) rfl dX4_clause_35 (T_X4_expect l E _ _ _ _) rfl ?_
  refine Mh_sub (lv' := [(0, .ref l0), (1, .int l1), (2, .int l2), (3, .int (gI m (gR m l0 1) 9))]) [1, 2, 3, 0] rfl ?_
  exact t_X4_clause_38 l E c0 s0 _ _ _ _ _ _ _
def f_X4_clause_19 (l0 : Nat) (l1 : Int32) (l2 : Int32) (y0 : Int32) (m : Mm) (o : Prop) : Int32 × Mm × Prop := if y0 = 0 then ((0 : Int32), m, o) else (f_X4_clause_24 l0 l1 l2 m o)
set_option maxRecDepth 10000 in
theorem t_X4_clause_19 (l : Launch) (E : En) (c0 s0 : Nat) (l0 : Nat) (l1 : Int32) (l2 : Int32) (y0 : Int32) (m : Mm) (o : Prop) : Mh wI l E mi_X4_clause c0 s0 19 [(0, .ref l0), (1, .int l1), (2, .int l2)] [.int y0] m o (f_X4_clause_19 l0 l1 l2 y0 m o) := by
  refine Mh_if_ne (tgt := 24) dX4_clause_19 (by decide) rfl (fun _ => ?_) (fun _ => ?_)
  · exact t_X4_clause_24 l E c0 s0 _ _ _ _ _
  · refine Mh_iconst (v := 0) dX4_clause_22 (by decide) ?_
    exact Mh_ret dX4_clause_23 rfl (fun _ => rk0Z) rfl
def f_X4_clause_0 (l0 : Nat) (l1 : Int32) (m : Mm) (o : Prop) : Int32 × Mm × Prop := if l1 = (110 : Int32) then (f_X4_clause_24 l0 l1 (gI m (gR m l0 1) 9) m ((o ∧ (gT m l0 = 5 ∧ gR m l0 1 ≠ 0)) ∧ gT m (gR m l0 1) = 4)) else (bnd (FR 20 2 l0 (0 : Int32) m (((o ∧ (gT m l0 = 5 ∧ gR m l0 1 ≠ 0)) ∧ gT m (gR m l0 1) = 4) ∧ gT m l0 = 5)) (fun v1 m1 o1 => f_X4_clause_19 l0 l1 (gI m (gR m l0 1) 9) v1 m1 o1))
set_option maxRecDepth 10000 in
theorem t_X4_clause_0 (l : Launch) (E : En) (c0 s0 : Nat) (l0 : Nat) (l1 : Int32) (m : Mm) (o : Prop) : Mh wI l E mi_X4_clause c0 s0 0 [(0, .ref l0), (1, .int l1)] [] m o (f_X4_clause_0 l0 l1 m o) := by
  refine Mh_aload_n 0 rfl dX4_clause_0 ?_
  refine Mh_gR fd_4_1 fl_RX4_15 dX4_clause_1 ?_
  refine Mh_gI fd_3_9 fl_RX4_61 dX4_clause_4 ?_
  refine Mh_istore_n (lv' := [(2, .int (gI m (gR m l0 1) 9)), (0, .ref l0), (1, .int l1)]) dX4_clause_7 (Nat.le_of_ble_eq_true rfl) rfl ?_
  refine Mh_iload_n 2 rfl dX4_clause_8 ?_
  refine Mh_bipush (v := 110) dX4_clause_9 (by decide) ?_
  refine Mh_icmp_eq (tgt := 24) dX4_clause_11 (by decide) rfl (fun _ => ?_) (fun _ => ?_)
  · refine Mh_sub (lv' := [(0, .ref l0), (1, .int l1), (2, .int (gI m (gR m l0 1) 9))]) [1, 2, 0] rfl ?_
    exact t_X4_clause_24 l E c0 s0 _ _ _ _ _
  · refine Mh_aload_n 1 rfl dX4_clause_14 ?_
    refine Mh_iconst (v := 0) dX4_clause_15 (by decide) ?_
    refine Mh_cvI (N := (mi_X4_expression 20)) (q := l0) (ci := 4) (as := [.int (0 : Int32)]) (st := []) (id) cg_yX4_expression (by decide) rfl rfl ml_RX4_64 iv_yX4_expression pd_yX4_expression rfl (by decide) (Nat.le_of_ble_eq_true rfl) rfl dX4_clause_16 ((T_rec l E 20).2.2.1 _ _ _ _) rfl ?_
    refine Mh_sub (lv' := [(0, .ref l0), (1, .int l1), (2, .int (gI m (gR m l0 1) 9))]) [1, 2, 0] rfl ?_
    exact t_X4_clause_19 l E c0 s0 _ _ _ _ _ _
def F_X4_clause (a0 : Nat) (a1 : Int32) (m : Mm) (o : Prop) : Int32 × Mm × Prop := f_X4_clause_0 a0 a1 m o
theorem T_X4_clause (l : Launch) (E : En) (a0 : Nat) (a1 : Int32) (m : Mm) (o : Prop) : Mt wI l E yX4_clause mi_X4_clause [.ref a0, .int a1] m o (F_X4_clause a0 a1 m o) :=
  Mt_I (by decide) rfl rfl rfl (Nat.le_of_ble_eq_true rfl) rfl (.inr (.inl rfl)) (t_X4_clause_0 l E _ _ _ _ _ _)
def f_X4_clauses_36 (y0 : Int32) (m : Mm) (o : Prop) : Int32 × Mm × Prop := (y0, m, o ∧ (y0 = 0 ∨ y0 = 1))
set_option maxRecDepth 10000 in
theorem t_X4_clauses_36 (l : Launch) (E : En) (c0 s0 : Nat) (y0 : Int32) (m : Mm) (o : Prop) : Mh wI l E mi_X4_clauses c0 s0 36 [] [.int y0] m o (f_X4_clauses_36 y0 m o) := by
  exact Mh_retZ dX4_clauses_36 (.inl rfl) rfl
def f_X4_clauses_48 (y0 : Int32) (m : Mm) (o : Prop) : Int32 × Mm × Prop := (y0, m, o ∧ (y0 = 0 ∨ y0 = 1))
set_option maxRecDepth 10000 in
theorem t_X4_clauses_48 (l : Launch) (E : En) (c0 s0 : Nat) (y0 : Int32) (m : Mm) (o : Prop) : Mh wI l E mi_X4_clauses c0 s0 48 [] [.int y0] m o (f_X4_clauses_48 y0 m o) := by
  exact Mh_retZ dX4_clauses_48 (.inl rfl) rfl
def f_X4_clauses_88 (k2 : Nat → Int32 → Mm → Prop → Int32 × Mm × Prop) (l0 : Nat) (l1 : Int32) (y0 : Int32) (m : Mm) (o : Prop) : Int32 × Mm × Prop := if y0 = 0 then ((0 : Int32), m, o) else (k2 l0 (l1 + 1) m o)
set_option maxRecDepth 10000 in
theorem t_X4_clauses_88 (l : Launch) (E : En) (c0 s0 : Nat) (k2 : Nat → Int32 → Mm → Prop → Int32 × Mm × Prop) (hk2 : ∀ (l0 : Nat) (l1 : Int32) (m : Mm) (o : Prop), Mh wI l E mi_X4_clauses c0 s0 2 [(0, .ref l0), (1, .int l1)] [] m o (k2 l0 l1 m o)) (l0 : Nat) (l1 : Int32) (y0 : Int32) (m : Mm) (o : Prop) : Mh wI l E mi_X4_clauses c0 s0 88 [(0, .ref l0), (1, .int l1)] [.int y0] m o (f_X4_clauses_88 k2 l0 l1 y0 m o) := by
  refine Mh_if_ne (tgt := 93) dX4_clauses_88 (by decide) rfl (fun _ => ?_) (fun _ => ?_)
  · refine Mh_iinc (v := l1 + 1) (lv' := [(1, .int (l1 + 1)), (0, .ref l0)]) 1 dX4_clauses_93 rfl rfl (Nat.le_of_ble_eq_true rfl) rfl ?_
    refine Mh_goto (tgt := 2) dX4_clauses_96 (by decide) ?_
    refine Mh_sub (lv' := [(0, .ref l0), (1, .int (l1 + 1))]) [1, 0] rfl ?_
    exact hk2 _ _ _ _
  · refine Mh_iconst (v := 0) dX4_clauses_91 (by decide) ?_
    exact Mh_ret dX4_clauses_92 rfl (fun _ => rk0Z) rfl
def f_X4_clauses_64 (k2 : Nat → Int32 → Mm → Prop → Int32 × Mm × Prop) (l0 : Nat) (l1 : Int32) (y0 : Int32) (m : Mm) (o : Prop) : Int32 × Mm × Prop := if y0 = 0 then ((0 : Int32), m, o) else (if (gI m l0 3) = (gI m l0 2) then ((1 : Int32), m, (o ∧ gT m l0 = 5)) else (bnd (F_X4_expect l0 (59 : Int32) m (o ∧ gT m l0 = 5)) (fun v1 m1 o1 => f_X4_clauses_88 k2 l0 l1 v1 m1 o1)))
set_option maxRecDepth 10000 in
theorem t_X4_clauses_64 (l : Launch) (E : En) (c0 s0 : Nat) (k2 : Nat → Int32 → Mm → Prop → Int32 × Mm × Prop) (hk2 : ∀ (l0 : Nat) (l1 : Int32) (m : Mm) (o : Prop), Mh wI l E mi_X4_clauses c0 s0 2 [(0, .ref l0), (1, .int l1)] [] m o (k2 l0 l1 m o)) (l0 : Nat) (l1 : Int32) (y0 : Int32) (m : Mm) (o : Prop) : Mh wI l E mi_X4_clauses c0 s0 64 [(0, .ref l0), (1, .int l1)] [.int y0] m o (f_X4_clauses_64 k2 l0 l1 y0 m o) := by
  refine Mh_if_ne (tgt := 69) dX4_clauses_64 (by decide) rfl (fun _ => ?_) (fun _ => ?_)
  · refine Mh_aload_n 0 rfl dX4_clauses_69 ?_
    refine Mh_gI fd_4_3 fl_RX4_28 dX4_clauses_70 ?_
    refine Mh_aload_n 0 rfl dX4_clauses_73 ?_
    refine Mh_gI fd_4_2 fl_RX4_24 dX4_clauses_74 ?_
    refine Mh_ok (fun h => h.2) ?_
    refine Mh_icmp_ne (tgt := 82) dX4_clauses_77 (by decide) rfl (fun _ => ?_) (fun _ => ?_)
    · refine Mh_aload_n 0 rfl dX4_clauses_82 ?_
      refine Mh_bipush (v := 59) dX4_clauses_83 (by decide) ?_
      refine Mh_cvI (N := mi_X4_expect) (q := l0) (ci := 4) (as := [.int (59 : Int32)]) (st := []) (fun h => ⟨h, (fun h => h.2) h⟩) cg_yX4_expect (by decide) rfl rfl ml_RX4_58 iv_yX4_expect pd_yX4_expect rfl (by decide) (Nat.le_of_ble_eq_true rfl) rfl dX4_clauses_85 (T_X4_expect l E _ _ _ _) rfl ?_
      exact t_X4_clauses_88 l E c0 s0 k2 hk2 _ _ _ _ _
    · refine Mh_iconst (v := 1) dX4_clauses_80 (by decide) ?_
      exact Mh_ret dX4_clauses_81 rfl (fun _ => rk1Z) rfl
  · refine Mh_iconst (v := 0) dX4_clauses_67 (by decide) ?_
    exact Mh_ret dX4_clauses_68 rfl (fun _ => rk0Z) rfl
def f_X4_clauses_59 (k2 : Nat → Int32 → Mm → Prop → Int32 × Mm × Prop) (l0 : Nat) (l1 : Int32) (l2 : Int32) (m : Mm) (o : Prop) : Int32 × Mm × Prop := bnd (F_X4_clause l0 l2 m (o ∧ gT m l0 = 5)) (fun v1 m1 o1 => f_X4_clauses_64 k2 l0 l1 v1 m1 o1)
set_option maxRecDepth 10000 in
theorem t_X4_clauses_59 (l : Launch) (E : En) (c0 s0 : Nat) (k2 : Nat → Int32 → Mm → Prop → Int32 × Mm × Prop) (hk2 : ∀ (l0 : Nat) (l1 : Int32) (m : Mm) (o : Prop), Mh wI l E mi_X4_clauses c0 s0 2 [(0, .ref l0), (1, .int l1)] [] m o (k2 l0 l1 m o)) (l0 : Nat) (l1 : Int32) (l2 : Int32) (m : Mm) (o : Prop) : Mh wI l E mi_X4_clauses c0 s0 59 [(0, .ref l0), (1, .int l1), (2, .int l2)] [] m o (f_X4_clauses_59 k2 l0 l1 l2 m o) := by
  refine Mh_aload_n 0 rfl dX4_clauses_59 ?_
  refine Mh_iload_n 2 rfl dX4_clauses_60 ?_
  refine Mh_cvI (N := mi_X4_clause) (q := l0) (ci := 4) (as := [.int l2]) (st := []) (id) cg_yX4_clause (by decide) rfl rfl ml_RX4_55 iv_yX4_clause pd_yX4_clause rfl (by decide) (Nat.le_of_ble_eq_true rfl) rfl dX4_clauses_61 (T_X4_clause l E _ _ _ _) rfl ?_
  refine Mh_sub (lv' := [(0, .ref l0), (1, .int l1)]) [0, 1] rfl ?_
  exact t_X4_clauses_64 l E c0 s0 k2 hk2 _ _ _ _ _
def f_X4_clauses_37 (k2 : Nat → Int32 → Mm → Prop → Int32 × Mm × Prop) (l0 : Nat) (l1 : Int32) (l2 : Int32) (m : Mm) (o : Prop) : Int32 × Mm × Prop := if l1 = (14 : Int32) then (bnd (F_X4_fail l0 (4 : Int32) m (o ∧ gT m l0 = 5)) (fun v1 m1 o1 => f_X4_clauses_48 v1 m1 o1)) else (f_X4_clauses_59 k2 l0 l1 l2 (sI m l0 3 ((gI m l0 3) + (1 : Int32))) (o ∧ gT m l0 = 5))
set_option maxRecDepth 10000 in
theorem t_X4_clauses_37 (l : Launch) (E : En) (c0 s0 : Nat) (k2 : Nat → Int32 → Mm → Prop → Int32 × Mm × Prop) (hk2 : ∀ (l0 : Nat) (l1 : Int32) (m : Mm) (o : Prop), Mh wI l E mi_X4_clauses c0 s0 2 [(0, .ref l0), (1, .int l1)] [] m o (k2 l0 l1 m o)) (l0 : Nat) (l1 : Int32) (l2 : Int32) (m : Mm) (o : Prop) : Mh wI l E mi_X4_clauses c0 s0 37 [(0, .ref l0), (1, .int l1), (2, .int l2)] [] m o (f_X4_clauses_37 k2 l0 l1 l2 m o) := by
  refine Mh_iload_n 1 rfl dX4_clauses_37 ?_
  refine Mh_bipush (v := 14) dX4_clauses_38 (by decide) ?_
  refine Mh_icmp_ne (tgt := 49) dX4_clauses_40 (by decide) rfl (fun _ => ?_) (fun _ => ?_)
  · refine Mh_aload_n 0 rfl dX4_clauses_49 ?_
    refine Mh_dup dX4_clauses_50 rfl ?_
    refine Mh_gI fd_4_3 fl_RX4_28 dX4_clauses_51 ?_
    refine Mh_iconst (v := 1) dX4_clauses_54 (by decide) ?_
    refine Mh_iadd dX4_clauses_55 ?_
    refine Mh_pI fd_4_3 ft_4 rfl fl_RX4_28 rfl dX4_clauses_56 ?_
    refine Mh_ok (fun h => h.2) ?_
    exact t_X4_clauses_59 l E c0 s0 k2 hk2 _ _ _ _ _
  · refine Mh_aload_n 0 rfl dX4_clauses_43 ?_
    refine Mh_iconst (v := 4) dX4_clauses_44 (by decide) ?_
    refine Mh_cvI (N := mi_X4_fail) (q := l0) (ci := 4) (as := [.int (4 : Int32)]) (st := []) (id) cg_yX4_fail (by decide) rfl rfl ml_RX4_51 iv_yX4_fail pd_yX4_fail rfl (by decide) (Nat.le_of_ble_eq_true rfl) rfl dX4_clauses_45 (T_X4_fail l E _ _ _ _) rfl ?_
    refine Mh_sub (lv' := []) [] rfl ?_
    exact t_X4_clauses_48 l E c0 s0 _ _ _
def f_X4_clauses_12 (k2 : Nat → Int32 → Mm → Prop → Int32 × Mm × Prop) (l0 : Nat) (l1 : Int32) (y0 : Int32) (m : Mm) (o : Prop) : Int32 × Mm × Prop := if y0 = (110 : Int32) then (f_X4_clauses_37 k2 l0 l1 y0 m o) else (if y0 = (101 : Int32) then (f_X4_clauses_37 k2 l0 l1 y0 m o) else (if y0 = (103 : Int32) then (f_X4_clauses_37 k2 l0 l1 y0 m o) else (bnd (F_X4_fail l0 (1 : Int32) m (o ∧ gT m l0 = 5)) (fun v1 m1 o1 => f_X4_clauses_36 v1 m1 o1))))
set_option maxRecDepth 10000 in
theorem t_X4_clauses_12 (l : Launch) (E : En) (c0 s0 : Nat) (k2 : Nat → Int32 → Mm → Prop → Int32 × Mm × Prop) (hk2 : ∀ (l0 : Nat) (l1 : Int32) (m : Mm) (o : Prop), Mh wI l E mi_X4_clauses c0 s0 2 [(0, .ref l0), (1, .int l1)] [] m o (k2 l0 l1 m o)) (l0 : Nat) (l1 : Int32) (y0 : Int32) (m : Mm) (o : Prop) : Mh wI l E mi_X4_clauses c0 s0 12 [(0, .ref l0), (1, .int l1)] [.int y0] m o (f_X4_clauses_12 k2 l0 l1 y0 m o) := by
  refine Mh_istore_n (lv' := [(2, .int y0), (0, .ref l0), (1, .int l1)]) dX4_clauses_12 (Nat.le_of_ble_eq_true rfl) rfl ?_
  refine Mh_iload_n 0 rfl dX4_clauses_13 ?_
  refine Mh_bipush (v := 110) dX4_clauses_14 (by decide) ?_
  refine Mh_icmp_eq (tgt := 37) dX4_clauses_16 (by decide) rfl (fun _ => ?_) (fun _ => ?_)
  · refine Mh_sub (lv' := [(0, .ref l0), (1, .int l1), (2, .int y0)]) [1, 2, 0] rfl ?_
    exact t_X4_clauses_37 l E c0 s0 k2 hk2 _ _ _ _ _
  · refine Mh_iload_n 0 rfl dX4_clauses_19 ?_
    refine Mh_bipush (v := 101) dX4_clauses_20 (by decide) ?_
    refine Mh_icmp_eq (tgt := 37) dX4_clauses_22 (by decide) rfl (fun _ => ?_) (fun _ => ?_)
    · refine Mh_sub (lv' := [(0, .ref l0), (1, .int l1), (2, .int y0)]) [1, 2, 0] rfl ?_
      exact t_X4_clauses_37 l E c0 s0 k2 hk2 _ _ _ _ _
    · refine Mh_iload_n 0 rfl dX4_clauses_25 ?_
      refine Mh_bipush (v := 103) dX4_clauses_26 (by decide) ?_
      refine Mh_icmp_eq (tgt := 37) dX4_clauses_28 (by decide) rfl (fun _ => ?_) (fun _ => ?_)
      · refine Mh_sub (lv' := [(0, .ref l0), (1, .int l1), (2, .int y0)]) [1, 2, 0] rfl ?_
        exact t_X4_clauses_37 l E c0 s0 k2 hk2 _ _ _ _ _
      · refine Mh_aload_n 1 rfl dX4_clauses_31 ?_
        refine Mh_iconst (v := 1) dX4_clauses_32 (by decide) ?_
        refine Mh_cvI (N := mi_X4_fail) (q := l0) (ci := 4) (as := [.int (1 : Int32)]) (st := []) (id) cg_yX4_fail (by decide) rfl rfl ml_RX4_51 iv_yX4_fail pd_yX4_fail rfl (by decide) (Nat.le_of_ble_eq_true rfl) rfl dX4_clauses_33 (T_X4_fail l E _ _ _ _) rfl ?_
        refine Mh_sub (lv' := []) [] rfl ?_
        exact t_X4_clauses_36 l E c0 s0 _ _ _
def f_X4_clauses_2b (k2 : Nat → Int32 → Mm → Prop → Int32 × Mm × Prop) (l0 : Nat) (l1 : Int32) (m : Mm) (o : Prop) : Int32 × Mm × Prop := if (14 : Int32) < l1 then ((0 : Int32), m, o) else (bnd (F_X4_sign l0 m (o ∧ gT m l0 = 5)) (fun v1 m1 o1 => f_X4_clauses_12 k2 l0 l1 v1 m1 o1))
set_option maxRecDepth 10000 in
theorem t_X4_clauses_2b (l : Launch) (E : En) (c0 s0 : Nat) (k2 : Nat → Int32 → Mm → Prop → Int32 × Mm × Prop) (hk2 : ∀ (l0 : Nat) (l1 : Int32) (m : Mm) (o : Prop), Mh wI l E mi_X4_clauses c0 s0 2 [(0, .ref l0), (1, .int l1)] [] m o (k2 l0 l1 m o)) (l0 : Nat) (l1 : Int32) (m : Mm) (o : Prop) : Mh wI l E mi_X4_clauses c0 s0 2 [(0, .ref l0), (1, .int l1)] [] m o (f_X4_clauses_2b k2 l0 l1 m o) := by
  refine Mh_iload_n 1 rfl dX4_clauses_2 ?_
  refine Mh_bipush (v := 14) dX4_clauses_3 (by decide) ?_
  refine Mh_icmp_gt (tgt := 99) dX4_clauses_5 (by decide) rfl (fun _ => ?_) (fun _ => ?_)
  · refine Mh_iconst (v := 0) dX4_clauses_99 (by decide) ?_
    exact Mh_ret dX4_clauses_100 rfl (fun _ => rk0Z) rfl
  · refine Mh_aload_n 0 rfl dX4_clauses_8 ?_
    refine Mh_cvI (N := mi_X4_sign) (q := l0) (ci := 4) (as := []) (st := []) (id) cg_yX4_sign (by decide) rfl rfl ml_RX4_47 iv_yX4_sign pd_yX4_sign rfl (by decide) (Nat.le_of_ble_eq_true rfl) rfl dX4_clauses_9 (T_X4_sign l E _ _ _) rfl ?_
    exact t_X4_clauses_12 l E c0 s0 k2 hk2 _ _ _ _ _
def f_X4_clauses_2 : Nat → Nat → Int32 → Mm → Prop → Int32 × Mm × Prop
  | 0, _, _, m, _ => (0, m, False)
  | n + 1, l0, l1, m, o => f_X4_clauses_2b (f_X4_clauses_2 n) l0 l1 m o
theorem t_X4_clauses_2 (l : Launch) (E : En) (c0 s0 : Nat) : ∀ (n : Nat) (l0 : Nat) (l1 : Int32) (m : Mm) (o : Prop), Mh wI l E mi_X4_clauses c0 s0 2 [(0, .ref l0), (1, .int l1)] [] m o (f_X4_clauses_2 n l0 l1 m o)
  | 0, _, _, _, _ => Mh_out rfl
  | n + 1, l0, l1, m, o => t_X4_clauses_2b l E c0 s0 (f_X4_clauses_2 n) (t_X4_clauses_2 l E c0 s0 n) l0 l1 m o
def f_X4_clauses_0 (l0 : Nat) (m : Mm) (o : Prop) : Int32 × Mm × Prop := f_X4_clauses_2 1000 l0 (0 : Int32) m o
set_option maxRecDepth 10000 in
theorem t_X4_clauses_0 (l : Launch) (E : En) (c0 s0 : Nat) (l0 : Nat) (m : Mm) (o : Prop) : Mh wI l E mi_X4_clauses c0 s0 0 [(0, .ref l0)] [] m o (f_X4_clauses_0 l0 m o) := by
  refine Mh_iconst (v := 0) dX4_clauses_0 (by decide) ?_
  refine Mh_istore_n (lv' := [(1, .int (0 : Int32)), (0, .ref l0)]) dX4_clauses_1 (Nat.le_of_ble_eq_true rfl) rfl ?_
  refine Mh_sub (lv' := [(0, .ref l0), (1, .int (0 : Int32))]) [1, 0] rfl ?_
  exact t_X4_clauses_2 l E c0 s0 _ _ _ _ _
def F_X4_clauses (a0 : Nat) (m : Mm) (o : Prop) : Int32 × Mm × Prop := f_X4_clauses_0 a0 m o
theorem T_X4_clauses (l : Launch) (E : En) (a0 : Nat) (m : Mm) (o : Prop) : Mt wI l E yX4_clauses mi_X4_clauses [.ref a0] m o (F_X4_clauses a0 m o) :=
  Mt_I (by decide) rfl rfl rfl (Nat.le_of_ble_eq_true rfl) rfl (.inr (.inl rfl)) (t_X4_clauses_0 l E _ _ _ _ _)
def f_X4_readInto_57 (y0 : Int32) (m : Mm) (o : Prop) : Int32 × Mm × Prop := (y0, m, o)
set_option maxRecDepth 10000 in
theorem t_X4_readInto_57 (l : Launch) (E : En) (c0 s0 : Nat) (y0 : Int32) (m : Mm) (o : Prop) : Mh wI l E mi_X4_readInto c0 s0 57 [] [.int y0] m o (f_X4_readInto_57 y0 m o) := by
  exact Mh_ret dX4_readInto_57 rfl (fun _ => rfl) rfl
def f_X4_readInto_31 (l0 : Nat) (y0 : Int32) (m : Mm) (o : Prop) : Int32 × Mm × Prop := if y0 = 0 then (f_X4_readInto_57 (((-1000 : Int32) * (gI m l0 4)) - (gI m l0 3)) m (o ∧ gT m l0 = 5)) else (f_X4_readInto_57 (gI m (gR m l0 1) 10) m ((o ∧ (gT m l0 = 5 ∧ gR m l0 1 ≠ 0)) ∧ gT m (gR m l0 1) = 4))
set_option maxRecDepth 10000 in
theorem t_X4_readInto_31 (l : Launch) (E : En) (c0 s0 : Nat) (l0 : Nat) (y0 : Int32) (m : Mm) (o : Prop) : Mh wI l E mi_X4_readInto c0 s0 31 [(0, .ref l0)] [.int y0] m o (f_X4_readInto_31 l0 y0 m o) := by
  refine Mh_if_eq (tgt := 44) dX4_readInto_31 (by decide) rfl (fun _ => ?_) (fun _ => ?_)
  · refine Mh_sipush (v := (-1000)) dX4_readInto_44 (by decide) ?_
    refine Mh_aload_n 0 rfl dX4_readInto_47 ?_
    refine Mh_gI fd_4_4 fl_RX4_31 dX4_readInto_48 ?_
    refine Mh_imul dX4_readInto_51 ?_
    refine Mh_aload_n 0 rfl dX4_readInto_52 ?_
    refine Mh_gI fd_4_3 fl_RX4_28 dX4_readInto_53 ?_
    refine Mh_ok (fun h => h.2) ?_
    refine Mh_isub dX4_readInto_56 ?_
    refine Mh_sub (lv' := []) [] rfl ?_
    exact t_X4_readInto_57 l E c0 s0 _ _ _
  · refine Mh_aload_n 0 rfl dX4_readInto_34 ?_
    refine Mh_gR fd_4_1 fl_RX4_15 dX4_readInto_35 ?_
    refine Mh_gI fd_3_10 fl_RX4_38 dX4_readInto_38 ?_
    refine Mh_goto (tgt := 57) dX4_readInto_41 (by decide) ?_
    refine Mh_sub (lv' := []) [] rfl ?_
    exact t_X4_readInto_57 l E c0 s0 _ _ _
def f_X4_readInto_27 (l0 : Nat) (m : Mm) (o : Prop) : Int32 × Mm × Prop := bnd (F_X4_clauses l0 m (o ∧ gT m l0 = 5)) (fun v1 m1 o1 => f_X4_readInto_31 l0 v1 m1 o1)
set_option maxRecDepth 10000 in
theorem t_X4_readInto_27 (l : Launch) (E : En) (c0 s0 : Nat) (l0 : Nat) (m : Mm) (o : Prop) : Mh wI l E mi_X4_readInto c0 s0 27 [(0, .ref l0)] [] m o (f_X4_readInto_27 l0 m o) := by
  refine Mh_aload_n 0 rfl dX4_readInto_27 ?_
  refine Mh_cvI (N := mi_X4_clauses) (q := l0) (ci := 4) (as := []) (st := []) (id) cg_yX4_clauses (by decide) rfl rfl ml_RX4_34 iv_yX4_clauses pd_yX4_clauses rfl (by decide) (Nat.le_of_ble_eq_true rfl) rfl dX4_readInto_28 (T_X4_clauses l E _ _ _) rfl ?_
  exact t_X4_readInto_31 l E c0 s0 _ _ _ _
def f_X4_readInto_22 (l0 : Nat) (m : Mm) (o : Prop) : Int32 × Mm × Prop := f_X4_readInto_27 l0 (sI m l0 4 (0 : Int32)) (o ∧ gT m l0 = 5)
set_option maxRecDepth 10000 in
theorem t_X4_readInto_22 (l : Launch) (E : En) (c0 s0 : Nat) (l0 : Nat) (m : Mm) (o : Prop) : Mh wI l E mi_X4_readInto c0 s0 22 [(0, .ref l0)] [] m o (f_X4_readInto_22 l0 m o) := by
  refine Mh_aload_n 0 rfl dX4_readInto_22 ?_
  refine Mh_iconst (v := 0) dX4_readInto_23 (by decide) ?_
  refine Mh_pI fd_4_4 ft_4 rfl fl_RX4_31 rfl dX4_readInto_24 ?_
  exact t_X4_readInto_27 l E c0 s0 _ _ _
def f_X4_readInto_17 (l0 : Nat) (m : Mm) (o : Prop) : Int32 × Mm × Prop := f_X4_readInto_22 l0 (sI m l0 3 (0 : Int32)) (o ∧ gT m l0 = 5)
set_option maxRecDepth 10000 in
theorem t_X4_readInto_17 (l : Launch) (E : En) (c0 s0 : Nat) (l0 : Nat) (m : Mm) (o : Prop) : Mh wI l E mi_X4_readInto c0 s0 17 [(0, .ref l0)] [] m o (f_X4_readInto_17 l0 m o) := by
  refine Mh_aload_n 0 rfl dX4_readInto_17 ?_
  refine Mh_iconst (v := 0) dX4_readInto_18 (by decide) ?_
  refine Mh_pI fd_4_3 ft_4 rfl fl_RX4_28 rfl dX4_readInto_19 ?_
  exact t_X4_readInto_22 l E c0 s0 _ _ _
def f_X4_readInto_12 (l0 : Nat) (l2 : Int32) (m : Mm) (o : Prop) : Int32 × Mm × Prop := f_X4_readInto_17 l0 (sI m l0 2 l2) (o ∧ gT m l0 = 5)
set_option maxRecDepth 10000 in
theorem t_X4_readInto_12 (l : Launch) (E : En) (c0 s0 : Nat) (l0 : Nat) (l2 : Int32) (m : Mm) (o : Prop) : Mh wI l E mi_X4_readInto c0 s0 12 [(0, .ref l0), (2, .int l2)] [] m o (f_X4_readInto_12 l0 l2 m o) := by
  refine Mh_aload_n 0 rfl dX4_readInto_12 ?_
  refine Mh_iload_n 1 rfl dX4_readInto_13 ?_
  refine Mh_pI fd_4_2 ft_4 rfl fl_RX4_24 rfl dX4_readInto_14 ?_
  refine Mh_sub (lv' := [(0, .ref l0)]) [0] rfl ?_
  exact t_X4_readInto_17 l E c0 s0 _ _ _
def f_X4_readInto_5 (l0 : Nat) (l2 : Int32) (m : Mm) (o : Prop) : Int32 × Mm × Prop := bnd (F_X3_clear (gR m l0 1) m ((o ∧ (gT m l0 = 5 ∧ gR m l0 1 ≠ 0)) ∧ gT m (gR m l0 1) = 4)) (fun _ m1 o1 => f_X4_readInto_12 l0 l2 m1 o1)
set_option maxRecDepth 10000 in
theorem t_X4_readInto_5 (l : Launch) (E : En) (c0 s0 : Nat) (l0 : Nat) (l2 : Int32) (m : Mm) (o : Prop) : Mh wI l E mi_X4_readInto c0 s0 5 [(0, .ref l0), (2, .int l2)] [] m o (f_X4_readInto_5 l0 l2 m o) := by
  refine Mh_aload_n 0 rfl dX4_readInto_5 ?_
  refine Mh_gR fd_4_1 fl_RX4_15 dX4_readInto_6 ?_
  refine Mh_cvU (N := mi_X3_clear) (q := gR m l0 1) (ci := 3) (as := []) (st := []) (id) cg_yX3_clear (by decide) rfl rfl ml_RX4_19 iv_yX3_clear pd_yX3_clear rfl (by decide) (Nat.le_of_ble_eq_true rfl) rfl dX4_readInto_9 (T_X3_clear l E _ _ _) rfl ?_
  exact t_X4_readInto_12 l E c0 s0 _ _ _ _
def f_X4_readInto_0 (l0 : Nat) (l1 : Nat) (l2 : Int32) (m : Mm) (o : Prop) : Int32 × Mm × Prop := f_X4_readInto_5 l0 l2 (sR m l0 1 l1) (o ∧ (gT m l0 = 5 ∧ l1 ≠ 0))
set_option maxRecDepth 10000 in
theorem t_X4_readInto_0 (l : Launch) (E : En) (c0 s0 : Nat) (l0 : Nat) (l1 : Nat) (l2 : Int32) (m : Mm) (o : Prop) : Mh wI l E mi_X4_readInto c0 s0 0 [(0, .ref l0), (1, .ref l1), (2, .int l2)] [] m o (f_X4_readInto_0 l0 l1 l2 m o) := by
  refine Mh_aload_n 0 rfl dX4_readInto_0 ?_
  refine Mh_aload_n 1 rfl dX4_readInto_1 ?_
  refine Mh_pR fd_4_1 ft_4 (.inl ⟨_, rfl⟩) fl_RX4_15 (.inl rfl) dX4_readInto_2 ?_
  refine Mh_sub (lv' := [(0, .ref l0), (2, .int l2)]) [0, 2] rfl ?_
  exact t_X4_readInto_5 l E c0 s0 _ _ _ _
def F_X4_readInto (a0 : Nat) (a1 : Nat) (a2 : Int32) (m : Mm) (o : Prop) : Int32 × Mm × Prop := f_X4_readInto_0 a0 a1 a2 m o
theorem T_X4_readInto (l : Launch) (E : En) (a0 : Nat) (a1 : Nat) (a2 : Int32) (m : Mm) (o : Prop) : Mt wI l E yX4_readInto mi_X4_readInto [.ref a0, .ref a1, .int a2] m o (F_X4_readInto a0 a1 a2 m o) :=
  Mt_I (by decide) rfl rfl rfl (Nat.le_of_ble_eq_true rfl) rfl (.inl rfl) (t_X4_readInto_0 l E _ _ _ _ _ _ _)
def f_X11_law_22 (m : Mm) (o : Prop) : Int32 × Mm × Prop := ((-1 : Int32), m, o)
set_option maxRecDepth 10000 in
theorem t_X11_law_22 (l : Launch) (E : En) (c0 s0 : Nat) (m : Mm) (o : Prop) : Mh wI l E mi_X11_law c0 s0 22 [] [] m o (f_X11_law_22  m o) := by
  refine Mh_iconst (v := (-1)) dX11_law_22 (by decide) ?_
  exact Mh_ret dX11_law_23 rfl (fun _ => rfl) rfl
def f_X11_law_66 (l2 : Int32) (m : Mm) (o : Prop) : Int32 × Mm × Prop := (l2, m, o)
set_option maxRecDepth 10000 in
theorem t_X11_law_66 (l : Launch) (E : En) (c0 s0 : Nat) (l2 : Int32) (m : Mm) (o : Prop) : Mh wI l E mi_X11_law c0 s0 66 [(2, .int l2)] [] m o (f_X11_law_66 l2 m o) := by
  refine Mh_iload_n 0 rfl dX11_law_66 ?_
  exact Mh_ret dX11_law_67 rfl (fun _ => rfl) rfl
def f_X11_law_61 (l0 : Nat) (l2 : Int32) (l3 : Nat) (m : Mm) (o : Prop) : Int32 × Mm × Prop := f_X11_law_66 l2 (sR m l0 10 l3) (o ∧ (gT m l0 = 11 ∧ l3 ≠ 0))
set_option maxRecDepth 10000 in
theorem t_X11_law_61 (l : Launch) (E : En) (c0 s0 : Nat) (l0 : Nat) (l2 : Int32) (l3 : Nat) (m : Mm) (o : Prop) : Mh wI l E mi_X11_law c0 s0 61 [(0, .ref l0), (2, .int l2), (3, .ref l3)] [] m o (f_X11_law_61 l0 l2 l3 m o) := by
  refine Mh_aload_n 0 rfl dX11_law_61 ?_
  refine Mh_aload_n 2 rfl dX11_law_62 ?_
  refine Mh_pR fd_10_10 ft_10 (.inl ⟨_, rfl⟩) fl_RX11_75 (.inl rfl) dX11_law_63 ?_
  refine Mh_sub (lv' := [(2, .int l2)]) [1] rfl ?_
  exact t_X11_law_66 l E c0 s0 _ _ _
def f_X11_law_44 (l0 : Nat) (l2 : Int32) (m : Mm) (o : Prop) : Int32 × Mm × Prop := if l2 ≤ 0 then (f_X11_law_66 l2 m o) else (f_X11_law_61 l0 l2 (gR m l0 9) (sR m l0 9 (gR m l0 10)) (((o ∧ (gT m l0 = 11 ∧ gR m l0 9 ≠ 0)) ∧ (gT m l0 = 11 ∧ gR m l0 10 ≠ 0)) ∧ (gT m l0 = 11 ∧ (gR m l0 10) ≠ 0)))
set_option maxRecDepth 10000 in
theorem t_X11_law_44 (l : Launch) (E : En) (c0 s0 : Nat) (l0 : Nat) (l2 : Int32) (m : Mm) (o : Prop) : Mh wI l E mi_X11_law c0 s0 44 [(0, .ref l0), (2, .int l2)] [] m o (f_X11_law_44 l0 l2 m o) := by
  refine Mh_iload_n 1 rfl dX11_law_44 ?_
  refine Mh_if_le (tgt := 66) dX11_law_45 (by decide) rfl (fun _ => ?_) (fun _ => ?_)
  · refine Mh_sub (lv' := [(2, .int l2)]) [1] rfl ?_
    exact t_X11_law_66 l E c0 s0 _ _ _
  · refine Mh_aload_n 0 rfl dX11_law_48 ?_
    refine Mh_gR fd_10_9 fl_RX11_71 dX11_law_49 ?_
    refine Mh_astore_n (lv' := [(3, .ref (gR m l0 9)), (0, .ref l0), (2, .int l2)]) dX11_law_52 (Nat.le_of_ble_eq_true rfl) rfl ?_
    refine Mh_aload_n 1 rfl dX11_law_53 ?_
    refine Mh_aload_n 1 rfl dX11_law_54 ?_
    refine Mh_gR fd_10_10 fl_RX11_75 dX11_law_55 ?_
    refine Mh_pR fd_10_9 ft_10 (.inl ⟨_, rfl⟩) fl_RX11_71 (.inl rfl) dX11_law_58 ?_
    refine Mh_sub (lv' := [(0, .ref l0), (2, .int l2), (3, .ref (gR m l0 9))]) [1, 2, 0] rfl ?_
    exact t_X11_law_61 l E c0 s0 _ _ _ _ _
def f_X11_law_36 (l0 : Nat) (y0 : Int32) (m : Mm) (o : Prop) : Int32 × Mm × Prop := bnd (F_X9_empty (gR m l0 3) m ((o ∧ (gT m l0 = 11 ∧ gR m l0 3 ≠ 0)) ∧ gT m (gR m l0 3) = 9)) (fun _ m1 o1 => f_X11_law_44 l0 y0 m1 o1)
set_option maxRecDepth 10000 in
theorem t_X11_law_36 (l : Launch) (E : En) (c0 s0 : Nat) (l0 : Nat) (y0 : Int32) (m : Mm) (o : Prop) : Mh wI l E mi_X11_law c0 s0 36 [(0, .ref l0)] [.int y0] m o (f_X11_law_36 l0 y0 m o) := by
  refine Mh_istore_n (lv' := [(2, .int y0), (0, .ref l0)]) dX11_law_36 (Nat.le_of_ble_eq_true rfl) rfl ?_
  refine Mh_aload_n 1 rfl dX11_law_37 ?_
  refine Mh_gR fd_10_3 fl_RX11_25 dX11_law_38 ?_
  refine Mh_cvU (N := mi_X9_empty) (q := gR m l0 3) (ci := 8) (as := []) (st := []) (id) cg_yX9_empty (by decide) rfl rfl ml_RX11_149 iv_yX9_empty pd_yX9_empty rfl (by decide) (Nat.le_of_ble_eq_true rfl) rfl dX11_law_41 (T_X9_empty l E _ _ _) rfl ?_
  refine Mh_sub (lv' := [(0, .ref l0), (2, .int y0)]) [1, 0] rfl ?_
  exact t_X11_law_44 l E c0 s0 _ _ _ _
def f_X11_law_8 (l0 : Nat) (l1 : Int32) (y0 : Int32) (m : Mm) (o : Prop) : Int32 × Mm × Prop := if y0 = 0 then (f_X11_law_22  m o) else (if l1 ≤ (gI m (gR m l0 3) 1) then (bnd (F_X4_readInto (gR m l0 4) (gR m l0 10) l1 m (((((o ∧ (gT m l0 = 11 ∧ gR m l0 3 ≠ 0)) ∧ gT m (gR m l0 3) = 9) ∧ (gT m l0 = 11 ∧ gR m l0 4 ≠ 0)) ∧ (gT m l0 = 11 ∧ gR m l0 10 ≠ 0)) ∧ gT m (gR m l0 4) = 5)) (fun v1 m1 o1 => f_X11_law_36 l0 v1 m1 o1)) else (f_X11_law_22  m ((o ∧ (gT m l0 = 11 ∧ gR m l0 3 ≠ 0)) ∧ gT m (gR m l0 3) = 9)))
set_option maxRecDepth 10000 in
theorem t_X11_law_8 (l : Launch) (E : En) (c0 s0 : Nat) (l0 : Nat) (l1 : Int32) (y0 : Int32) (m : Mm) (o : Prop) : Mh wI l E mi_X11_law c0 s0 8 [(0, .ref l0), (1, .int l1)] [.int y0] m o (f_X11_law_8 l0 l1 y0 m o) := by
  refine Mh_if_eq (tgt := 22) dX11_law_8 (by decide) rfl (fun _ => ?_) (fun _ => ?_)
  · refine Mh_sub (lv' := []) [] rfl ?_
    exact t_X11_law_22 l E c0 s0  _ _
  · refine Mh_iload_n 1 rfl dX11_law_11 ?_
    refine Mh_aload_n 0 rfl dX11_law_12 ?_
    refine Mh_gR fd_10_3 fl_RX11_25 dX11_law_13 ?_
    refine Mh_gI fd_8_1 fl_RX11_138 dX11_law_16 ?_
    refine Mh_icmp_le (tgt := 24) dX11_law_19 (by decide) rfl (fun _ => ?_) (fun _ => ?_)
    · refine Mh_aload_n 0 rfl dX11_law_24 ?_
      refine Mh_gR fd_10_4 fl_RX11_34 dX11_law_25 ?_
      refine Mh_aload_n 0 rfl dX11_law_28 ?_
      refine Mh_gR fd_10_10 fl_RX11_75 dX11_law_29 ?_
      refine Mh_iload_n 1 rfl dX11_law_32 ?_
      refine Mh_cvI (N := mi_X4_readInto) (q := gR m l0 4) (ci := 4) (as := [.ref (gR m l0 10), .int l1]) (st := []) (id) cg_yX4_readInto (by decide) rfl rfl ml_RX11_145 iv_yX4_readInto pd_yX4_readInto rfl (by decide) (Nat.le_of_ble_eq_true rfl) rfl dX11_law_33 (T_X4_readInto l E _ _ _ _ _) rfl ?_
      refine Mh_sub (lv' := [(0, .ref l0)]) [0] rfl ?_
      exact t_X11_law_36 l E c0 s0 _ _ _ _
    · refine Mh_sub (lv' := []) [] rfl ?_
      exact t_X11_law_22 l E c0 s0  _ _
def f_X11_law_0 (l0 : Nat) (l1 : Int32) (m : Mm) (o : Prop) : Int32 × Mm × Prop := bnd (F_X11_isWithin l1 (1 : Int32) (200 : Int32) m o) (fun v1 m1 o1 => f_X11_law_8 l0 l1 v1 m1 o1)
set_option maxRecDepth 10000 in
theorem t_X11_law_0 (l : Launch) (E : En) (c0 s0 : Nat) (l0 : Nat) (l1 : Int32) (m : Mm) (o : Prop) : Mh wI l E mi_X11_law c0 s0 0 [(0, .ref l0), (1, .int l1)] [] m o (f_X11_law_0 l0 l1 m o) := by
  refine Mh_iload_n 1 rfl dX11_law_0 ?_
  refine Mh_iconst (v := 1) dX11_law_1 (by decide) ?_
  refine Mh_sipush (v := 200) dX11_law_2 (by decide) ?_
  refine Mh_csI (N := mi_X11_isWithin) (as := [.int l1, .int (1 : Int32), .int (200 : Int32)]) (st := []) cg_yX11_isWithin (.inl ml_RX11_90) sv_yX11_isWithin pd_yX11_isWithin rfl (by decide) (Nat.le_of_ble_eq_true rfl) rfl dX11_law_5 (T_X11_isWithin l E _ _ _ _ _) rfl ?_
  exact t_X11_law_8 l E c0 s0 _ _ _ _ _
def F_X11_law (a0 : Nat) (a1 : Int32) (m : Mm) (o : Prop) : Int32 × Mm × Prop := f_X11_law_0 a0 a1 m o
theorem T_X11_law (l : Launch) (E : En) (a0 : Nat) (a1 : Int32) (m : Mm) (o : Prop) : Mt wI l E yX11_law mi_X11_law [.ref a0, .int a1] m o (F_X11_law a0 a1 m o) :=
  Mt_I (by decide) rfl rfl rfl (Nat.le_of_ble_eq_true rfl) rfl (.inl rfl) (t_X11_law_0 l E _ _ _ _ _ _)
def f_X8_bullCount_32 (k4 : Nat → Int32 → Int32 → Mm → Prop → Int32 × Mm × Prop) (l0 : Nat) (l2 : Int32) (y1 : Int32) (y0 : Int32) (m : Mm) (o : Prop) : Int32 × Mm × Prop := k4 l0 (y0 + y1) (l2 + 1) m o
set_option maxRecDepth 10000 in
theorem t_X8_bullCount_32 (l : Launch) (E : En) (c0 s0 : Nat) (k4 : Nat → Int32 → Int32 → Mm → Prop → Int32 × Mm × Prop) (hk4 : ∀ (l0 : Nat) (l1 : Int32) (l2 : Int32) (m : Mm) (o : Prop), Mh wI l E mi_X8_bullCount c0 s0 4 [(0, .ref l0), (1, .int l1), (2, .int l2)] [] m o (k4 l0 l1 l2 m o)) (l0 : Nat) (l2 : Int32) (y1 : Int32) (y0 : Int32) (m : Mm) (o : Prop) : Mh wI l E mi_X8_bullCount c0 s0 32 [(0, .ref l0), (2, .int l2)] [.int y1, .int y0] m o (f_X8_bullCount_32 k4 l0 l2 y1 y0 m o) := by
  refine Mh_iadd dX8_bullCount_32 ?_
  refine Mh_istore_n (lv' := [(1, .int (y0 + y1)), (0, .ref l0), (2, .int l2)]) dX8_bullCount_33 (Nat.le_of_ble_eq_true rfl) rfl ?_
  refine Mh_iinc (v := l2 + 1) (lv' := [(2, .int (l2 + 1)), (1, .int (y0 + y1)), (0, .ref l0)]) 2 dX8_bullCount_34 rfl rfl (Nat.le_of_ble_eq_true rfl) rfl ?_
  refine Mh_goto (tgt := 4) dX8_bullCount_37 (by decide) ?_
  refine Mh_sub (lv' := [(0, .ref l0), (1, .int (y0 + y1)), (2, .int (l2 + 1))]) [2, 1, 0] rfl ?_
  exact hk4 _ _ _ _ _
def f_X8_bullCount_4b (k4 : Nat → Int32 → Int32 → Mm → Prop → Int32 × Mm × Prop) (l0 : Nat) (l1 : Int32) (l2 : Int32) (m : Mm) (o : Prop) : Int32 × Mm × Prop := if (gI m l0 7) ≤ l2 then (l1, m, (o ∧ gT m l0 = 6)) else (if (gI m (gR m (gR m l0 1) (ix l2)) 2) = (9 : Int32) then (f_X8_bullCount_32 k4 l0 l2 (1 : Int32) l1 m ((((o ∧ gT m l0 = 6) ∧ (gT m l0 = 6 ∧ gR m l0 1 ≠ 0)) ∧ (gT m (gR m l0 1) = 25 ∧ vp_in l2 (gN m (gR m l0 1)) ∧ gR m (gR m l0 1) (ix l2) ≠ 0)) ∧ gT m (gR m (gR m l0 1) (ix l2)) = 2)) else (f_X8_bullCount_32 k4 l0 l2 (0 : Int32) l1 m ((((o ∧ gT m l0 = 6) ∧ (gT m l0 = 6 ∧ gR m l0 1 ≠ 0)) ∧ (gT m (gR m l0 1) = 25 ∧ vp_in l2 (gN m (gR m l0 1)) ∧ gR m (gR m l0 1) (ix l2) ≠ 0)) ∧ gT m (gR m (gR m l0 1) (ix l2)) = 2)))
set_option maxRecDepth 10000 in
theorem t_X8_bullCount_4b (l : Launch) (E : En) (c0 s0 : Nat) (k4 : Nat → Int32 → Int32 → Mm → Prop → Int32 × Mm × Prop) (hk4 : ∀ (l0 : Nat) (l1 : Int32) (l2 : Int32) (m : Mm) (o : Prop), Mh wI l E mi_X8_bullCount c0 s0 4 [(0, .ref l0), (1, .int l1), (2, .int l2)] [] m o (k4 l0 l1 l2 m o)) (l0 : Nat) (l1 : Int32) (l2 : Int32) (m : Mm) (o : Prop) : Mh wI l E mi_X8_bullCount c0 s0 4 [(0, .ref l0), (1, .int l1), (2, .int l2)] [] m o (f_X8_bullCount_4b k4 l0 l1 l2 m o) := by
  refine Mh_iload_n 2 rfl dX8_bullCount_4 ?_
  refine Mh_aload_n 0 rfl dX8_bullCount_5 ?_
  refine Mh_gI fd_5_7 fl_RX8_27 dX8_bullCount_6 ?_
  refine Mh_icmp_ge (tgt := 40) dX8_bullCount_9 (by decide) rfl (fun _ => ?_) (fun _ => ?_)
  · refine Mh_iload_n 1 rfl dX8_bullCount_40 ?_
    exact Mh_ret dX8_bullCount_41 rfl (fun _ => rfl) rfl
  · refine Mh_iload_n 1 rfl dX8_bullCount_12 ?_
    refine Mh_aload_n 0 rfl dX8_bullCount_13 ?_
    refine Mh_gR fd_5_1 fl_RX8_9 dX8_bullCount_14 ?_
    refine Mh_iload_n 2 rfl dX8_bullCount_17 ?_
    refine Mh_aal 25 (.inr rfl) dX8_bullCount_18 ?_
    refine Mh_gI fd_1_2 fl_RX8_15 dX8_bullCount_19 ?_
    refine Mh_bipush (v := 9) dX8_bullCount_22 (by decide) ?_
    refine Mh_icmp_ne (tgt := 31) dX8_bullCount_24 (by decide) rfl (fun _ => ?_) (fun _ => ?_)
    · refine Mh_iconst (v := 0) dX8_bullCount_31 (by decide) ?_
      refine Mh_sub (lv' := [(0, .ref l0), (2, .int l2)]) [0, 2] rfl ?_
      exact t_X8_bullCount_32 l E c0 s0 k4 hk4 _ _ _ _ _ _
    · refine Mh_iconst (v := 1) dX8_bullCount_27 (by decide) ?_
      refine Mh_goto (tgt := 32) dX8_bullCount_28 (by decide) ?_
      refine Mh_sub (lv' := [(0, .ref l0), (2, .int l2)]) [0, 2] rfl ?_
      exact t_X8_bullCount_32 l E c0 s0 k4 hk4 _ _ _ _ _ _
def f_X8_bullCount_4 : Nat → Nat → Int32 → Int32 → Mm → Prop → Int32 × Mm × Prop
  | 0, _, _, _, m, _ => (0, m, False)
  | n + 1, l0, l1, l2, m, o => f_X8_bullCount_4b (f_X8_bullCount_4 n) l0 l1 l2 m o
theorem t_X8_bullCount_4 (l : Launch) (E : En) (c0 s0 : Nat) : ∀ (n : Nat) (l0 : Nat) (l1 : Int32) (l2 : Int32) (m : Mm) (o : Prop), Mh wI l E mi_X8_bullCount c0 s0 4 [(0, .ref l0), (1, .int l1), (2, .int l2)] [] m o (f_X8_bullCount_4 n l0 l1 l2 m o)
  | 0, _, _, _, _, _ => Mh_out rfl
  | n + 1, l0, l1, l2, m, o => t_X8_bullCount_4b l E c0 s0 (f_X8_bullCount_4 n) (t_X8_bullCount_4 l E c0 s0 n) l0 l1 l2 m o
def f_X8_bullCount_0 (l0 : Nat) (m : Mm) (o : Prop) : Int32 × Mm × Prop := f_X8_bullCount_4 1000 l0 (0 : Int32) (0 : Int32) m o
set_option maxRecDepth 10000 in
theorem t_X8_bullCount_0 (l : Launch) (E : En) (c0 s0 : Nat) (l0 : Nat) (m : Mm) (o : Prop) : Mh wI l E mi_X8_bullCount c0 s0 0 [(0, .ref l0)] [] m o (f_X8_bullCount_0 l0 m o) := by
  refine Mh_iconst (v := 0) dX8_bullCount_0 (by decide) ?_
  refine Mh_istore_n (lv' := [(1, .int (0 : Int32)), (0, .ref l0)]) dX8_bullCount_1 (Nat.le_of_ble_eq_true rfl) rfl ?_
  refine Mh_iconst (v := 0) dX8_bullCount_2 (by decide) ?_
  refine Mh_istore_n (lv' := [(2, .int (0 : Int32)), (1, .int (0 : Int32)), (0, .ref l0)]) dX8_bullCount_3 (Nat.le_of_ble_eq_true rfl) rfl ?_
  refine Mh_sub (lv' := [(0, .ref l0), (1, .int (0 : Int32)), (2, .int (0 : Int32))]) [2, 1, 0] rfl ?_
  exact t_X8_bullCount_4 l E c0 s0 _ _ _ _ _ _
def F_X8_bullCount (a0 : Nat) (m : Mm) (o : Prop) : Int32 × Mm × Prop := f_X8_bullCount_0 a0 m o
theorem T_X8_bullCount (l : Launch) (E : En) (a0 : Nat) (m : Mm) (o : Prop) : Mt wI l E yX8_bullCount mi_X8_bullCount [.ref a0] m o (F_X8_bullCount a0 m o) :=
  Mt_I (by decide) rfl rfl rfl (Nat.le_of_ble_eq_true rfl) rfl (.inl rfl) (t_X8_bullCount_0 l E _ _ _ _ _)
def f_X8_choose_5b (k5 : Int32 → Int32 → Int64 → Int32 → Mm → Prop → Int64 × Mm × Prop) (l0 : Int32) (l1 : Int32) (l2 : Int64) (l4 : Int32) (m : Mm) (o : Prop) : Int64 × Mm × Prop := if l1 < l4 then (l2, m, o) else (k5 l0 l1 ((l2 * (Int32.toInt64 ((l0 - l1) + l4))) / (Int32.toInt64 l4)) (l4 + 1) m (o ∧ ¬ (Int32.toInt64 l4) = 0))
set_option maxRecDepth 10000 in
theorem t_X8_choose_5b (l : Launch) (E : En) (c0 s0 : Nat) (k5 : Int32 → Int32 → Int64 → Int32 → Mm → Prop → Int64 × Mm × Prop) (hk5 : ∀ (l0 : Int32) (l1 : Int32) (l2 : Int64) (l4 : Int32) (m : Mm) (o : Prop), Mh wJ l E mi_X8_choose c0 s0 5 [(0, .int l0), (1, .int l1), (2, .long l2), (4, .int l4)] [] m o (k5 l0 l1 l2 l4 m o)) (l0 : Int32) (l1 : Int32) (l2 : Int64) (l4 : Int32) (m : Mm) (o : Prop) : Mh wJ l E mi_X8_choose c0 s0 5 [(0, .int l0), (1, .int l1), (2, .long l2), (4, .int l4)] [] m o (f_X8_choose_5b k5 l0 l1 l2 l4 m o) := by
  refine Mh_iload 3 rfl dX8_choose_5 ?_
  refine Mh_iload_n 1 rfl dX8_choose_7 ?_
  refine Mh_icmp_gt (tgt := 31) dX8_choose_8 (by decide) rfl (fun _ => ?_) (fun _ => ?_)
  · refine Mh_lload_n 2 rfl dX8_choose_31 ?_
    exact Mh_ret dX8_choose_32 rfl (fun _ => rfl) rfl
  · refine Mh_lload_n 2 rfl dX8_choose_11 ?_
    refine Mh_iload_n 0 rfl dX8_choose_12 ?_
    refine Mh_iload_n 1 rfl dX8_choose_13 ?_
    refine Mh_isub dX8_choose_14 ?_
    refine Mh_iload 3 rfl dX8_choose_15 ?_
    refine Mh_iadd dX8_choose_17 ?_
    refine Mh_i2l dX8_choose_18 ?_
    refine Mh_lmul dX8_choose_19 ?_
    refine Mh_iload 3 rfl dX8_choose_20 ?_
    refine Mh_i2l dX8_choose_22 ?_
    refine Mh_ldiv dX8_choose_23 ?_
    refine Mh_lstore_n (lv' := [(2, .long ((l2 * (Int32.toInt64 ((l0 - l1) + l4))) / (Int32.toInt64 l4))), (0, .int l0), (1, .int l1), (4, .int l4)]) dX8_choose_24 (Nat.le_of_ble_eq_true rfl) rfl ?_
    refine Mh_iinc (v := l4 + 1) (lv' := [(4, .int (l4 + 1)), (2, .long ((l2 * (Int32.toInt64 ((l0 - l1) + l4))) / (Int32.toInt64 l4))), (0, .int l0), (1, .int l1)]) 3 dX8_choose_25 rfl rfl (Nat.le_of_ble_eq_true rfl) rfl ?_
    refine Mh_goto (tgt := 5) dX8_choose_28 (by decide) ?_
    refine Mh_sub (lv' := [(0, .int l0), (1, .int l1), (2, .long ((l2 * (Int32.toInt64 ((l0 - l1) + l4))) / (Int32.toInt64 l4))), (4, .int (l4 + 1))]) [2, 3, 1, 0] rfl ?_
    exact hk5 _ _ _ _ _ _
def f_X8_choose_5 : Nat → Int32 → Int32 → Int64 → Int32 → Mm → Prop → Int64 × Mm × Prop
  | 0, _, _, _, _, m, _ => (0, m, False)
  | n + 1, l0, l1, l2, l4, m, o => f_X8_choose_5b (f_X8_choose_5 n) l0 l1 l2 l4 m o
theorem t_X8_choose_5 (l : Launch) (E : En) (c0 s0 : Nat) : ∀ (n : Nat) (l0 : Int32) (l1 : Int32) (l2 : Int64) (l4 : Int32) (m : Mm) (o : Prop), Mh wJ l E mi_X8_choose c0 s0 5 [(0, .int l0), (1, .int l1), (2, .long l2), (4, .int l4)] [] m o (f_X8_choose_5 n l0 l1 l2 l4 m o)
  | 0, _, _, _, _, _, _ => Mh_out rfl
  | n + 1, l0, l1, l2, l4, m, o => t_X8_choose_5b l E c0 s0 (f_X8_choose_5 n) (t_X8_choose_5 l E c0 s0 n) l0 l1 l2 l4 m o
def f_X8_choose_0 (l0 : Int32) (l1 : Int32) (m : Mm) (o : Prop) : Int64 × Mm × Prop := f_X8_choose_5 1000 l0 l1 (1 : Int64) (1 : Int32) m o
set_option maxRecDepth 10000 in
theorem t_X8_choose_0 (l : Launch) (E : En) (c0 s0 : Nat) (l0 : Int32) (l1 : Int32) (m : Mm) (o : Prop) : Mh wJ l E mi_X8_choose c0 s0 0 [(0, .int l0), (1, .int l1)] [] m o (f_X8_choose_0 l0 l1 m o) := by
  refine Mh_lconst (v := 1) dX8_choose_0 (by decide) ?_
  refine Mh_lstore_n (lv' := [(2, .long (1 : Int64)), (0, .int l0), (1, .int l1)]) dX8_choose_1 (Nat.le_of_ble_eq_true rfl) rfl ?_
  refine Mh_iconst (v := 1) dX8_choose_2 (by decide) ?_
  refine Mh_istore (lv' := [(4, .int (1 : Int32)), (2, .long (1 : Int64)), (0, .int l0), (1, .int l1)]) dX8_choose_3 (Nat.le_of_ble_eq_true rfl) rfl ?_
  refine Mh_sub (lv' := [(0, .int l0), (1, .int l1), (2, .long (1 : Int64)), (4, .int (1 : Int32))]) [2, 3, 1, 0] rfl ?_
  exact t_X8_choose_5 l E c0 s0 _ _ _ _ _ _ _
def F_X8_choose (a0 : Int32) (a1 : Int32) (m : Mm) (o : Prop) : Int64 × Mm × Prop := f_X8_choose_0 a0 a1 m o
theorem T_X8_choose (l : Launch) (E : En) (a0 : Int32) (a1 : Int32) (m : Mm) (o : Prop) : Mt wJ l E yX8_choose mi_X8_choose [.int a0, .int a1] m o (F_X8_choose a0 a1 m o) :=
  Mt_J (by decide) rfl rfl rfl (Nat.le_of_ble_eq_true rfl) rfl (t_X8_choose_0 l E _ _ _ _ _ _)
def f_X8_factorial_4b (k4 : Int32 → Int64 → Int32 → Mm → Prop → Int64 × Mm × Prop) (l0 : Int32) (l1 : Int64) (l3 : Int32) (m : Mm) (o : Prop) : Int64 × Mm × Prop := if l0 < l3 then (l1, m, o) else (k4 l0 (l1 * (Int32.toInt64 l3)) (l3 + 1) m o)
set_option maxRecDepth 10000 in
theorem t_X8_factorial_4b (l : Launch) (E : En) (c0 s0 : Nat) (k4 : Int32 → Int64 → Int32 → Mm → Prop → Int64 × Mm × Prop) (hk4 : ∀ (l0 : Int32) (l1 : Int64) (l3 : Int32) (m : Mm) (o : Prop), Mh wJ l E mi_X8_factorial c0 s0 4 [(0, .int l0), (1, .long l1), (3, .int l3)] [] m o (k4 l0 l1 l3 m o)) (l0 : Int32) (l1 : Int64) (l3 : Int32) (m : Mm) (o : Prop) : Mh wJ l E mi_X8_factorial c0 s0 4 [(0, .int l0), (1, .long l1), (3, .int l3)] [] m o (f_X8_factorial_4b k4 l0 l1 l3 m o) := by
  refine Mh_iload_n 2 rfl dX8_factorial_4 ?_
  refine Mh_iload_n 0 rfl dX8_factorial_5 ?_
  refine Mh_icmp_gt (tgt := 20) dX8_factorial_6 (by decide) rfl (fun _ => ?_) (fun _ => ?_)
  · refine Mh_lload_n 1 rfl dX8_factorial_20 ?_
    exact Mh_ret dX8_factorial_21 rfl (fun _ => rfl) rfl
  · refine Mh_lload_n 1 rfl dX8_factorial_9 ?_
    refine Mh_iload_n 2 rfl dX8_factorial_10 ?_
    refine Mh_i2l dX8_factorial_11 ?_
    refine Mh_lmul dX8_factorial_12 ?_
    refine Mh_lstore_n (lv' := [(1, .long (l1 * (Int32.toInt64 l3))), (0, .int l0), (3, .int l3)]) dX8_factorial_13 (Nat.le_of_ble_eq_true rfl) rfl ?_
    refine Mh_iinc (v := l3 + 1) (lv' := [(3, .int (l3 + 1)), (1, .long (l1 * (Int32.toInt64 l3))), (0, .int l0)]) 2 dX8_factorial_14 rfl rfl (Nat.le_of_ble_eq_true rfl) rfl ?_
    refine Mh_goto (tgt := 4) dX8_factorial_17 (by decide) ?_
    refine Mh_sub (lv' := [(0, .int l0), (1, .long (l1 * (Int32.toInt64 l3))), (3, .int (l3 + 1))]) [2, 1, 0] rfl ?_
    exact hk4 _ _ _ _ _
def f_X8_factorial_4 : Nat → Int32 → Int64 → Int32 → Mm → Prop → Int64 × Mm × Prop
  | 0, _, _, _, m, _ => (0, m, False)
  | n + 1, l0, l1, l3, m, o => f_X8_factorial_4b (f_X8_factorial_4 n) l0 l1 l3 m o
theorem t_X8_factorial_4 (l : Launch) (E : En) (c0 s0 : Nat) : ∀ (n : Nat) (l0 : Int32) (l1 : Int64) (l3 : Int32) (m : Mm) (o : Prop), Mh wJ l E mi_X8_factorial c0 s0 4 [(0, .int l0), (1, .long l1), (3, .int l3)] [] m o (f_X8_factorial_4 n l0 l1 l3 m o)
  | 0, _, _, _, _, _ => Mh_out rfl
  | n + 1, l0, l1, l3, m, o => t_X8_factorial_4b l E c0 s0 (f_X8_factorial_4 n) (t_X8_factorial_4 l E c0 s0 n) l0 l1 l3 m o
def f_X8_factorial_0 (l0 : Int32) (m : Mm) (o : Prop) : Int64 × Mm × Prop := f_X8_factorial_4 1000 l0 (1 : Int64) (2 : Int32) m o
set_option maxRecDepth 10000 in
theorem t_X8_factorial_0 (l : Launch) (E : En) (c0 s0 : Nat) (l0 : Int32) (m : Mm) (o : Prop) : Mh wJ l E mi_X8_factorial c0 s0 0 [(0, .int l0)] [] m o (f_X8_factorial_0 l0 m o) := by
  refine Mh_lconst (v := 1) dX8_factorial_0 (by decide) ?_
  refine Mh_lstore_n (lv' := [(1, .long (1 : Int64)), (0, .int l0)]) dX8_factorial_1 (Nat.le_of_ble_eq_true rfl) rfl ?_
  refine Mh_iconst (v := 2) dX8_factorial_2 (by decide) ?_
  refine Mh_istore_n (lv' := [(3, .int (2 : Int32)), (1, .long (1 : Int64)), (0, .int l0)]) dX8_factorial_3 (Nat.le_of_ble_eq_true rfl) rfl ?_
  refine Mh_sub (lv' := [(0, .int l0), (1, .long (1 : Int64)), (3, .int (2 : Int32))]) [2, 1, 0] rfl ?_
  exact t_X8_factorial_4 l E c0 s0 _ _ _ _ _ _
def F_X8_factorial (a0 : Int32) (m : Mm) (o : Prop) : Int64 × Mm × Prop := f_X8_factorial_0 a0 m o
theorem T_X8_factorial (l : Launch) (E : En) (a0 : Int32) (m : Mm) (o : Prop) : Mt wJ l E yX8_factorial mi_X8_factorial [.int a0] m o (F_X8_factorial a0 m o) :=
  Mt_J (by decide) rfl rfl rfl (Nat.le_of_ble_eq_true rfl) rfl (t_X8_factorial_0 l E _ _ _ _ _)
def f_X8_sum_165 (k58 : Int32 → Int32 → Int32 → Int32 → Int32 → Int64 → Int32 → Mm → Prop → Int64 × Mm × Prop) (k68 : Int32 → Int32 → Int32 → Int32 → Int32 → Int64 → Int32 → Int32 → Mm → Prop → Int64 × Mm × Prop) (l2 : Int32) (l3 : Int32) (l5 : Int32) (l6 : Int32) (l7 : Int32) (l8 : Int64) (l10 : Int32) (l11 : Int32) (m : Mm) (o : Prop) : Int64 × Mm × Prop := k68 l2 l3 l5 l6 l7 l8 l10 (l11 + 1) m o
set_option maxRecDepth 10000 in
theorem t_X8_sum_165 (l : Launch) (E : En) (c0 s0 : Nat) (k58 : Int32 → Int32 → Int32 → Int32 → Int32 → Int64 → Int32 → Mm → Prop → Int64 × Mm × Prop) (hk58 : ∀ (l2 : Int32) (l3 : Int32) (l5 : Int32) (l6 : Int32) (l7 : Int32) (l8 : Int64) (l10 : Int32) (m : Mm) (o : Prop), Mh wJ l E mi_X8_sum c0 s0 58 [(2, .int l2), (3, .int l3), (5, .int l5), (6, .int l6), (7, .int l7), (8, .long l8), (10, .int l10)] [] m o (k58 l2 l3 l5 l6 l7 l8 l10 m o)) (k68 : Int32 → Int32 → Int32 → Int32 → Int32 → Int64 → Int32 → Int32 → Mm → Prop → Int64 × Mm × Prop) (hk68 : ∀ (l2 : Int32) (l3 : Int32) (l5 : Int32) (l6 : Int32) (l7 : Int32) (l8 : Int64) (l10 : Int32) (l11 : Int32) (m : Mm) (o : Prop), Mh wJ l E mi_X8_sum c0 s0 68 [(2, .int l2), (3, .int l3), (5, .int l5), (6, .int l6), (7, .int l7), (8, .long l8), (10, .int l10), (11, .int l11)] [] m o (k68 l2 l3 l5 l6 l7 l8 l10 l11 m o)) (l2 : Int32) (l3 : Int32) (l5 : Int32) (l6 : Int32) (l7 : Int32) (l8 : Int64) (l10 : Int32) (l11 : Int32) (m : Mm) (o : Prop) : Mh wJ l E mi_X8_sum c0 s0 165 [(2, .int l2), (3, .int l3), (5, .int l5), (6, .int l6), (7, .int l7), (8, .long l8), (10, .int l10), (11, .int l11)] [] m o (f_X8_sum_165 k58 k68 l2 l3 l5 l6 l7 l8 l10 l11 m o) := by
  refine Mh_iinc (v := l11 + 1) (lv' := [(11, .int (l11 + 1)), (2, .int l2), (3, .int l3), (5, .int l5), (6, .int l6), (7, .int l7), (8, .long l8), (10, .int l10)]) 7 dX8_sum_165 rfl rfl (Nat.le_of_ble_eq_true rfl) rfl ?_
  refine Mh_goto (tgt := 68) dX8_sum_168 (by decide) ?_
  refine Mh_sub (lv' := [(2, .int l2), (3, .int l3), (5, .int l5), (6, .int l6), (7, .int l7), (8, .long l8), (10, .int l10), (11, .int (l11 + 1))]) [1, 2, 3, 4, 5, 6, 7, 0] rfl ?_
  exact hk68 _ _ _ _ _ _ _ _ _ _
def f_X8_sum_162 (k58 : Int32 → Int32 → Int32 → Int32 → Int32 → Int64 → Int32 → Mm → Prop → Int64 × Mm × Prop) (k68 : Int32 → Int32 → Int32 → Int32 → Int32 → Int64 → Int32 → Int32 → Mm → Prop → Int64 × Mm × Prop) (l2 : Int32) (l3 : Int32) (l5 : Int32) (l6 : Int32) (l7 : Int32) (l10 : Int32) (l11 : Int32) (y1 : Int64) (y0 : Int64) (m : Mm) (o : Prop) : Int64 × Mm × Prop := f_X8_sum_165 k58 k68 l2 l3 l5 l6 l7 (y0 + y1) l10 l11 m o
set_option maxRecDepth 10000 in
theorem t_X8_sum_162 (l : Launch) (E : En) (c0 s0 : Nat) (k58 : Int32 → Int32 → Int32 → Int32 → Int32 → Int64 → Int32 → Mm → Prop → Int64 × Mm × Prop) (hk58 : ∀ (l2 : Int32) (l3 : Int32) (l5 : Int32) (l6 : Int32) (l7 : Int32) (l8 : Int64) (l10 : Int32) (m : Mm) (o : Prop), Mh wJ l E mi_X8_sum c0 s0 58 [(2, .int l2), (3, .int l3), (5, .int l5), (6, .int l6), (7, .int l7), (8, .long l8), (10, .int l10)] [] m o (k58 l2 l3 l5 l6 l7 l8 l10 m o)) (k68 : Int32 → Int32 → Int32 → Int32 → Int32 → Int64 → Int32 → Int32 → Mm → Prop → Int64 × Mm × Prop) (hk68 : ∀ (l2 : Int32) (l3 : Int32) (l5 : Int32) (l6 : Int32) (l7 : Int32) (l8 : Int64) (l10 : Int32) (l11 : Int32) (m : Mm) (o : Prop), Mh wJ l E mi_X8_sum c0 s0 68 [(2, .int l2), (3, .int l3), (5, .int l5), (6, .int l6), (7, .int l7), (8, .long l8), (10, .int l10), (11, .int l11)] [] m o (k68 l2 l3 l5 l6 l7 l8 l10 l11 m o)) (l2 : Int32) (l3 : Int32) (l5 : Int32) (l6 : Int32) (l7 : Int32) (l10 : Int32) (l11 : Int32) (y1 : Int64) (y0 : Int64) (m : Mm) (o : Prop) : Mh wJ l E mi_X8_sum c0 s0 162 [(2, .int l2), (3, .int l3), (5, .int l5), (6, .int l6), (7, .int l7), (10, .int l10), (11, .int l11)] [.long y1, .long y0] m o (f_X8_sum_162 k58 k68 l2 l3 l5 l6 l7 l10 l11 y1 y0 m o) := by
  refine Mh_ladd dX8_sum_162 ?_
  refine Mh_lstore (lv' := [(8, .long (y0 + y1)), (2, .int l2), (3, .int l3), (5, .int l5), (6, .int l6), (7, .int l7), (10, .int l10), (11, .int l11)]) dX8_sum_163 (Nat.le_of_ble_eq_true rfl) rfl ?_
  refine Mh_sub (lv' := [(2, .int l2), (3, .int l3), (5, .int l5), (6, .int l6), (7, .int l7), (8, .long (y0 + y1)), (10, .int l10), (11, .int l11)]) [1, 2, 3, 4, 5, 0, 6, 7] rfl ?_
  exact t_X8_sum_165 l E c0 s0 k58 hk58 k68 hk68 _ _ _ _ _ _ _ _ _ _
def f_X8_sum_156 (k58 : Int32 → Int32 → Int32 → Int32 → Int32 → Int64 → Int32 → Mm → Prop → Int64 × Mm × Prop) (k68 : Int32 → Int32 → Int32 → Int32 → Int32 → Int64 → Int32 → Int32 → Mm → Prop → Int64 × Mm × Prop) (l2 : Int32) (l3 : Int32) (l5 : Int32) (l6 : Int32) (l7 : Int32) (l10 : Int32) (l11 : Int32) (y2 : Int64) (y1 : Int64) (y0 : Int64) (m : Mm) (o : Prop) : Int64 × Mm × Prop := f_X8_sum_162 k58 k68 l2 l3 l5 l6 l7 l10 l11 (y1 * y2) y0 m o
set_option maxRecDepth 10000 in
theorem t_X8_sum_156 (l : Launch) (E : En) (c0 s0 : Nat) (k58 : Int32 → Int32 → Int32 → Int32 → Int32 → Int64 → Int32 → Mm → Prop → Int64 × Mm × Prop) (hk58 : ∀ (l2 : Int32) (l3 : Int32) (l5 : Int32) (l6 : Int32) (l7 : Int32) (l8 : Int64) (l10 : Int32) (m : Mm) (o : Prop), Mh wJ l E mi_X8_sum c0 s0 58 [(2, .int l2), (3, .int l3), (5, .int l5), (6, .int l6), (7, .int l7), (8, .long l8), (10, .int l10)] [] m o (k58 l2 l3 l5 l6 l7 l8 l10 m o)) (k68 : Int32 → Int32 → Int32 → Int32 → Int32 → Int64 → Int32 → Int32 → Mm → Prop → Int64 × Mm × Prop) (hk68 : ∀ (l2 : Int32) (l3 : Int32) (l5 : Int32) (l6 : Int32) (l7 : Int32) (l8 : Int64) (l10 : Int32) (l11 : Int32) (m : Mm) (o : Prop), Mh wJ l E mi_X8_sum c0 s0 68 [(2, .int l2), (3, .int l3), (5, .int l5), (6, .int l6), (7, .int l7), (8, .long l8), (10, .int l10), (11, .int l11)] [] m o (k68 l2 l3 l5 l6 l7 l8 l10 l11 m o)) (l2 : Int32) (l3 : Int32) (l5 : Int32) (l6 : Int32) (l7 : Int32) (l10 : Int32) (l11 : Int32) (y2 : Int64) (y1 : Int64) (y0 : Int64) (m : Mm) (o : Prop) : Mh wJ l E mi_X8_sum c0 s0 156 [(2, .int l2), (3, .int l3), (5, .int l5), (6, .int l6), (7, .int l7), (10, .int l10), (11, .int l11)] [.long y2, .long y1, .long y0] m o (f_X8_sum_156 k58 k68 l2 l3 l5 l6 l7 l10 l11 y2 y1 y0 m o) := by
  refine Mh_lmul dX8_sum_156 ?_
  refine Mh_goto (tgt := 162) dX8_sum_157 (by decide) ?_
  exact t_X8_sum_162 l E c0 s0 k58 hk58 k68 hk68 _ _ _ _ _ _ _ _ _ _ _
def f_X8_sum_144 (k58 : Int32 → Int32 → Int32 → Int32 → Int32 → Int64 → Int32 → Mm → Prop → Int64 × Mm × Prop) (k68 : Int32 → Int32 → Int32 → Int32 → Int32 → Int64 → Int32 → Int32 → Mm → Prop → Int64 × Mm × Prop) (l2 : Int32) (l3 : Int32) (l5 : Int32) (l6 : Int32) (l7 : Int32) (l10 : Int32) (l11 : Int32) (y2 : Int64) (y1 : Int64) (y0 : Int64) (m : Mm) (o : Prop) : Int64 × Mm × Prop := bnd (F_X8_factorial ((l7 - l10) - l11) m o) (fun v1 m1 o1 => f_X8_sum_156 k58 k68 l2 l3 l5 l6 l7 l10 l11 v1 (y1 * y2) y0 m1 o1)
set_option maxRecDepth 10000 in
theorem t_X8_sum_144 (l : Launch) (E : En) (c0 s0 : Nat) (k58 : Int32 → Int32 → Int32 → Int32 → Int32 → Int64 → Int32 → Mm → Prop → Int64 × Mm × Prop) (hk58 : ∀ (l2 : Int32) (l3 : Int32) (l5 : Int32) (l6 : Int32) (l7 : Int32) (l8 : Int64) (l10 : Int32) (m : Mm) (o : Prop), Mh wJ l E mi_X8_sum c0 s0 58 [(2, .int l2), (3, .int l3), (5, .int l5), (6, .int l6), (7, .int l7), (8, .long l8), (10, .int l10)] [] m o (k58 l2 l3 l5 l6 l7 l8 l10 m o)) (k68 : Int32 → Int32 → Int32 → Int32 → Int32 → Int64 → Int32 → Int32 → Mm → Prop → Int64 × Mm × Prop) (hk68 : ∀ (l2 : Int32) (l3 : Int32) (l5 : Int32) (l6 : Int32) (l7 : Int32) (l8 : Int64) (l10 : Int32) (l11 : Int32) (m : Mm) (o : Prop), Mh wJ l E mi_X8_sum c0 s0 68 [(2, .int l2), (3, .int l3), (5, .int l5), (6, .int l6), (7, .int l7), (8, .long l8), (10, .int l10), (11, .int l11)] [] m o (k68 l2 l3 l5 l6 l7 l8 l10 l11 m o)) (l2 : Int32) (l3 : Int32) (l5 : Int32) (l6 : Int32) (l7 : Int32) (l10 : Int32) (l11 : Int32) (y2 : Int64) (y1 : Int64) (y0 : Int64) (m : Mm) (o : Prop) : Mh wJ l E mi_X8_sum c0 s0 144 [(2, .int l2), (3, .int l3), (5, .int l5), (6, .int l6), (7, .int l7), (10, .int l10), (11, .int l11)] [.long y2, .long y1, .long y0] m o (f_X8_sum_144 k58 k68 l2 l3 l5 l6 l7 l10 l11 y2 y1 y0 m o) := by
  refine Mh_lmul dX8_sum_144 ?_
  refine Mh_iload 4 rfl dX8_sum_145 ?_
  refine Mh_iload 5 rfl dX8_sum_147 ?_
  refine Mh_isub dX8_sum_149 ?_
  refine Mh_iload 6 rfl dX8_sum_150 ?_
  refine Mh_isub dX8_sum_152 ?_
  refine Mh_csJ (N := mi_X8_factorial) (as := [.int ((l7 - l10) - l11)]) (st := [.long (y1 * y2), .long y0]) cg_yX8_factorial (.inl ml_RX8_34) sv_yX8_factorial pd_yX8_factorial rfl (by decide) (Nat.le_of_ble_eq_true rfl) rfl dX8_sum_153 (T_X8_factorial l E _ _ _) rfl ?_
  exact t_X8_sum_156 l E c0 s0 k58 hk58 k68 hk68 _ _ _ _ _ _ _ _ _ _ _ _
def f_X8_sum_125 (k58 : Int32 → Int32 → Int32 → Int32 → Int32 → Int64 → Int32 → Mm → Prop → Int64 × Mm × Prop) (k68 : Int32 → Int32 → Int32 → Int32 → Int32 → Int64 → Int32 → Int32 → Mm → Prop → Int64 × Mm × Prop) (l2 : Int32) (l3 : Int32) (l5 : Int32) (l6 : Int32) (l7 : Int32) (l8 : Int64) (l10 : Int32) (l11 : Int32) (y1 : Int64) (y0 : Int64) (m : Mm) (o : Prop) : Int64 × Mm × Prop := if l2 = 0 then (f_X8_sum_162 k58 k68 l2 l3 l5 l6 l7 l10 l11 (y0 * y1) l8 m o) else (bnd (F_X8_factorial (l10 + l11) m o) (fun v1 m1 o1 => f_X8_sum_144 k58 k68 l2 l3 l5 l6 l7 l10 l11 v1 (y0 * y1) l8 m1 o1))
set_option maxRecDepth 10000 in
theorem t_X8_sum_125 (l : Launch) (E : En) (c0 s0 : Nat) (k58 : Int32 → Int32 → Int32 → Int32 → Int32 → Int64 → Int32 → Mm → Prop → Int64 × Mm × Prop) (hk58 : ∀ (l2 : Int32) (l3 : Int32) (l5 : Int32) (l6 : Int32) (l7 : Int32) (l8 : Int64) (l10 : Int32) (m : Mm) (o : Prop), Mh wJ l E mi_X8_sum c0 s0 58 [(2, .int l2), (3, .int l3), (5, .int l5), (6, .int l6), (7, .int l7), (8, .long l8), (10, .int l10)] [] m o (k58 l2 l3 l5 l6 l7 l8 l10 m o)) (k68 : Int32 → Int32 → Int32 → Int32 → Int32 → Int64 → Int32 → Int32 → Mm → Prop → Int64 × Mm × Prop) (hk68 : ∀ (l2 : Int32) (l3 : Int32) (l5 : Int32) (l6 : Int32) (l7 : Int32) (l8 : Int64) (l10 : Int32) (l11 : Int32) (m : Mm) (o : Prop), Mh wJ l E mi_X8_sum c0 s0 68 [(2, .int l2), (3, .int l3), (5, .int l5), (6, .int l6), (7, .int l7), (8, .long l8), (10, .int l10), (11, .int l11)] [] m o (k68 l2 l3 l5 l6 l7 l8 l10 l11 m o)) (l2 : Int32) (l3 : Int32) (l5 : Int32) (l6 : Int32) (l7 : Int32) (l8 : Int64) (l10 : Int32) (l11 : Int32) (y1 : Int64) (y0 : Int64) (m : Mm) (o : Prop) : Mh wJ l E mi_X8_sum c0 s0 125 [(2, .int l2), (3, .int l3), (5, .int l5), (6, .int l6), (7, .int l7), (8, .long l8), (10, .int l10), (11, .int l11)] [.long y1, .long y0] m o (f_X8_sum_125 k58 k68 l2 l3 l5 l6 l7 l8 l10 l11 y1 y0 m o) := by
  refine Mh_lmul dX8_sum_125 ?_
  refine Mh_lstore (lv' := [(13, .long (y0 * y1)), (2, .int l2), (3, .int l3), (5, .int l5), (6, .int l6), (7, .int l7), (8, .long l8), (10, .int l10), (11, .int l11)]) dX8_sum_126 (Nat.le_of_ble_eq_true rfl) rfl ?_
  refine Mh_lload 6 rfl dX8_sum_128 ?_
  refine Mh_iload_n 1 rfl dX8_sum_130 ?_
  refine Mh_if_eq (tgt := 160) dX8_sum_131 (by decide) rfl (fun _ => ?_) (fun _ => ?_)
  · refine Mh_lload 0 rfl dX8_sum_160 ?_
    refine Mh_sub (lv' := [(2, .int l2), (3, .int l3), (5, .int l5), (6, .int l6), (7, .int l7), (10, .int l10), (11, .int l11)]) [1, 2, 3, 4, 5, 7, 8] rfl ?_
    exact t_X8_sum_162 l E c0 s0 k58 hk58 k68 hk68 _ _ _ _ _ _ _ _ _ _ _
  · refine Mh_lload 0 rfl dX8_sum_134 ?_
    refine Mh_iload 7 rfl dX8_sum_136 ?_
    refine Mh_iload 8 rfl dX8_sum_138 ?_
    refine Mh_iadd dX8_sum_140 ?_
    refine Mh_csJ (N := mi_X8_factorial) (as := [.int (l10 + l11)]) (st := [.long (y0 * y1), .long l8]) cg_yX8_factorial (.inl ml_RX8_34) sv_yX8_factorial pd_yX8_factorial rfl (by decide) (Nat.le_of_ble_eq_true rfl) rfl dX8_sum_141 (T_X8_factorial l E _ _ _) rfl ?_
    refine Mh_sub (lv' := [(2, .int l2), (3, .int l3), (5, .int l5), (6, .int l6), (7, .int l7), (10, .int l10), (11, .int l11)]) [1, 2, 3, 4, 5, 7, 8] rfl ?_
    exact t_X8_sum_144 l E c0 s0 k58 hk58 k68 hk68 _ _ _ _ _ _ _ _ _ _ _ _
def f_X8_sum_115 (k58 : Int32 → Int32 → Int32 → Int32 → Int32 → Int64 → Int32 → Mm → Prop → Int64 × Mm × Prop) (k68 : Int32 → Int32 → Int32 → Int32 → Int32 → Int64 → Int32 → Int32 → Mm → Prop → Int64 × Mm × Prop) (l2 : Int32) (l3 : Int32) (l5 : Int32) (l6 : Int32) (l7 : Int32) (l8 : Int64) (l10 : Int32) (l11 : Int32) (y0 : Int64) (m : Mm) (o : Prop) : Int64 × Mm × Prop := bnd (F_X8_choose (l7 - l6) l11 m o) (fun v1 m1 o1 => f_X8_sum_125 k58 k68 l2 l3 l5 l6 l7 l8 l10 l11 v1 y0 m1 o1)
set_option maxRecDepth 10000 in
theorem t_X8_sum_115 (l : Launch) (E : En) (c0 s0 : Nat) (k58 : Int32 → Int32 → Int32 → Int32 → Int32 → Int64 → Int32 → Mm → Prop → Int64 × Mm × Prop) (hk58 : ∀ (l2 : Int32) (l3 : Int32) (l5 : Int32) (l6 : Int32) (l7 : Int32) (l8 : Int64) (l10 : Int32) (m : Mm) (o : Prop), Mh wJ l E mi_X8_sum c0 s0 58 [(2, .int l2), (3, .int l3), (5, .int l5), (6, .int l6), (7, .int l7), (8, .long l8), (10, .int l10)] [] m o (k58 l2 l3 l5 l6 l7 l8 l10 m o)) (k68 : Int32 → Int32 → Int32 → Int32 → Int32 → Int64 → Int32 → Int32 → Mm → Prop → Int64 × Mm × Prop) (hk68 : ∀ (l2 : Int32) (l3 : Int32) (l5 : Int32) (l6 : Int32) (l7 : Int32) (l8 : Int64) (l10 : Int32) (l11 : Int32) (m : Mm) (o : Prop), Mh wJ l E mi_X8_sum c0 s0 68 [(2, .int l2), (3, .int l3), (5, .int l5), (6, .int l6), (7, .int l7), (8, .long l8), (10, .int l10), (11, .int l11)] [] m o (k68 l2 l3 l5 l6 l7 l8 l10 l11 m o)) (l2 : Int32) (l3 : Int32) (l5 : Int32) (l6 : Int32) (l7 : Int32) (l8 : Int64) (l10 : Int32) (l11 : Int32) (y0 : Int64) (m : Mm) (o : Prop) : Mh wJ l E mi_X8_sum c0 s0 115 [(2, .int l2), (3, .int l3), (5, .int l5), (6, .int l6), (7, .int l7), (8, .long l8), (10, .int l10), (11, .int l11)] [.long y0] m o (f_X8_sum_115 k58 k68 l2 l3 l5 l6 l7 l8 l10 l11 y0 m o) := by
  refine Mh_iload 4 rfl dX8_sum_115 ?_
  refine Mh_iload 3 rfl dX8_sum_117 ?_
  refine Mh_isub dX8_sum_119 ?_
  refine Mh_iload 7 rfl dX8_sum_120 ?_
  refine Mh_csJ (N := mi_X8_choose) (as := [.int (l7 - l6), .int l11]) (st := [.long y0]) cg_yX8_choose (.inl ml_RX8_30) sv_yX8_choose pd_yX8_choose rfl (by decide) (Nat.le_of_ble_eq_true rfl) rfl dX8_sum_122 (T_X8_choose l E _ _ _ _) rfl ?_
  exact t_X8_sum_125 l E c0 s0 k58 hk58 k68 hk68 _ _ _ _ _ _ _ _ _ _ _ _
def f_X8_sum_68b (k58 : Int32 → Int32 → Int32 → Int32 → Int32 → Int64 → Int32 → Mm → Prop → Int64 × Mm × Prop) (k68 : Int32 → Int32 → Int32 → Int32 → Int32 → Int64 → Int32 → Int32 → Mm → Prop → Int64 × Mm × Prop) (l2 : Int32) (l3 : Int32) (l5 : Int32) (l6 : Int32) (l7 : Int32) (l8 : Int64) (l10 : Int32) (l11 : Int32) (m : Mm) (o : Prop) : Int64 × Mm × Prop := if (l7 - l6) < l11 then (k58 l2 l3 l5 l6 l7 l8 (l10 + 1) m o) else (if l5 < ((2 : Int32) * (((9 : Int32) * l10) + l11)) then (f_X8_sum_165 k58 k68 l2 l3 l5 l6 l7 l8 l10 l11 m o) else (if ((2 : Int32) * ((((9 : Int32) * l10) + l11) + l3)) ≤ l5 then (f_X8_sum_165 k58 k68 l2 l3 l5 l6 l7 l8 l10 l11 m o) else (bnd (F_X8_choose l6 l10 m o) (fun v1 m1 o1 => f_X8_sum_115 k58 k68 l2 l3 l5 l6 l7 l8 l10 l11 v1 m1 o1))))
set_option maxRecDepth 10000 in
theorem t_X8_sum_68b (l : Launch) (E : En) (c0 s0 : Nat) (k58 : Int32 → Int32 → Int32 → Int32 → Int32 → Int64 → Int32 → Mm → Prop → Int64 × Mm × Prop) (hk58 : ∀ (l2 : Int32) (l3 : Int32) (l5 : Int32) (l6 : Int32) (l7 : Int32) (l8 : Int64) (l10 : Int32) (m : Mm) (o : Prop), Mh wJ l E mi_X8_sum c0 s0 58 [(2, .int l2), (3, .int l3), (5, .int l5), (6, .int l6), (7, .int l7), (8, .long l8), (10, .int l10)] [] m o (k58 l2 l3 l5 l6 l7 l8 l10 m o)) (k68 : Int32 → Int32 → Int32 → Int32 → Int32 → Int64 → Int32 → Int32 → Mm → Prop → Int64 × Mm × Prop) (hk68 : ∀ (l2 : Int32) (l3 : Int32) (l5 : Int32) (l6 : Int32) (l7 : Int32) (l8 : Int64) (l10 : Int32) (l11 : Int32) (m : Mm) (o : Prop), Mh wJ l E mi_X8_sum c0 s0 68 [(2, .int l2), (3, .int l3), (5, .int l5), (6, .int l6), (7, .int l7), (8, .long l8), (10, .int l10), (11, .int l11)] [] m o (k68 l2 l3 l5 l6 l7 l8 l10 l11 m o)) (l2 : Int32) (l3 : Int32) (l5 : Int32) (l6 : Int32) (l7 : Int32) (l8 : Int64) (l10 : Int32) (l11 : Int32) (m : Mm) (o : Prop) : Mh wJ l E mi_X8_sum c0 s0 68 [(2, .int l2), (3, .int l3), (5, .int l5), (6, .int l6), (7, .int l7), (8, .long l8), (10, .int l10), (11, .int l11)] [] m o (f_X8_sum_68b k58 k68 l2 l3 l5 l6 l7 l8 l10 l11 m o) := by
  refine Mh_iload 7 rfl dX8_sum_68 ?_
  refine Mh_iload 4 rfl dX8_sum_70 ?_
  refine Mh_iload 3 rfl dX8_sum_72 ?_
  refine Mh_isub dX8_sum_74 ?_
  refine Mh_icmp_gt (tgt := 171) dX8_sum_75 (by decide) rfl (fun _ => ?_) (fun _ => ?_)
  · refine Mh_iinc (v := l10 + 1) (lv' := [(10, .int (l10 + 1)), (2, .int l2), (3, .int l3), (5, .int l5), (6, .int l6), (7, .int l7), (8, .long l8), (11, .int l11)]) 6 dX8_sum_171 rfl rfl (Nat.le_of_ble_eq_true rfl) rfl ?_
    refine Mh_goto (tgt := 58) dX8_sum_174 (by decide) ?_
    refine Mh_sub (lv' := [(2, .int l2), (3, .int l3), (5, .int l5), (6, .int l6), (7, .int l7), (8, .long l8), (10, .int (l10 + 1))]) [1, 2, 3, 4, 5, 6, 0] rfl ?_
    exact hk58 _ _ _ _ _ _ _ _ _
  · refine Mh_bipush (v := 9) dX8_sum_78 (by decide) ?_
    refine Mh_iload 6 rfl dX8_sum_80 ?_
    refine Mh_imul dX8_sum_82 ?_
    refine Mh_iload 7 rfl dX8_sum_83 ?_
    refine Mh_iadd dX8_sum_85 ?_
    refine Mh_istore (lv' := [(12, .int (((9 : Int32) * l10) + l11)), (2, .int l2), (3, .int l3), (5, .int l5), (6, .int l6), (7, .int l7), (8, .long l8), (10, .int l10), (11, .int l11)]) dX8_sum_86 (Nat.le_of_ble_eq_true rfl) rfl ?_
    refine Mh_iconst (v := 2) dX8_sum_88 (by decide) ?_
    refine Mh_iload 0 rfl dX8_sum_89 ?_
    refine Mh_imul dX8_sum_91 ?_
    refine Mh_iload 3 rfl dX8_sum_92 ?_
    refine Mh_icmp_gt (tgt := 165) dX8_sum_94 (by decide) rfl (fun _ => ?_) (fun _ => ?_)
    · refine Mh_sub (lv' := [(2, .int l2), (3, .int l3), (5, .int l5), (6, .int l6), (7, .int l7), (8, .long l8), (10, .int l10), (11, .int l11)]) [1, 2, 3, 4, 5, 6, 7, 8] rfl ?_
      exact t_X8_sum_165 l E c0 s0 k58 hk58 k68 hk68 _ _ _ _ _ _ _ _ _ _
    · refine Mh_iconst (v := 2) dX8_sum_97 (by decide) ?_
      refine Mh_iload 0 rfl dX8_sum_98 ?_
      refine Mh_iload_n 2 rfl dX8_sum_100 ?_
      refine Mh_iadd dX8_sum_101 ?_
      refine Mh_imul dX8_sum_102 ?_
      refine Mh_iload 3 rfl dX8_sum_103 ?_
      refine Mh_icmp_le (tgt := 165) dX8_sum_105 (by decide) rfl (fun _ => ?_) (fun _ => ?_)
      · refine Mh_sub (lv' := [(2, .int l2), (3, .int l3), (5, .int l5), (6, .int l6), (7, .int l7), (8, .long l8), (10, .int l10), (11, .int l11)]) [1, 2, 3, 4, 5, 6, 7, 8] rfl ?_
        exact t_X8_sum_165 l E c0 s0 k58 hk58 k68 hk68 _ _ _ _ _ _ _ _ _ _
      · refine Mh_iload 4 rfl dX8_sum_108 ?_
        refine Mh_iload 7 rfl dX8_sum_110 ?_
        refine Mh_csJ (N := mi_X8_choose) (as := [.int l6, .int l10]) (st := []) cg_yX8_choose (.inl ml_RX8_30) sv_yX8_choose pd_yX8_choose rfl (by decide) (Nat.le_of_ble_eq_true rfl) rfl dX8_sum_112 (T_X8_choose l E _ _ _ _) rfl ?_
        refine Mh_sub (lv' := [(2, .int l2), (3, .int l3), (5, .int l5), (6, .int l6), (7, .int l7), (8, .long l8), (10, .int l10), (11, .int l11)]) [1, 2, 3, 4, 5, 6, 7, 8] rfl ?_
        exact t_X8_sum_115 l E c0 s0 k58 hk58 k68 hk68 _ _ _ _ _ _ _ _ _ _ _
def f_X8_sum_68 (k58 : Int32 → Int32 → Int32 → Int32 → Int32 → Int64 → Int32 → Mm → Prop → Int64 × Mm × Prop) : Nat → Int32 → Int32 → Int32 → Int32 → Int32 → Int64 → Int32 → Int32 → Mm → Prop → Int64 × Mm × Prop
  | 0, _, _, _, _, _, _, _, _, m, _ => (0, m, False)
  | n + 1, l2, l3, l5, l6, l7, l8, l10, l11, m, o => f_X8_sum_68b k58 (f_X8_sum_68 k58 n) l2 l3 l5 l6 l7 l8 l10 l11 m o
theorem t_X8_sum_68 (l : Launch) (E : En) (c0 s0 : Nat) (k58 : Int32 → Int32 → Int32 → Int32 → Int32 → Int64 → Int32 → Mm → Prop → Int64 × Mm × Prop) (hk58 : ∀ (l2 : Int32) (l3 : Int32) (l5 : Int32) (l6 : Int32) (l7 : Int32) (l8 : Int64) (l10 : Int32) (m : Mm) (o : Prop), Mh wJ l E mi_X8_sum c0 s0 58 [(2, .int l2), (3, .int l3), (5, .int l5), (6, .int l6), (7, .int l7), (8, .long l8), (10, .int l10)] [] m o (k58 l2 l3 l5 l6 l7 l8 l10 m o)) : ∀ (n : Nat) (l2 : Int32) (l3 : Int32) (l5 : Int32) (l6 : Int32) (l7 : Int32) (l8 : Int64) (l10 : Int32) (l11 : Int32) (m : Mm) (o : Prop), Mh wJ l E mi_X8_sum c0 s0 68 [(2, .int l2), (3, .int l3), (5, .int l5), (6, .int l6), (7, .int l7), (8, .long l8), (10, .int l10), (11, .int l11)] [] m o (f_X8_sum_68 k58 n l2 l3 l5 l6 l7 l8 l10 l11 m o)
  | 0, _, _, _, _, _, _, _, _, _, _ => Mh_out rfl
  | n + 1, l2, l3, l5, l6, l7, l8, l10, l11, m, o => t_X8_sum_68b l E c0 s0 k58 hk58 (f_X8_sum_68 k58 n) (t_X8_sum_68 l E c0 s0 k58 hk58 n) l2 l3 l5 l6 l7 l8 l10 l11 m o
def f_X8_sum_58b (k58 : Int32 → Int32 → Int32 → Int32 → Int32 → Int64 → Int32 → Mm → Prop → Int64 × Mm × Prop) (l2 : Int32) (l3 : Int32) (l5 : Int32) (l6 : Int32) (l7 : Int32) (l8 : Int64) (l10 : Int32) (m : Mm) (o : Prop) : Int64 × Mm × Prop := if l6 < l10 then (l8, m, o) else (f_X8_sum_68 k58 1000 l2 l3 l5 l6 l7 l8 l10 (0 : Int32) m o)
set_option maxRecDepth 10000 in
theorem t_X8_sum_58b (l : Launch) (E : En) (c0 s0 : Nat) (k58 : Int32 → Int32 → Int32 → Int32 → Int32 → Int64 → Int32 → Mm → Prop → Int64 × Mm × Prop) (hk58 : ∀ (l2 : Int32) (l3 : Int32) (l5 : Int32) (l6 : Int32) (l7 : Int32) (l8 : Int64) (l10 : Int32) (m : Mm) (o : Prop), Mh wJ l E mi_X8_sum c0 s0 58 [(2, .int l2), (3, .int l3), (5, .int l5), (6, .int l6), (7, .int l7), (8, .long l8), (10, .int l10)] [] m o (k58 l2 l3 l5 l6 l7 l8 l10 m o)) (l2 : Int32) (l3 : Int32) (l5 : Int32) (l6 : Int32) (l7 : Int32) (l8 : Int64) (l10 : Int32) (m : Mm) (o : Prop) : Mh wJ l E mi_X8_sum c0 s0 58 [(2, .int l2), (3, .int l3), (5, .int l5), (6, .int l6), (7, .int l7), (8, .long l8), (10, .int l10)] [] m o (f_X8_sum_58b k58 l2 l3 l5 l6 l7 l8 l10 m o) := by
  refine Mh_iload 6 rfl dX8_sum_58 ?_
  refine Mh_iload 3 rfl dX8_sum_60 ?_
  refine Mh_icmp_gt (tgt := 177) dX8_sum_62 (by decide) rfl (fun _ => ?_) (fun _ => ?_)
  · refine Mh_lload 5 rfl dX8_sum_177 ?_
    exact Mh_ret dX8_sum_179 rfl (fun _ => rfl) rfl
  · refine Mh_iconst (v := 0) dX8_sum_65 (by decide) ?_
    refine Mh_istore (lv' := [(11, .int (0 : Int32)), (2, .int l2), (3, .int l3), (5, .int l5), (6, .int l6), (7, .int l7), (8, .long l8), (10, .int l10)]) dX8_sum_66 (Nat.le_of_ble_eq_true rfl) rfl ?_
    refine Mh_sub (lv' := [(2, .int l2), (3, .int l3), (5, .int l5), (6, .int l6), (7, .int l7), (8, .long l8), (10, .int l10), (11, .int (0 : Int32))]) [1, 2, 3, 4, 5, 6, 7, 0] rfl ?_
    exact t_X8_sum_68 l E c0 s0 k58 hk58 _ _ _ _ _ _ _ _ _ _ _
def f_X8_sum_58 : Nat → Int32 → Int32 → Int32 → Int32 → Int32 → Int64 → Int32 → Mm → Prop → Int64 × Mm × Prop
  | 0, _, _, _, _, _, _, _, m, _ => (0, m, False)
  | n + 1, l2, l3, l5, l6, l7, l8, l10, m, o => f_X8_sum_58b (f_X8_sum_58 n) l2 l3 l5 l6 l7 l8 l10 m o
theorem t_X8_sum_58 (l : Launch) (E : En) (c0 s0 : Nat) : ∀ (n : Nat) (l2 : Int32) (l3 : Int32) (l5 : Int32) (l6 : Int32) (l7 : Int32) (l8 : Int64) (l10 : Int32) (m : Mm) (o : Prop), Mh wJ l E mi_X8_sum c0 s0 58 [(2, .int l2), (3, .int l3), (5, .int l5), (6, .int l6), (7, .int l7), (8, .long l8), (10, .int l10)] [] m o (f_X8_sum_58 n l2 l3 l5 l6 l7 l8 l10 m o)
  | 0, _, _, _, _, _, _, _, _, _ => Mh_out rfl
  | n + 1, l2, l3, l5, l6, l7, l8, l10, m, o => t_X8_sum_58b l E c0 s0 (f_X8_sum_58 n) (t_X8_sum_58 l E c0 s0 n) l2 l3 l5 l6 l7 l8 l10 m o
def f_X8_sum_42 (l0 : Nat) (l2 : Int32) (l3 : Int32) (l5 : Int32) (y0 : Int32) (m : Mm) (o : Prop) : Int64 × Mm × Prop := f_X8_sum_58 1000 l2 l3 l5 y0 ((gI m l0 7) - (1 : Int32)) (0 : Int64) (0 : Int32) m (o ∧ gT m l0 = 6)
set_option maxRecDepth 10000 in
theorem t_X8_sum_42 (l : Launch) (E : En) (c0 s0 : Nat) (l0 : Nat) (l2 : Int32) (l3 : Int32) (l5 : Int32) (y0 : Int32) (m : Mm) (o : Prop) : Mh wJ l E mi_X8_sum c0 s0 42 [(0, .ref l0), (2, .int l2), (3, .int l3), (5, .int l5)] [.int y0] m o (f_X8_sum_42 l0 l2 l3 l5 y0 m o) := by
  refine Mh_istore (lv' := [(6, .int y0), (0, .ref l0), (2, .int l2), (3, .int l3), (5, .int l5)]) dX8_sum_42 (Nat.le_of_ble_eq_true rfl) rfl ?_
  refine Mh_aload_n 1 rfl dX8_sum_44 ?_
  refine Mh_gI fd_5_7 fl_RX8_27 dX8_sum_45 ?_
  refine Mh_iconst (v := 1) dX8_sum_48 (by decide) ?_
  refine Mh_isub dX8_sum_49 ?_
  refine Mh_istore (lv' := [(7, .int ((gI m l0 7) - (1 : Int32))), (6, .int y0), (0, .ref l0), (2, .int l2), (3, .int l3), (5, .int l5)]) dX8_sum_50 (Nat.le_of_ble_eq_true rfl) rfl ?_
  refine Mh_lconst (v := 0) dX8_sum_52 (by decide) ?_
  refine Mh_lstore (lv' := [(8, .long (0 : Int64)), (7, .int ((gI m l0 7) - (1 : Int32))), (6, .int y0), (0, .ref l0), (2, .int l2), (3, .int l3), (5, .int l5)]) dX8_sum_53 (Nat.le_of_ble_eq_true rfl) rfl ?_
  refine Mh_iconst (v := 0) dX8_sum_55 (by decide) ?_
  refine Mh_istore (lv' := [(10, .int (0 : Int32)), (8, .long (0 : Int64)), (7, .int ((gI m l0 7) - (1 : Int32))), (6, .int y0), (0, .ref l0), (2, .int l2), (3, .int l3), (5, .int l5)]) dX8_sum_56 (Nat.le_of_ble_eq_true rfl) rfl ?_
  refine Mh_sub (lv' := [(2, .int l2), (3, .int l3), (5, .int l5), (6, .int y0), (7, .int ((gI m l0 7) - (1 : Int32))), (8, .long (0 : Int64)), (10, .int (0 : Int32))]) [5, 6, 7, 3, 2, 1, 0] rfl ?_
  exact t_X8_sum_58 l E c0 s0 _ _ _ _ _ _ _ _ _ _
def f_X8_sum_14 (l0 : Nat) (l2 : Int32) (l3 : Int32) (y0 : Int32) (m : Mm) (o : Prop) : Int64 × Mm × Prop := if l3 = (1 : Int32) then (f_X8_sum_42 l0 l2 l3 ((gI m l0 7) + ((8 : Int32) * y0)) y0 m (o ∧ gT m l0 = 6)) else (f_X8_sum_42 l0 l2 l3 ((gI m l0 7) + ((8 : Int32) * y0)) (y0 - (1 : Int32)) m (o ∧ gT m l0 = 6))
set_option maxRecDepth 10000 in
theorem t_X8_sum_14 (l : Launch) (E : En) (c0 s0 : Nat) (l0 : Nat) (l2 : Int32) (l3 : Int32) (y0 : Int32) (m : Mm) (o : Prop) : Mh wJ l E mi_X8_sum c0 s0 14 [(0, .ref l0), (2, .int l2), (3, .int l3)] [.int y0] m o (f_X8_sum_14 l0 l2 l3 y0 m o) := by
  refine Mh_istore (lv' := [(4, .int y0), (0, .ref l0), (2, .int l2), (3, .int l3)]) dX8_sum_14 (Nat.le_of_ble_eq_true rfl) rfl ?_
  refine Mh_aload_n 1 rfl dX8_sum_16 ?_
  refine Mh_gI fd_5_7 fl_RX8_27 dX8_sum_17 ?_
  refine Mh_bipush (v := 8) dX8_sum_20 (by decide) ?_
  refine Mh_iload 0 rfl dX8_sum_22 ?_
  refine Mh_imul dX8_sum_24 ?_
  refine Mh_iadd dX8_sum_25 ?_
  refine Mh_istore (lv' := [(5, .int ((gI m l0 7) + ((8 : Int32) * y0))), (4, .int y0), (0, .ref l0), (2, .int l2), (3, .int l3)]) dX8_sum_26 (Nat.le_of_ble_eq_true rfl) rfl ?_
  refine Mh_iload_n 4 rfl dX8_sum_28 ?_
  refine Mh_iconst (v := 1) dX8_sum_29 (by decide) ?_
  refine Mh_icmp_ne (tgt := 38) dX8_sum_30 (by decide) rfl (fun _ => ?_) (fun _ => ?_)
  · refine Mh_iload 1 rfl dX8_sum_38 ?_
    refine Mh_iconst (v := 1) dX8_sum_40 (by decide) ?_
    refine Mh_isub dX8_sum_41 ?_
    refine Mh_sub (lv' := [(0, .ref l0), (2, .int l2), (3, .int l3), (5, .int ((gI m l0 7) + ((8 : Int32) * y0)))]) [2, 3, 4, 0] rfl ?_
    exact t_X8_sum_42 l E c0 s0 _ _ _ _ _ _ _
  · refine Mh_iload 1 rfl dX8_sum_33 ?_
    refine Mh_goto (tgt := 42) dX8_sum_35 (by decide) ?_
    refine Mh_sub (lv' := [(0, .ref l0), (2, .int l2), (3, .int l3), (5, .int ((gI m l0 7) + ((8 : Int32) * y0)))]) [2, 3, 4, 0] rfl ?_
    exact t_X8_sum_42 l E c0 s0 _ _ _ _ _ _ _
def f_X8_sum_0 (l0 : Nat) (l1 : Int32) (l2 : Int32) (m : Mm) (o : Prop) : Int64 × Mm × Prop := bnd (F_X8_bullCount l0 m (((o ∧ (gT m l0 = 6 ∧ gR m l0 1 ≠ 0)) ∧ (gT m (gR m l0 1) = 25 ∧ vp_in l1 (gN m (gR m l0 1)) ∧ gR m (gR m l0 1) (ix l1) ≠ 0)) ∧ gT m (gR m (gR m l0 1) (ix l1)) = 2)) (fun v1 m1 o1 => f_X8_sum_14 l0 l2 (gI m (gR m (gR m l0 1) (ix l1)) 2) v1 m1 o1)
set_option maxRecDepth 10000 in
theorem t_X8_sum_0 (l : Launch) (E : En) (c0 s0 : Nat) (l0 : Nat) (l1 : Int32) (l2 : Int32) (m : Mm) (o : Prop) : Mh wJ l E mi_X8_sum c0 s0 0 [(0, .ref l0), (1, .int l1), (2, .int l2)] [] m o (f_X8_sum_0 l0 l1 l2 m o) := by
  refine Mh_aload_n 0 rfl dX8_sum_0 ?_
  refine Mh_gR fd_5_1 fl_RX8_9 dX8_sum_1 ?_
  refine Mh_iload_n 1 rfl dX8_sum_4 ?_
  refine Mh_aal 25 (.inr rfl) dX8_sum_5 ?_
  refine Mh_gI fd_1_2 fl_RX8_15 dX8_sum_6 ?_
  refine Mh_istore_n (lv' := [(3, .int (gI m (gR m (gR m l0 1) (ix l1)) 2)), (0, .ref l0), (1, .int l1), (2, .int l2)]) dX8_sum_9 (Nat.le_of_ble_eq_true rfl) rfl ?_
  refine Mh_aload_n 1 rfl dX8_sum_10 ?_
  refine Mh_csI (N := mi_X8_bullCount) (as := [.ref l0]) (st := []) cg_yX8_bullCount (.inl ml_RX8_21) sv_yX8_bullCount pd_yX8_bullCount rfl (by decide) (Nat.le_of_ble_eq_true rfl) rfl dX8_sum_11 (T_X8_bullCount l E _ _ _) rfl ?_
  refine Mh_sub (lv' := [(0, .ref l0), (2, .int l2), (3, .int (gI m (gR m (gR m l0 1) (ix l1)) 2))]) [1, 3, 0] rfl ?_
  exact t_X8_sum_14 l E c0 s0 _ _ _ _ _ _
def F_X8_sum (a0 : Nat) (a1 : Int32) (a2 : Int32) (m : Mm) (o : Prop) : Int64 × Mm × Prop := f_X8_sum_0 a0 a1 a2 m o
theorem T_X8_sum (l : Launch) (E : En) (a0 : Nat) (a1 : Int32) (a2 : Int32) (m : Mm) (o : Prop) : Mt wJ l E yX8_sum mi_X8_sum [.ref a0, .int a1, .int a2] m o (F_X8_sum a0 a1 a2 m o) :=
  Mt_J (by decide) rfl rfl rfl (Nat.le_of_ble_eq_true rfl) rfl (t_X8_sum_0 l E _ _ _ _ _ _ _)
def f_X11_power_22 (y0 : Int32) (m : Mm) (o : Prop) : Int32 × Mm × Prop := (y0, m, o)
set_option maxRecDepth 10000 in
theorem t_X11_power_22 (l : Launch) (E : En) (c0 s0 : Nat) (y0 : Int32) (m : Mm) (o : Prop) : Mh wI l E mi_X11_power c0 s0 22 [] [.int y0] m o (f_X11_power_22 y0 m o) := by
  exact Mh_ret dX11_power_22 rfl (fun _ => rfl) rfl
def f_X11_power_17 (y0 : Int64) (m : Mm) (o : Prop) : Int32 × Mm × Prop := f_X11_power_22 (Int64.toInt32 y0) m o
set_option maxRecDepth 10000 in
theorem t_X11_power_17 (l : Launch) (E : En) (c0 s0 : Nat) (y0 : Int64) (m : Mm) (o : Prop) : Mh wI l E mi_X11_power c0 s0 17 [] [.long y0] m o (f_X11_power_17 y0 m o) := by
  refine Mh_l2i dX11_power_17 ?_
  refine Mh_goto (tgt := 22) dX11_power_18 (by decide) ?_
  exact t_X11_power_22 l E c0 s0 _ _ _
def f_X11_power_5 (l0 : Nat) (l1 : Int32) (y0 : Int32) (m : Mm) (o : Prop) : Int32 × Mm × Prop := if y0 = 0 then (f_X11_power_22 (-1 : Int32) m o) else (bnd (F_X8_sum (gR m l0 0) l1 (0 : Int32) m (o ∧ (gT m l0 = 11 ∧ gR m l0 0 ≠ 0))) (fun v1 m1 o1 => f_X11_power_17 v1 m1 o1))
set_option maxRecDepth 10000 in
theorem t_X11_power_5 (l : Launch) (E : En) (c0 s0 : Nat) (l0 : Nat) (l1 : Int32) (y0 : Int32) (m : Mm) (o : Prop) : Mh wI l E mi_X11_power c0 s0 5 [(0, .ref l0), (1, .int l1)] [.int y0] m o (f_X11_power_5 l0 l1 y0 m o) := by
  refine Mh_if_eq (tgt := 21) dX11_power_5 (by decide) rfl (fun _ => ?_) (fun _ => ?_)
  · refine Mh_iconst (v := (-1)) dX11_power_21 (by decide) ?_
    refine Mh_sub (lv' := []) [] rfl ?_
    exact t_X11_power_22 l E c0 s0 _ _ _
  · refine Mh_aload_n 0 rfl dX11_power_8 ?_
    refine Mh_gR fd_10_0 fl_RX11_10 dX11_power_9 ?_
    refine Mh_iload_n 1 rfl dX11_power_12 ?_
    refine Mh_iconst (v := 0) dX11_power_13 (by decide) ?_
    refine Mh_csJ (N := mi_X8_sum) (as := [.ref (gR m l0 0), .int l1, .int (0 : Int32)]) (st := []) cg_yX8_sum (.inl ml_RX11_237) sv_yX8_sum pd_yX8_sum rfl (by decide) (Nat.le_of_ble_eq_true rfl) rfl dX11_power_14 (T_X8_sum l E _ _ _ _ _) rfl ?_
    refine Mh_sub (lv' := []) [] rfl ?_
    exact t_X11_power_17 l E c0 s0 _ _ _
def f_X11_power_0 (l0 : Nat) (l1 : Int32) (m : Mm) (o : Prop) : Int32 × Mm × Prop := bnd (F_X11_hasCow l0 l1 m (o ∧ gT m l0 = 11)) (fun v1 m1 o1 => f_X11_power_5 l0 l1 v1 m1 o1)
set_option maxRecDepth 10000 in
theorem t_X11_power_0 (l : Launch) (E : En) (c0 s0 : Nat) (l0 : Nat) (l1 : Int32) (m : Mm) (o : Prop) : Mh wI l E mi_X11_power c0 s0 0 [(0, .ref l0), (1, .int l1)] [] m o (f_X11_power_0 l0 l1 m o) := by
  refine Mh_aload_n 0 rfl dX11_power_0 ?_
  refine Mh_iload_n 1 rfl dX11_power_1 ?_
  refine Mh_cvI (N := mi_X11_hasCow) (q := l0) (ci := 10) (as := [.int l1]) (st := []) (id) cg_yX11_hasCow (by decide) rfl rfl ml_RX11_124 iv_yX11_hasCow pd_yX11_hasCow rfl (by decide) (Nat.le_of_ble_eq_true rfl) rfl dX11_power_2 (T_X11_hasCow l E _ _ _ _) rfl ?_
  exact t_X11_power_5 l E c0 s0 _ _ _ _ _
def F_X11_power (a0 : Nat) (a1 : Int32) (m : Mm) (o : Prop) : Int32 × Mm × Prop := f_X11_power_0 a0 a1 m o
theorem T_X11_power (l : Launch) (E : En) (a0 : Nat) (a1 : Int32) (m : Mm) (o : Prop) : Mt wI l E yX11_power mi_X11_power [.ref a0, .int a1] m o (F_X11_power a0 a1 m o) :=
  Mt_I (by decide) rfl rfl rfl (Nat.le_of_ble_eq_true rfl) rfl (.inl rfl) (t_X11_power_0 l E _ _ _ _ _ _)
