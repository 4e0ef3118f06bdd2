def f_X12_condition_70 (k37 : Nat → Int32 → Mm → Prop → Unit × Mm × Prop) (l0 : Nat) (y0 : Int32) (m : Mm) (o : Prop) : Unit × Mm × Prop := k37 l0 y0 m o
set_option maxRecDepth 10000 in
theorem t_X12_condition_70 (l : Launch) (E : En) (c0 s0 : Nat) (k37 : Nat → Int32 → Mm → Prop → Unit × Mm × Prop) (hk37 : ∀ (l0 : Nat) (l1 : Int32) (m : Mm) (o : Prop), Mh wU l E mi_X12_condition c0 s0 37 [(0, .ref l0), (1, .int l1)] [] m o (k37 l0 l1 m o)) (l0 : Nat) (y0 : Int32) (m : Mm) (o : Prop) : Mh wU l E mi_X12_condition c0 s0 70 [(0, .ref l0)] [.int y0] m o (f_X12_condition_70 k37 l0 y0 m o) := by
  refine Mh_istore_n (lv' := [(1, .int y0), (0, .ref l0)]) dX12_condition_70 (Nat.le_of_ble_eq_true rfl) rfl ?_
  refine Mh_goto (tgt := 37) dX12_condition_71 (by decide) ?_
  refine Mh_sub (lv' := [(0, .ref l0), (1, .int y0)]) [1, 0] rfl ?_
  exact hk37 _ _ _ _
def f_X12_condition_63 (k37 : Nat → Int32 → Mm → Prop → Unit × Mm × Prop) (l0 : Nat) (l1 : Int32) (y0 : Int32) (m : Mm) (o : Prop) : Unit × Mm × Prop := if y0 = 0 then (k37 l0 l1 m o) else (bnd (F_X12_goesBehind l0 m (o ∧ gT m l0 = 12)) (fun v1 m1 o1 => f_X12_condition_70 k37 l0 v1 m1 o1))
set_option maxRecDepth 10000 in
theorem t_X12_condition_63 (l : Launch) (E : En) (c0 s0 : Nat) (k37 : Nat → Int32 → Mm → Prop → Unit × Mm × Prop) (hk37 : ∀ (l0 : Nat) (l1 : Int32) (m : Mm) (o : Prop), Mh wU l E mi_X12_condition c0 s0 37 [(0, .ref l0), (1, .int l1)] [] m o (k37 l0 l1 m o)) (l0 : Nat) (l1 : Int32) (y0 : Int32) (m : Mm) (o : Prop) : Mh wU l E mi_X12_condition c0 s0 63 [(0, .ref l0), (1, .int l1)] [.int y0] m o (f_X12_condition_63 k37 l0 l1 y0 m o) := by
  refine Mh_if_eq (tgt := 37) dX12_condition_63 (by decide) rfl (fun _ => ?_) (fun _ => ?_)
  · exact hk37 _ _ _ _
  · refine Mh_aload_n 0 rfl dX12_condition_66 ?_
    refine Mh_cvI (N := mi_X12_goesBehind) (q := l0) (ci := 11) (as := []) (st := []) (id) cg_yX12_goesBehind (by decide) rfl rfl ml_RX12_328 iv_yX12_goesBehind pd_yX12_goesBehind rfl (by decide) (Nat.le_of_ble_eq_true rfl) rfl dX12_condition_67 (T_X12_goesBehind l E _ _ _) rfl ?_
    refine Mh_sub (lv' := [(0, .ref l0)]) [0] rfl ?_
    exact t_X12_condition_70 l E c0 s0 k37 hk37 _ _ _ _
def f_X12_condition_59 (k37 : Nat → Int32 → Mm → Prop → Unit × Mm × Prop) (l0 : Nat) (l1 : Int32) (m : Mm) (o : Prop) : Unit × Mm × Prop := bnd (F_X12_isGood l0 m (o ∧ gT m l0 = 12)) (fun v1 m1 o1 => f_X12_condition_63 k37 l0 l1 v1 m1 o1)
set_option maxRecDepth 10000 in
theorem t_X12_condition_59 (l : Launch) (E : En) (c0 s0 : Nat) (k37 : Nat → Int32 → Mm → Prop → Unit × Mm × Prop) (hk37 : ∀ (l0 : Nat) (l1 : Int32) (m : Mm) (o : Prop), Mh wU l E mi_X12_condition c0 s0 37 [(0, .ref l0), (1, .int l1)] [] m o (k37 l0 l1 m o)) (l0 : Nat) (l1 : Int32) (m : Mm) (o : Prop) : Mh wU l E mi_X12_condition c0 s0 59 [(0, .ref l0), (1, .int l1)] [] m o (f_X12_condition_59 k37 l0 l1 m o) := by
  refine Mh_aload_n 0 rfl dX12_condition_59 ?_
  refine Mh_cvI (N := mi_X12_isGood) (q := l0) (ci := 11) (as := []) (st := []) (id) cg_yX12_isGood (by decide) rfl rfl ml_RX12_244 iv_yX12_isGood pd_yX12_isGood rfl (by decide) (Nat.le_of_ble_eq_true rfl) rfl dX12_condition_60 (T_X12_isGood l E _ _ _) rfl ?_
  exact t_X12_condition_63 l E c0 s0 k37 hk37 _ _ _ _ _
def f_X12_condition_74 (m : Mm) (o : Prop) : Unit × Mm × Prop := ((), m, o)
set_option maxRecDepth 10000 in
theorem t_X12_condition_74 (l : Launch) (E : En) (c0 s0 : Nat) (m : Mm) (o : Prop) : Mh wU l E mi_X12_condition c0 s0 74 [] [] m o (f_X12_condition_74  m o) := by
  exact Mh_ret dX12_condition_74 rfl (fun _ => trivial) rfl
def f_X12_condition_41 (k37 : Nat → Int32 → Mm → Prop → Unit × Mm × Prop) (l0 : Nat) (l1 : Int32) (y0 : Int32) (m : Mm) (o : Prop) : Unit × Mm × Prop := if y0 = 0 then (f_X12_condition_74  m o) else (if (gI m l0 42) = 0 then (if l1 = 0 then (f_X12_condition_59 k37 l0 l1 m (o ∧ gT m l0 = 12)) else (bnd (F_X12_pieceOfC l0 m (o ∧ gT m l0 = 12)) (fun _ m1 o1 => f_X12_condition_59 k37 l0 l1 m1 o1))) else (f_X12_condition_74  m (o ∧ gT m l0 = 12)))
set_option maxRecDepth 10000 in
theorem t_X12_condition_41 (l : Launch) (E : En) (c0 s0 : Nat) (k37 : Nat → Int32 → Mm → Prop → Unit × Mm × Prop) (hk37 : ∀ (l0 : Nat) (l1 : Int32) (m : Mm) (o : Prop), Mh wU l E mi_X12_condition c0 s0 37 [(0, .ref l0), (1, .int l1)] [] m o (k37 l0 l1 m o)) (l0 : Nat) (l1 : Int32) (y0 : Int32) (m : Mm) (o : Prop) : Mh wU l E mi_X12_condition c0 s0 41 [(0, .ref l0), (1, .int l1)] [.int y0] m o (f_X12_condition_41 k37 l0 l1 y0 m o) := by
  refine Mh_if_eq (tgt := 74) dX12_condition_41 (by decide) rfl (fun _ => ?_) (fun _ => ?_)
  · refine Mh_sub (lv' := []) [] rfl ?_
    exact t_X12_condition_74 l E c0 s0  _ _
  · refine Mh_aload_n 0 rfl dX12_condition_44 ?_
    refine Mh_gI fd_11_42 fl_RX12_322 dX12_condition_45 ?_
    refine Mh_if_ne (tgt := 74) dX12_condition_48 (by decide) rfl (fun _ => ?_) (fun _ => ?_)
    · refine Mh_sub (lv' := []) [] rfl ?_
      exact t_X12_condition_74 l E c0 s0  _ _
    · refine Mh_iload_n 1 rfl dX12_condition_51 ?_
      refine Mh_if_eq (tgt := 59) dX12_condition_52 (by decide) rfl (fun _ => ?_) (fun _ => ?_)
      · exact t_X12_condition_59 l E c0 s0 k37 hk37 _ _ _ _
      · refine Mh_aload_n 0 rfl dX12_condition_55 ?_
        refine Mh_cvU (N := mi_X12_pieceOfC) (q := l0) (ci := 11) (as := []) (st := []) (fun h => ⟨h, (fun h => h.2) h⟩) cg_yX12_pieceOfC (by decide) rfl rfl ml_RX12_325 iv_yX12_pieceOfC pd_yX12_pieceOfC rfl (by decide) (Nat.le_of_ble_eq_true rfl) rfl dX12_condition_56 (T_X12_pieceOfC l E _ _ _) rfl ?_
        exact t_X12_condition_59 l E c0 s0 k37 hk37 _ _ _ _
def f_X12_condition_37b (k37 : Nat → Int32 → Mm → Prop → Unit × Mm × Prop) (l0 : Nat) (l1 : Int32) (m : Mm) (o : Prop) : Unit × Mm × Prop := bnd (F_X12_isGood l0 m (o ∧ gT m l0 = 12)) (fun v1 m1 o1 => f_X12_condition_41 k37 l0 l1 v1 m1 o1)
set_option maxRecDepth 10000 in
theorem t_X12_condition_37b (l : Launch) (E : En) (c0 s0 : Nat) (k37 : Nat → Int32 → Mm → Prop → Unit × Mm × Prop) (hk37 : ∀ (l0 : Nat) (l1 : Int32) (m : Mm) (o : Prop), Mh wU l E mi_X12_condition c0 s0 37 [(0, .ref l0), (1, .int l1)] [] m o (k37 l0 l1 m o)) (l0 : Nat) (l1 : Int32) (m : Mm) (o : Prop) : Mh wU l E mi_X12_condition c0 s0 37 [(0, .ref l0), (1, .int l1)] [] m o (f_X12_condition_37b k37 l0 l1 m o) := by
  refine Mh_aload_n 0 rfl dX12_condition_37 ?_
  refine Mh_cvI (N := mi_X12_isGood) (q := l0) (ci := 11) (as := []) (st := []) (id) cg_yX12_isGood (by decide) rfl rfl ml_RX12_244 iv_yX12_isGood pd_yX12_isGood rfl (by decide) (Nat.le_of_ble_eq_true rfl) rfl dX12_condition_38 (T_X12_isGood l E _ _ _) rfl ?_
  exact t_X12_condition_41 l E c0 s0 k37 hk37 _ _ _ _ _
def f_X12_condition_37 : Nat → Nat → Int32 → Mm → Prop → Unit × Mm × Prop
  | 0, _, _, m, _ => ((), m, False)
  | n + 1, l0, l1, m, o => f_X12_condition_37b (f_X12_condition_37 n) l0 l1 m o
theorem t_X12_condition_37 (l : Launch) (E : En) (c0 s0 : Nat) : ∀ (n : Nat) (l0 : Nat) (l1 : Int32) (m : Mm) (o : Prop), Mh wU l E mi_X12_condition c0 s0 37 [(0, .ref l0), (1, .int l1)] [] m o (f_X12_condition_37 n l0 l1 m o)
  | 0, _, _, _, _ => Mh_out rfl
  | n + 1, l0, l1, m, o => t_X12_condition_37b l E c0 s0 (f_X12_condition_37 n) (t_X12_condition_37 l E c0 s0 n) l0 l1 m o
def f_X12_condition_35 (l0 : Nat) (m : Mm) (o : Prop) : Unit × Mm × Prop := f_X12_condition_37 1000 l0 (1 : Int32) m o
set_option maxRecDepth 10000 in
theorem t_X12_condition_35 (l : Launch) (E : En) (c0 s0 : Nat) (l0 : Nat) (m : Mm) (o : Prop) : Mh wU l E mi_X12_condition c0 s0 35 [(0, .ref l0)] [] m o (f_X12_condition_35 l0 m o) := by
  refine Mh_iconst (v := 1) dX12_condition_35 (by decide) ?_
  refine Mh_istore_n (lv' := [(1, .int (1 : Int32)), (0, .ref l0)]) dX12_condition_36 (Nat.le_of_ble_eq_true rfl) rfl ?_
  refine Mh_sub (lv' := [(0, .ref l0), (1, .int (1 : Int32))]) [1, 0] rfl ?_
  exact t_X12_condition_37 l E c0 s0 _ _ _ _ _
def f_X12_condition_27 (l0 : Nat) (y0 : Int32) (m : Mm) (o : Prop) : Unit × Mm × Prop := if y0 = 0 then ((), m, o) else (bnd (F_X12_opens l0 m (o ∧ gT m l0 = 12)) (fun _ m1 o1 => f_X12_condition_35 l0 m1 o1))
set_option maxRecDepth 10000 in
theorem t_X12_condition_27 (l : Launch) (E : En) (c0 s0 : Nat) (l0 : Nat) (y0 : Int32) (m : Mm) (o : Prop) : Mh wU l E mi_X12_condition c0 s0 27 [(0, .ref l0)] [.int y0] m o (f_X12_condition_27 l0 y0 m o) := by
  refine Mh_if_ne (tgt := 31) dX12_condition_27 (by decide) rfl (fun _ => ?_) (fun _ => ?_)
  · refine Mh_aload_n 0 rfl dX12_condition_31 ?_
    refine Mh_cvU (N := mi_X12_opens) (q := l0) (ci := 11) (as := []) (st := []) (id) cg_yX12_opens (by decide) rfl rfl ml_RX12_287 iv_yX12_opens pd_yX12_opens rfl (by decide) (Nat.le_of_ble_eq_true rfl) rfl dX12_condition_32 (T_X12_opens l E _ _ _) rfl ?_
    exact t_X12_condition_35 l E c0 s0 _ _ _
  · exact Mh_ret dX12_condition_30 rfl (fun _ => trivial) rfl
def f_X12_condition_23 (l0 : Nat) (m : Mm) (o : Prop) : Unit × Mm × Prop := bnd (F_X12_isGood l0 m (o ∧ gT m l0 = 12)) (fun v1 m1 o1 => f_X12_condition_27 l0 v1 m1 o1)
set_option maxRecDepth 10000 in
theorem t_X12_condition_23 (l : Launch) (E : En) (c0 s0 : Nat) (l0 : Nat) (m : Mm) (o : Prop) : Mh wU l E mi_X12_condition c0 s0 23 [(0, .ref l0)] [] m o (f_X12_condition_23 l0 m o) := by
  refine Mh_aload_n 0 rfl dX12_condition_23 ?_
  refine Mh_cvI (N := mi_X12_isGood) (q := l0) (ci := 11) (as := []) (st := []) (id) cg_yX12_isGood (by decide) rfl rfl ml_RX12_244 iv_yX12_isGood pd_yX12_isGood rfl (by decide) (Nat.le_of_ble_eq_true rfl) rfl dX12_condition_24 (T_X12_isGood l E _ _ _) rfl ?_
  exact t_X12_condition_27 l E c0 s0 _ _ _ _
def f_X12_condition_9 (l0 : Nat) (y0 : Int32) (m : Mm) (o : Prop) : Unit × Mm × Prop := if y0 = (40 : Int32) then (f_X12_condition_23 l0 m o) else (bnd (F_X12_wrongs l0 (1 : Int32) (gI m l0 35) m (o ∧ gT m l0 = 12)) (fun _ m1 o1 => f_X12_condition_23 l0 m1 o1))
set_option maxRecDepth 10000 in
theorem t_X12_condition_9 (l : Launch) (E : En) (c0 s0 : Nat) (l0 : Nat) (y0 : Int32) (m : Mm) (o : Prop) : Mh wU l E mi_X12_condition c0 s0 9 [(0, .ref l0)] [.int y0] m o (f_X12_condition_9 l0 y0 m o) := by
  refine Mh_bipush (v := 40) dX12_condition_9 (by decide) ?_
  refine Mh_icmp_eq (tgt := 23) dX12_condition_11 (by decide) rfl (fun _ => ?_) (fun _ => ?_)
  · exact t_X12_condition_23 l E c0 s0 _ _ _
  · refine Mh_aload_n 0 rfl dX12_condition_14 ?_
    refine Mh_iconst (v := 1) dX12_condition_15 (by decide) ?_
    refine Mh_aload_n 0 rfl dX12_condition_16 ?_
    refine Mh_gI fd_11_35 fl_RX12_235 dX12_condition_17 ?_
    refine Mh_cvU (N := mi_X12_wrongs) (q := l0) (ci := 11) (as := [.int (1 : Int32), .int (gI m l0 35)]) (st := []) (fun h => ⟨h, (fun h => h.2) h⟩) cg_yX12_wrongs (by decide) rfl rfl ml_RX12_257 iv_yX12_wrongs pd_yX12_wrongs rfl (by decide) (Nat.le_of_ble_eq_true rfl) rfl dX12_condition_20 (T_X12_wrongs l E _ _ _ _ _) rfl ?_
    exact t_X12_condition_23 l E c0 s0 _ _ _
def f_X12_condition_5 (l0 : Nat) (m : Mm) (o : Prop) : Unit × Mm × Prop := bnd (F_X12_here l0 m (o ∧ gT m l0 = 12)) (fun v1 m1 o1 => f_X12_condition_9 l0 v1 m1 o1)
set_option maxRecDepth 10000 in
theorem t_X12_condition_5 (l : Launch) (E : En) (c0 s0 : Nat) (l0 : Nat) (m : Mm) (o : Prop) : Mh wU l E mi_X12_condition c0 s0 5 [(0, .ref l0)] [] m o (f_X12_condition_5 l0 m o) := by
  refine Mh_aload_n 0 rfl dX12_condition_5 ?_
  refine Mh_cvI (N := mi_X12_here) (q := l0) (ci := 11) (as := []) (st := []) (id) cg_yX12_here (by decide) rfl rfl ml_RX12_261 iv_yX12_here pd_yX12_here rfl (by decide) (Nat.le_of_ble_eq_true rfl) rfl dX12_condition_6 (T_X12_here l E _ _ _) rfl ?_
  exact t_X12_condition_9 l E c0 s0 _ _ _ _
def f_X12_condition_0 (l0 : Nat) (m : Mm) (o : Prop) : Unit × Mm × Prop := f_X12_condition_5 l0 (sI m l0 42 (0 : Int32)) (o ∧ (gT m l0 = 12 ∧ ((0 : Int32) = 0 ∨ (0 : Int32) = 1)))
set_option maxRecDepth 10000 in
theorem t_X12_condition_0 (l : Launch) (E : En) (c0 s0 : Nat) (l0 : Nat) (m : Mm) (o : Prop) : Mh wU l E mi_X12_condition c0 s0 0 [(0, .ref l0)] [] m o (f_X12_condition_0 l0 m o) := by
  refine Mh_aload_n 0 rfl dX12_condition_0 ?_
  refine Mh_iconst (v := 0) dX12_condition_1 (by decide) ?_
  refine Mh_pZ fd_11_42 ft_11 rfl fl_RX12_322 rfl dX12_condition_2 ?_
  exact t_X12_condition_5 l E c0 s0 _ _ _
def F_X12_condition (a0 : Nat) (m : Mm) (o : Prop) : Unit × Mm × Prop := f_X12_condition_0 a0 m o
theorem T_X12_condition (l : Launch) (E : En) (a0 : Nat) (m : Mm) (o : Prop) : Mt wU l E yX12_condition mi_X12_condition [.ref a0] m o (F_X12_condition a0 m o) :=
  Mt_U (by decide) rfl (fun h => by cases h) rfl (Nat.le_of_ble_eq_true rfl) rfl (t_X12_condition_0 l E _ _ _ _ _)
def f_X12_clause_161 (m : Mm) (o : Prop) : Unit × Mm × Prop := ((), m, o)
set_option maxRecDepth 10000 in
theorem t_X12_clause_161 (l : Launch) (E : En) (c0 s0 : Nat) (m : Mm) (o : Prop) : Mh wU l E mi_X12_clause c0 s0 161 [] [] m o (f_X12_clause_161  m o) := by
  exact Mh_ret dX12_clause_161 rfl (fun _ => trivial) rfl
def f_X12_clause_151 (l0 : Nat) (m : Mm) (o : Prop) : Unit × Mm × Prop := f_X12_clause_161  (sI m l0 38 ((gI m l0 38) + (1 : Int32))) (o ∧ gT m l0 = 12)
set_option maxRecDepth 10000 in
theorem t_X12_clause_151 (l : Launch) (E : En) (c0 s0 : Nat) (l0 : Nat) (m : Mm) (o : Prop) : Mh wU l E mi_X12_clause c0 s0 151 [(0, .ref l0)] [] m o (f_X12_clause_151 l0 m o) := by
  refine Mh_aload_n 0 rfl dX12_clause_151 ?_
  refine Mh_dup dX12_clause_152 rfl ?_
  refine Mh_gI fd_11_38 fl_RX12_331 dX12_clause_153 ?_
  refine Mh_iconst (v := 1) dX12_clause_156 (by decide) ?_
  refine Mh_iadd dX12_clause_157 ?_
  refine Mh_pI fd_11_38 ft_11 rfl fl_RX12_331 rfl dX12_clause_158 ?_
  refine Mh_ok (fun h => h.2) ?_
  refine Mh_sub (lv' := []) [] rfl ?_
  exact t_X12_clause_161 l E c0 s0  _ _
def f_X12_clause_138 (l0 : Nat) (m : Mm) (o : Prop) : Unit × Mm × Prop := f_X12_clause_151 l0 (sI m (gR m l0 32) (ix (gI m l0 38)) (gI m l0 39)) (((o ∧ (gT m l0 = 12 ∧ gR m l0 32 ≠ 0)) ∧ gT m l0 = 12) ∧ (gT m (gR m l0 32) = 20 ∧ vp_in (gI m l0 38) (gN m (gR m l0 32))))
set_option maxRecDepth 10000 in
theorem t_X12_clause_138 (l : Launch) (E : En) (c0 s0 : Nat) (l0 : Nat) (m : Mm) (o : Prop) : Mh wU l E mi_X12_clause c0 s0 138 [(0, .ref l0)] [] m o (f_X12_clause_138 l0 m o) := by
  refine Mh_aload_n 0 rfl dX12_clause_138 ?_
  refine Mh_gR fd_11_32 fl_RX12_91 dX12_clause_139 ?_
  refine Mh_aload_n 0 rfl dX12_clause_142 ?_
  refine Mh_gI fd_11_38 fl_RX12_331 dX12_clause_143 ?_
  refine Mh_aload_n 0 rfl dX12_clause_146 ?_
  refine Mh_gI fd_11_39 fl_RX12_248 dX12_clause_147 ?_
  refine Mh_ok (fun h => h.2) ?_
  refine Mh_ias dX12_clause_150 ?_
  exact t_X12_clause_151 l E c0 s0 _ _ _
def f_X12_clause_131 (l0 : Nat) (y0 : Int32) (m : Mm) (o : Prop) : Unit × Mm × Prop := if y0 = 0 then (f_X12_clause_138 l0 m o) else (bnd (F_X12_condition l0 m (o ∧ gT m l0 = 12)) (fun _ m1 o1 => f_X12_clause_138 l0 m1 o1))
set_option maxRecDepth 10000 in
theorem t_X12_clause_131 (l : Launch) (E : En) (c0 s0 : Nat) (l0 : Nat) (y0 : Int32) (m : Mm) (o : Prop) : Mh wU l E mi_X12_clause c0 s0 131 [(0, .ref l0)] [.int y0] m o (f_X12_clause_131 l0 y0 m o) := by
  refine Mh_if_eq (tgt := 138) dX12_clause_131 (by decide) rfl (fun _ => ?_) (fun _ => ?_)
  · exact t_X12_clause_138 l E c0 s0 _ _ _
  · refine Mh_aload_n 0 rfl dX12_clause_134 ?_
    refine Mh_cvU (N := mi_X12_condition) (q := l0) (ci := 11) (as := []) (st := []) (id) cg_yX12_condition (by decide) rfl rfl ml_RX12_334 iv_yX12_condition pd_yX12_condition rfl (by decide) (Nat.le_of_ble_eq_true rfl) rfl dX12_clause_135 (T_X12_condition l E _ _ _) rfl ?_
    exact t_X12_clause_138 l E c0 s0 _ _ _
def f_X12_clause_127 (l0 : Nat) (m : Mm) (o : Prop) : Unit × Mm × Prop := bnd (F_X12_isGood l0 m (o ∧ gT m l0 = 12)) (fun v1 m1 o1 => f_X12_clause_131 l0 v1 m1 o1)
set_option maxRecDepth 10000 in
theorem t_X12_clause_127 (l : Launch) (E : En) (c0 s0 : Nat) (l0 : Nat) (m : Mm) (o : Prop) : Mh wU l E mi_X12_clause c0 s0 127 [(0, .ref l0)] [] m o (f_X12_clause_127 l0 m o) := by
  refine Mh_aload_n 0 rfl dX12_clause_127 ?_
  refine Mh_cvI (N := mi_X12_isGood) (q := l0) (ci := 11) (as := []) (st := []) (id) cg_yX12_isGood (by decide) rfl rfl ml_RX12_244 iv_yX12_isGood pd_yX12_isGood rfl (by decide) (Nat.le_of_ble_eq_true rfl) rfl dX12_clause_128 (T_X12_isGood l E _ _ _) rfl ?_
  exact t_X12_clause_131 l E c0 s0 _ _ _ _
def f_X12_clause_114 (l0 : Nat) (m : Mm) (o : Prop) : Unit × Mm × Prop := f_X12_clause_127 l0 (sI m (gR m l0 31) (ix (gI m l0 38)) (gI m l0 39)) (((o ∧ (gT m l0 = 12 ∧ gR m l0 31 ≠ 0)) ∧ gT m l0 = 12) ∧ (gT m (gR m l0 31) = 20 ∧ vp_in (gI m l0 38) (gN m (gR m l0 31))))
set_option maxRecDepth 10000 in
theorem t_X12_clause_114 (l : Launch) (E : En) (c0 s0 : Nat) (l0 : Nat) (m : Mm) (o : Prop) : Mh wU l E mi_X12_clause c0 s0 114 [(0, .ref l0)] [] m o (f_X12_clause_114 l0 m o) := by
  refine Mh_aload_n 0 rfl dX12_clause_114 ?_
  refine Mh_gR fd_11_31 fl_RX12_88 dX12_clause_115 ?_
  refine Mh_aload_n 0 rfl dX12_clause_118 ?_
  refine Mh_gI fd_11_38 fl_RX12_331 dX12_clause_119 ?_
  refine Mh_aload_n 0 rfl dX12_clause_122 ?_
  refine Mh_gI fd_11_39 fl_RX12_248 dX12_clause_123 ?_
  refine Mh_ok (fun h => h.2) ?_
  refine Mh_ias dX12_clause_126 ?_
  exact t_X12_clause_127 l E c0 s0 _ _ _
def f_X12_clause_104 (l0 : Nat) (l1 : Int32) (m : Mm) (o : Prop) : Unit × Mm × Prop := if l1 = (110 : Int32) then (f_X12_clause_114 l0 m o) else (bnd (F_X12_value l0 m (o ∧ gT m l0 = 12)) (fun _ m1 o1 => f_X12_clause_114 l0 m1 o1))
set_option maxRecDepth 10000 in
theorem t_X12_clause_104 (l : Launch) (E : En) (c0 s0 : Nat) (l0 : Nat) (l1 : Int32) (m : Mm) (o : Prop) : Mh wU l E mi_X12_clause c0 s0 104 [(0, .ref l0), (1, .int l1)] [] m o (f_X12_clause_104 l0 l1 m o) := by
  refine Mh_iload_n 1 rfl dX12_clause_104 ?_
  refine Mh_bipush (v := 110) dX12_clause_105 (by decide) ?_
  refine Mh_icmp_eq (tgt := 114) dX12_clause_107 (by decide) rfl (fun _ => ?_) (fun _ => ?_)
  · refine Mh_sub (lv' := [(0, .ref l0)]) [0] rfl ?_
    exact t_X12_clause_114 l E c0 s0 _ _ _
  · refine Mh_aload_n 0 rfl dX12_clause_110 ?_
    refine Mh_cvU (N := mi_X12_value) (q := l0) (ci := 11) (as := []) (st := []) (id) cg_yX12_value (by decide) rfl rfl ml_RX12_310 iv_yX12_value pd_yX12_value rfl (by decide) (Nat.le_of_ble_eq_true rfl) rfl dX12_clause_111 (T_X12_value l E _ _ _) rfl ?_
    refine Mh_sub (lv' := [(0, .ref l0)]) [0] rfl ?_
    exact t_X12_clause_114 l E c0 s0 _ _ _
def f_X12_clause_99 (l0 : Nat) (l1 : Int32) (m : Mm) (o : Prop) : Unit × Mm × Prop := f_X12_clause_104 l0 l1 (sI m l0 40 (0 : Int32)) (o ∧ gT m l0 = 12)
set_option maxRecDepth 10000 in
theorem t_X12_clause_99 (l : Launch) (E : En) (c0 s0 : Nat) (l0 : Nat) (l1 : Int32) (m : Mm) (o : Prop) : Mh wU l E mi_X12_clause c0 s0 99 [(0, .ref l0), (1, .int l1)] [] m o (f_X12_clause_99 l0 l1 m o) := by
  refine Mh_aload_n 0 rfl dX12_clause_99 ?_
  refine Mh_iconst (v := 0) dX12_clause_100 (by decide) ?_
  refine Mh_pI fd_11_40 ft_11 rfl fl_RX12_254 rfl dX12_clause_101 ?_
  exact t_X12_clause_104 l E c0 s0 _ _ _ _
def f_X12_clause_94 (l0 : Nat) (l1 : Int32) (m : Mm) (o : Prop) : Unit × Mm × Prop := f_X12_clause_99 l0 l1 (sI m l0 41 (0 : Int32)) (o ∧ gT m l0 = 12)
set_option maxRecDepth 10000 in
theorem t_X12_clause_94 (l : Launch) (E : En) (c0 s0 : Nat) (l0 : Nat) (l1 : Int32) (m : Mm) (o : Prop) : Mh wU l E mi_X12_clause c0 s0 94 [(0, .ref l0), (1, .int l1)] [] m o (f_X12_clause_94 l0 l1 m o) := by
  refine Mh_aload_n 0 rfl dX12_clause_94 ?_
  refine Mh_iconst (v := 0) dX12_clause_95 (by decide) ?_
  refine Mh_pI fd_11_41 ft_11 rfl fl_RX12_251 rfl dX12_clause_96 ?_
  exact t_X12_clause_99 l E c0 s0 _ _ _ _
def f_X12_clause_84 (l0 : Nat) (l1 : Int32) (m : Mm) (o : Prop) : Unit × Mm × Prop := f_X12_clause_94 l0 l1 (sI m l0 35 ((gI m l0 35) + (1 : Int32))) (o ∧ gT m l0 = 12)
set_option maxRecDepth 10000 in
theorem t_X12_clause_84 (l : Launch) (E : En) (c0 s0 : Nat) (l0 : Nat) (l1 : Int32) (m : Mm) (o : Prop) : Mh wU l E mi_X12_clause c0 s0 84 [(0, .ref l0), (1, .int l1)] [] m o (f_X12_clause_84 l0 l1 m o) := by
  refine Mh_aload_n 0 rfl dX12_clause_84 ?_
  refine Mh_dup dX12_clause_85 rfl ?_
  refine Mh_gI fd_11_35 fl_RX12_235 dX12_clause_86 ?_
  refine Mh_iconst (v := 1) dX12_clause_89 (by decide) ?_
  refine Mh_iadd dX12_clause_90 ?_
  refine Mh_pI fd_11_35 ft_11 rfl fl_RX12_235 rfl dX12_clause_91 ?_
  refine Mh_ok (fun h => h.2) ?_
  exact t_X12_clause_94 l E c0 s0 _ _ _ _
def f_X12_clause_71 (l0 : Nat) (l1 : Int32) (m : Mm) (o : Prop) : Unit × Mm × Prop := f_X12_clause_84 l0 l1 (sI m (gR m l0 30) (ix (gI m l0 38)) (gI m l0 39)) (((o ∧ (gT m l0 = 12 ∧ gR m l0 30 ≠ 0)) ∧ gT m l0 = 12) ∧ (gT m (gR m l0 30) = 20 ∧ vp_in (gI m l0 38) (gN m (gR m l0 30))))
set_option maxRecDepth 10000 in
theorem t_X12_clause_71 (l : Launch) (E : En) (c0 s0 : Nat) (l0 : Nat) (l1 : Int32) (m : Mm) (o : Prop) : Mh wU l E mi_X12_clause c0 s0 71 [(0, .ref l0), (1, .int l1)] [] m o (f_X12_clause_71 l0 l1 m o) := by
  refine Mh_aload_n 0 rfl dX12_clause_71 ?_
  refine Mh_gR fd_11_30 fl_RX12_85 dX12_clause_72 ?_
  refine Mh_aload_n 0 rfl dX12_clause_75 ?_
  refine Mh_gI fd_11_38 fl_RX12_331 dX12_clause_76 ?_
  refine Mh_aload_n 0 rfl dX12_clause_79 ?_
  refine Mh_gI fd_11_39 fl_RX12_248 dX12_clause_80 ?_
  refine Mh_ok (fun h => h.2) ?_
  refine Mh_ias dX12_clause_83 ?_
  exact t_X12_clause_84 l E c0 s0 _ _ _ _
def f_X12_clause_57 (l0 : Nat) (l1 : Int32) (y0 : Int32) (m : Mm) (o : Prop) : Unit × Mm × Prop := if y0 = 0 then ((), m, o) else (f_X12_clause_71 l0 l1 (sI m (gR m l0 29) (ix (gI m l0 38)) l1) (((o ∧ (gT m l0 = 12 ∧ gR m l0 29 ≠ 0)) ∧ gT m l0 = 12) ∧ (gT m (gR m l0 29) = 20 ∧ vp_in (gI m l0 38) (gN m (gR m l0 29)))))
set_option maxRecDepth 10000 in
theorem t_X12_clause_57 (l : Launch) (E : En) (c0 s0 : Nat) (l0 : Nat) (l1 : Int32) (y0 : Int32) (m : Mm) (o : Prop) : Mh wU l E mi_X12_clause c0 s0 57 [(0, .ref l0), (1, .int l1)] [.int y0] m o (f_X12_clause_57 l0 l1 y0 m o) := by
  refine Mh_if_ne (tgt := 61) dX12_clause_57 (by decide) rfl (fun _ => ?_) (fun _ => ?_)
  · refine Mh_aload_n 0 rfl dX12_clause_61 ?_
    refine Mh_gR fd_11_29 fl_RX12_82 dX12_clause_62 ?_
    refine Mh_aload_n 0 rfl dX12_clause_65 ?_
    refine Mh_gI fd_11_38 fl_RX12_331 dX12_clause_66 ?_
    refine Mh_iload_n 1 rfl dX12_clause_69 ?_
    refine Mh_ias dX12_clause_70 ?_
    exact t_X12_clause_71 l E c0 s0 _ _ _ _
  · exact Mh_ret dX12_clause_60 rfl (fun _ => trivial) rfl
def f_X12_clause_53 (l0 : Nat) (l1 : Int32) (m : Mm) (o : Prop) : Unit × Mm × Prop := bnd (F_X12_isGood l0 m (o ∧ gT m l0 = 12)) (fun v1 m1 o1 => f_X12_clause_57 l0 l1 v1 m1 o1)
set_option maxRecDepth 10000 in
theorem t_X12_clause_53 (l : Launch) (E : En) (c0 s0 : Nat) (l0 : Nat) (l1 : Int32) (m : Mm) (o : Prop) : Mh wU l E mi_X12_clause c0 s0 53 [(0, .ref l0), (1, .int l1)] [] m o (f_X12_clause_53 l0 l1 m o) := by
  refine Mh_aload_n 0 rfl dX12_clause_53 ?_
  refine Mh_cvI (N := mi_X12_isGood) (q := l0) (ci := 11) (as := []) (st := []) (id) cg_yX12_isGood (by decide) rfl rfl ml_RX12_244 iv_yX12_isGood pd_yX12_isGood rfl (by decide) (Nat.le_of_ble_eq_true rfl) rfl dX12_clause_54 (T_X12_isGood l E _ _ _) rfl ?_
  exact t_X12_clause_57 l E c0 s0 _ _ _ _ _
def f_X12_clause_32 (l0 : Nat) (l1 : Int32) (m : Mm) (o : Prop) : Unit × Mm × Prop := f_X12_clause_53 l0 l1 m o
set_option maxRecDepth 10000 in
theorem t_X12_clause_32 (l : Launch) (E : En) (c0 s0 : Nat) (l0 : Nat) (l1 : Int32) (m : Mm) (o : Prop) : Mh wU l E mi_X12_clause c0 s0 32 [(0, .ref l0), (1, .int l1)] [] m o (f_X12_clause_32 l0 l1 m o) := by
  refine Mh_goto (tgt := 53) dX12_clause_32 (by decide) ?_
  exact t_X12_clause_53 l E c0 s0 _ _ _ _
def f_X12_clause_35 (l0 : Nat) (l1 : Int32) (m : Mm) (o : Prop) : Unit × Mm × Prop := if (gI m l0 38) = (14 : Int32) then (bnd (F_X12_wrongs l0 (4 : Int32) (gI m l0 35) m (o ∧ gT m l0 = 12)) (fun _ m1 o1 => f_X12_clause_53 l0 l1 m1 o1)) else (f_X12_clause_53 l0 l1 m (o ∧ gT m l0 = 12))
set_option maxRecDepth 10000 in
theorem t_X12_clause_35 (l : Launch) (E : En) (c0 s0 : Nat) (l0 : Nat) (l1 : Int32) (m : Mm) (o : Prop) : Mh wU l E mi_X12_clause c0 s0 35 [(0, .ref l0), (1, .int l1)] [] m o (f_X12_clause_35 l0 l1 m o) := by
  refine Mh_aload_n 0 rfl dX12_clause_35 ?_
  refine Mh_gI fd_11_38 fl_RX12_331 dX12_clause_36 ?_
  refine Mh_bipush (v := 14) dX12_clause_39 (by decide) ?_
  refine Mh_icmp_ne (tgt := 53) dX12_clause_41 (by decide) rfl (fun _ => ?_) (fun _ => ?_)
  · exact t_X12_clause_53 l E c0 s0 _ _ _ _
  · refine Mh_aload_n 0 rfl dX12_clause_44 ?_
    refine Mh_iconst (v := 4) dX12_clause_45 (by decide) ?_
    refine Mh_aload_n 0 rfl dX12_clause_46 ?_
    refine Mh_gI fd_11_35 fl_RX12_235 dX12_clause_47 ?_
    refine Mh_ok (fun h => h.2) ?_
    refine Mh_cvU (N := mi_X12_wrongs) (q := l0) (ci := 11) (as := [.int (4 : Int32), .int (gI m l0 35)]) (st := []) (fun h => ⟨h, (fun h => h.2) h⟩) cg_yX12_wrongs (by decide) rfl rfl ml_RX12_257 iv_yX12_wrongs pd_yX12_wrongs rfl (by decide) (Nat.le_of_ble_eq_true rfl) rfl dX12_clause_50 (T_X12_wrongs l E _ _ _ _ _) rfl ?_
    exact t_X12_clause_53 l E c0 s0 _ _ _ _
def f_X12_clause_4 (l0 : Nat) (y0 : Int32) (m : Mm) (o : Prop) : Unit × Mm × Prop := if y0 = (110 : Int32) then (f_X12_clause_35 l0 y0 m o) else (if y0 = (101 : Int32) then (f_X12_clause_35 l0 y0 m o) else (if y0 = (103 : Int32) then (f_X12_clause_35 l0 y0 m o) else (bnd (F_X12_wrongs l0 (1 : Int32) (gI m l0 35) m (o ∧ gT m l0 = 12)) (fun _ m1 o1 => f_X12_clause_32 l0 y0 m1 o1))))
set_option maxRecDepth 10000 in
theorem t_X12_clause_4 (l : Launch) (E : En) (c0 s0 : Nat) (l0 : Nat) (y0 : Int32) (m : Mm) (o : Prop) : Mh wU l E mi_X12_clause c0 s0 4 [(0, .ref l0)] [.int y0] m o (f_X12_clause_4 l0 y0 m o) := by
  refine Mh_istore_n (lv' := [(1, .int y0), (0, .ref l0)]) dX12_clause_4 (Nat.le_of_ble_eq_true rfl) rfl ?_
  refine Mh_iload_n 0 rfl dX12_clause_5 ?_
  refine Mh_bipush (v := 110) dX12_clause_6 (by decide) ?_
  refine Mh_icmp_eq (tgt := 35) dX12_clause_8 (by decide) rfl (fun _ => ?_) (fun _ => ?_)
  · refine Mh_sub (lv' := [(0, .ref l0), (1, .int y0)]) [1, 0] rfl ?_
    exact t_X12_clause_35 l E c0 s0 _ _ _ _
  · refine Mh_iload_n 0 rfl dX12_clause_11 ?_
    refine Mh_bipush (v := 101) dX12_clause_12 (by decide) ?_
    refine Mh_icmp_eq (tgt := 35) dX12_clause_14 (by decide) rfl (fun _ => ?_) (fun _ => ?_)
    · refine Mh_sub (lv' := [(0, .ref l0), (1, .int y0)]) [1, 0] rfl ?_
      exact t_X12_clause_35 l E c0 s0 _ _ _ _
    · refine Mh_iload_n 0 rfl dX12_clause_17 ?_
      refine Mh_bipush (v := 103) dX12_clause_18 (by decide) ?_
      refine Mh_icmp_eq (tgt := 35) dX12_clause_20 (by decide) rfl (fun _ => ?_) (fun _ => ?_)
      · refine Mh_sub (lv' := [(0, .ref l0), (1, .int y0)]) [1, 0] rfl ?_
        exact t_X12_clause_35 l E c0 s0 _ _ _ _
      · refine Mh_aload_n 1 rfl dX12_clause_23 ?_
        refine Mh_iconst (v := 1) dX12_clause_24 (by decide) ?_
        refine Mh_aload_n 1 rfl dX12_clause_25 ?_
        refine Mh_gI fd_11_35 fl_RX12_235 dX12_clause_26 ?_
        refine Mh_cvU (N := mi_X12_wrongs) (q := l0) (ci := 11) (as := [.int (1 : Int32), .int (gI m l0 35)]) (st := []) (fun h => ⟨h, (fun h => h.2) h⟩) cg_yX12_wrongs (by decide) rfl rfl ml_RX12_257 iv_yX12_wrongs pd_yX12_wrongs rfl (by decide) (Nat.le_of_ble_eq_true rfl) rfl dX12_clause_29 (T_X12_wrongs l E _ _ _ _ _) rfl ?_
        refine Mh_sub (lv' := [(0, .ref l0), (1, .int y0)]) [1, 0] rfl ?_
        exact t_X12_clause_32 l E c0 s0 _ _ _ _
def f_X12_clause_0 (l0 : Nat) (m : Mm) (o : Prop) : Unit × Mm × Prop := bnd (F_X12_here l0 m (o ∧ gT m l0 = 12)) (fun v1 m1 o1 => f_X12_clause_4 l0 v1 m1 o1)
set_option maxRecDepth 10000 in
theorem t_X12_clause_0 (l : Launch) (E : En) (c0 s0 : Nat) (l0 : Nat) (m : Mm) (o : Prop) : Mh wU l E mi_X12_clause c0 s0 0 [(0, .ref l0)] [] m o (f_X12_clause_0 l0 m o) := by
  refine Mh_aload_n 0 rfl dX12_clause_0 ?_
  refine Mh_cvI (N := mi_X12_here) (q := l0) (ci := 11) (as := []) (st := []) (id) cg_yX12_here (by decide) rfl rfl ml_RX12_261 iv_yX12_here pd_yX12_here rfl (by decide) (Nat.le_of_ble_eq_true rfl) rfl dX12_clause_1 (T_X12_here l E _ _ _) rfl ?_
  exact t_X12_clause_4 l E c0 s0 _ _ _ _
def F_X12_clause (a0 : Nat) (m : Mm) (o : Prop) : Unit × Mm × Prop := f_X12_clause_0 a0 m o
theorem T_X12_clause (l : Launch) (E : En) (a0 : Nat) (m : Mm) (o : Prop) : Mt wU l E yX12_clause mi_X12_clause [.ref a0] m o (F_X12_clause a0 m o) :=
  Mt_U (by decide) rfl (fun h => by cases h) rfl (Nat.le_of_ble_eq_true rfl) rfl (t_X12_clause_0 l E _ _ _ _ _)
def f_X12_law_20 (m : Mm) (o : Prop) : Int32 × Mm × Prop := ((-1 : Int32), m, o)
set_option maxRecDepth 10000 in
theorem t_X12_law_20 (l : Launch) (E : En) (c0 s0 : Nat) (m : Mm) (o : Prop) : Mh wI l E mi_X12_law c0 s0 20 [] [] m o (f_X12_law_20  m o) := by
  refine Mh_iconst (v := (-1)) dX12_law_20 (by decide) ?_
  exact Mh_ret dX12_law_21 rfl (fun _ => rfl) rfl
def f_X12_law_125 (k54 : Nat → Int32 → Mm → Prop → Int32 × Mm × Prop) (l0 : Nat) (l2 : Int32) (m : Mm) (o : Prop) : Int32 × Mm × Prop := k54 l0 l2 m o
set_option maxRecDepth 10000 in
theorem t_X12_law_125 (l : Launch) (E : En) (c0 s0 : Nat) (k54 : Nat → Int32 → Mm → Prop → Int32 × Mm × Prop) (hk54 : ∀ (l0 : Nat) (l2 : Int32) (m : Mm) (o : Prop), Mh wI l E mi_X12_law c0 s0 54 [(0, .ref l0), (2, .int l2)] [] m o (k54 l0 l2 m o)) (l0 : Nat) (l2 : Int32) (m : Mm) (o : Prop) : Mh wI l E mi_X12_law c0 s0 125 [(0, .ref l0), (2, .int l2)] [] m o (f_X12_law_125 k54 l0 l2 m o) := by
  refine Mh_goto (tgt := 54) dX12_law_125 (by decide) ?_
  exact hk54 _ _ _ _
def f_X12_law_115 (k54 : Nat → Int32 → Mm → Prop → Int32 × Mm × Prop) (l0 : Nat) (l2 : Int32) (m : Mm) (o : Prop) : Int32 × Mm × Prop := f_X12_law_125 k54 l0 l2 (sI m l0 35 ((gI m l0 35) + (1 : Int32))) (o ∧ gT m l0 = 12)
set_option maxRecDepth 10000 in
theorem t_X12_law_115 (l : Launch) (E : En) (c0 s0 : Nat) (k54 : Nat → Int32 → Mm → Prop → Int32 × Mm × Prop) (hk54 : ∀ (l0 : Nat) (l2 : Int32) (m : Mm) (o : Prop), Mh wI l E mi_X12_law c0 s0 54 [(0, .ref l0), (2, .int l2)] [] m o (k54 l0 l2 m o)) (l0 : Nat) (l2 : Int32) (m : Mm) (o : Prop) : Mh wI l E mi_X12_law c0 s0 115 [(0, .ref l0), (2, .int l2)] [] m o (f_X12_law_115 k54 l0 l2 m o) := by
  refine Mh_aload_n 0 rfl dX12_law_115 ?_
  refine Mh_dup dX12_law_116 rfl ?_
  refine Mh_gI fd_11_35 fl_RX12_235 dX12_law_117 ?_
  refine Mh_iconst (v := 1) dX12_law_120 (by decide) ?_
  refine Mh_iadd dX12_law_121 ?_
  refine Mh_pI fd_11_35 ft_11 rfl fl_RX12_235 rfl dX12_law_122 ?_
  refine Mh_ok (fun h => h.2) ?_
  exact t_X12_law_125 l E c0 s0 k54 hk54 _ _ _ _
def f_X12_law_101 (k54 : Nat → Int32 → Mm → Prop → Int32 × Mm × Prop) (l0 : Nat) (l2 : Int32) (y0 : Int32) (m : Mm) (o : Prop) : Int32 × Mm × Prop := if y0 = (59 : Int32) then (f_X12_law_115 k54 l0 l2 m o) else (bnd (F_X12_wrongs l0 (1 : Int32) (gI m l0 35) m (o ∧ gT m l0 = 12)) (fun _ m1 o1 => f_X12_law_115 k54 l0 l2 m1 o1))
set_option maxRecDepth 10000 in
theorem t_X12_law_101 (l : Launch) (E : En) (c0 s0 : Nat) (k54 : Nat → Int32 → Mm → Prop → Int32 × Mm × Prop) (hk54 : ∀ (l0 : Nat) (l2 : Int32) (m : Mm) (o : Prop), Mh wI l E mi_X12_law c0 s0 54 [(0, .ref l0), (2, .int l2)] [] m o (k54 l0 l2 m o)) (l0 : Nat) (l2 : Int32) (y0 : Int32) (m : Mm) (o : Prop) : Mh wI l E mi_X12_law c0 s0 101 [(0, .ref l0), (2, .int l2)] [.int y0] m o (f_X12_law_101 k54 l0 l2 y0 m o) := by
  refine Mh_bipush (v := 59) dX12_law_101 (by decide) ?_
  refine Mh_icmp_eq (tgt := 115) dX12_law_103 (by decide) rfl (fun _ => ?_) (fun _ => ?_)
  · exact t_X12_law_115 l E c0 s0 k54 hk54 _ _ _ _
  · refine Mh_aload_n 0 rfl dX12_law_106 ?_
    refine Mh_iconst (v := 1) dX12_law_107 (by decide) ?_
    refine Mh_aload_n 0 rfl dX12_law_108 ?_
    refine Mh_gI fd_11_35 fl_RX12_235 dX12_law_109 ?_
    refine Mh_cvU (N := mi_X12_wrongs) (q := l0) (ci := 11) (as := [.int (1 : Int32), .int (gI m l0 35)]) (st := []) (fun h => ⟨h, (fun h => h.2) h⟩) cg_yX12_wrongs (by decide) rfl rfl ml_RX12_257 iv_yX12_wrongs pd_yX12_wrongs rfl (by decide) (Nat.le_of_ble_eq_true rfl) rfl dX12_law_112 (T_X12_wrongs l E _ _ _ _ _) rfl ?_
    exact t_X12_law_115 l E c0 s0 k54 hk54 _ _ _ _
def f_X12_law_92 (k54 : Nat → Int32 → Mm → Prop → Int32 × Mm × Prop) (l0 : Nat) (y0 : Int32) (m : Mm) (o : Prop) : Int32 × Mm × Prop := if y0 = 0 then (k54 l0 y0 m o) else (bnd (F_X12_here l0 m (o ∧ gT m l0 = 12)) (fun v1 m1 o1 => f_X12_law_101 k54 l0 y0 v1 m1 o1))
set_option maxRecDepth 10000 in
theorem t_X12_law_92 (l : Launch) (E : En) (c0 s0 : Nat) (k54 : Nat → Int32 → Mm → Prop → Int32 × Mm × Prop) (hk54 : ∀ (l0 : Nat) (l2 : Int32) (m : Mm) (o : Prop), Mh wI l E mi_X12_law c0 s0 54 [(0, .ref l0), (2, .int l2)] [] m o (k54 l0 l2 m o)) (l0 : Nat) (y0 : Int32) (m : Mm) (o : Prop) : Mh wI l E mi_X12_law c0 s0 92 [(0, .ref l0)] [.int y0] m o (f_X12_law_92 k54 l0 y0 m o) := by
  refine Mh_istore_n (lv' := [(2, .int y0), (0, .ref l0)]) dX12_law_92 (Nat.le_of_ble_eq_true rfl) rfl ?_
  refine Mh_iload_n 0 rfl dX12_law_93 ?_
  refine Mh_if_eq (tgt := 54) dX12_law_94 (by decide) rfl (fun _ => ?_) (fun _ => ?_)
  · refine Mh_sub (lv' := [(0, .ref l0), (2, .int y0)]) [1, 0] rfl ?_
    exact hk54 _ _ _ _
  · refine Mh_aload_n 1 rfl dX12_law_97 ?_
    refine Mh_cvI (N := mi_X12_here) (q := l0) (ci := 11) (as := []) (st := []) (id) cg_yX12_here (by decide) rfl rfl ml_RX12_261 iv_yX12_here pd_yX12_here rfl (by decide) (Nat.le_of_ble_eq_true rfl) rfl dX12_law_98 (T_X12_here l E _ _ _) rfl ?_
    refine Mh_sub (lv' := [(0, .ref l0), (2, .int y0)]) [1, 0] rfl ?_
    exact t_X12_law_101 l E c0 s0 k54 hk54 _ _ _ _ _
def f_X12_law_91 (k54 : Nat → Int32 → Mm → Prop → Int32 × Mm × Prop) (l0 : Nat) (m : Mm) (o : Prop) : Int32 × Mm × Prop := f_X12_law_92 k54 l0 (0 : Int32) m o
set_option maxRecDepth 10000 in
theorem t_X12_law_91 (l : Launch) (E : En) (c0 s0 : Nat) (k54 : Nat → Int32 → Mm → Prop → Int32 × Mm × Prop) (hk54 : ∀ (l0 : Nat) (l2 : Int32) (m : Mm) (o : Prop), Mh wI l E mi_X12_law c0 s0 54 [(0, .ref l0), (2, .int l2)] [] m o (k54 l0 l2 m o)) (l0 : Nat) (m : Mm) (o : Prop) : Mh wI l E mi_X12_law c0 s0 91 [(0, .ref l0)] [] m o (f_X12_law_91 k54 l0 m o) := by
  refine Mh_iconst (v := 0) dX12_law_91 (by decide) ?_
  exact t_X12_law_92 l E c0 s0 k54 hk54 _ _ _ _
def f_X12_law_73 (k54 : Nat → Int32 → Mm → Prop → Int32 × Mm × Prop) (l0 : Nat) (y0 : Int32) (m : Mm) (o : Prop) : Int32 × Mm × Prop := if y0 = 0 then (f_X12_law_91 k54 l0 m o) else (if (gI m l0 36) ≤ (gI m l0 35) then (f_X12_law_91 k54 l0 m (o ∧ gT m l0 = 12)) else (f_X12_law_92 k54 l0 (1 : Int32) m (o ∧ gT m l0 = 12)))
set_option maxRecDepth 10000 in
theorem t_X12_law_73 (l : Launch) (E : En) (c0 s0 : Nat) (k54 : Nat → Int32 → Mm → Prop → Int32 × Mm × Prop) (hk54 : ∀ (l0 : Nat) (l2 : Int32) (m : Mm) (o : Prop), Mh wI l E mi_X12_law c0 s0 54 [(0, .ref l0), (2, .int l2)] [] m o (k54 l0 l2 m o)) (l0 : Nat) (y0 : Int32) (m : Mm) (o : Prop) : Mh wI l E mi_X12_law c0 s0 73 [(0, .ref l0)] [.int y0] m o (f_X12_law_73 k54 l0 y0 m o) := by
  refine Mh_if_eq (tgt := 91) dX12_law_73 (by decide) rfl (fun _ => ?_) (fun _ => ?_)
  · exact t_X12_law_91 l E c0 s0 k54 hk54 _ _ _
  · refine Mh_aload_n 0 rfl dX12_law_76 ?_
    refine Mh_gI fd_11_35 fl_RX12_235 dX12_law_77 ?_
    refine Mh_aload_n 0 rfl dX12_law_80 ?_
    refine Mh_gI fd_11_36 fl_RX12_238 dX12_law_81 ?_
    refine Mh_ok (fun h => h.2) ?_
    refine Mh_icmp_ge (tgt := 91) dX12_law_84 (by decide) rfl (fun _ => ?_) (fun _ => ?_)
    · exact t_X12_law_91 l E c0 s0 k54 hk54 _ _ _
    · refine Mh_iconst (v := 1) dX12_law_87 (by decide) ?_
      refine Mh_goto (tgt := 92) dX12_law_88 (by decide) ?_
      exact t_X12_law_92 l E c0 s0 k54 hk54 _ _ _ _
def f_X12_law_69 (k54 : Nat → Int32 → Mm → Prop → Int32 × Mm × Prop) (l0 : Nat) (m : Mm) (o : Prop) : Int32 × Mm × Prop := bnd (F_X12_isGood l0 m (o ∧ gT m l0 = 12)) (fun v1 m1 o1 => f_X12_law_73 k54 l0 v1 m1 o1)
set_option maxRecDepth 10000 in
theorem t_X12_law_69 (l : Launch) (E : En) (c0 s0 : Nat) (k54 : Nat → Int32 → Mm → Prop → Int32 × Mm × Prop) (hk54 : ∀ (l0 : Nat) (l2 : Int32) (m : Mm) (o : Prop), Mh wI l E mi_X12_law c0 s0 54 [(0, .ref l0), (2, .int l2)] [] m o (k54 l0 l2 m o)) (l0 : Nat) (m : Mm) (o : Prop) : Mh wI l E mi_X12_law c0 s0 69 [(0, .ref l0)] [] m o (f_X12_law_69 k54 l0 m o) := by
  refine Mh_aload_n 0 rfl dX12_law_69 ?_
  refine Mh_cvI (N := mi_X12_isGood) (q := l0) (ci := 11) (as := []) (st := []) (id) cg_yX12_isGood (by decide) rfl rfl ml_RX12_244 iv_yX12_isGood pd_yX12_isGood rfl (by decide) (Nat.le_of_ble_eq_true rfl) rfl dX12_law_70 (T_X12_isGood l E _ _ _) rfl ?_
  exact t_X12_law_73 l E c0 s0 k54 hk54 _ _ _ _
def f_X12_law_198 (k142 : Nat → Int32 → Mm → Prop → Int32 × Mm × Prop) (l0 : Nat) (l3 : Int32) (m : Mm) (o : Prop) : Int32 × Mm × Prop := k142 l0 (l3 + 1) m o
set_option maxRecDepth 10000 in
theorem t_X12_law_198 (l : Launch) (E : En) (c0 s0 : Nat) (k142 : Nat → Int32 → Mm → Prop → Int32 × Mm × Prop) (hk142 : ∀ (l0 : Nat) (l3 : Int32) (m : Mm) (o : Prop), Mh wI l E mi_X12_law c0 s0 142 [(0, .ref l0), (3, .int l3)] [] m o (k142 l0 l3 m o)) (l0 : Nat) (l3 : Int32) (m : Mm) (o : Prop) : Mh wI l E mi_X12_law c0 s0 198 [(0, .ref l0), (3, .int l3)] [] m o (f_X12_law_198 k142 l0 l3 m o) := by
  refine Mh_iinc (v := l3 + 1) (lv' := [(3, .int (l3 + 1)), (0, .ref l0)]) 1 dX12_law_198 rfl rfl (Nat.le_of_ble_eq_true rfl) rfl ?_
  refine Mh_goto (tgt := 142) dX12_law_201 (by decide) ?_
  refine Mh_sub (lv' := [(0, .ref l0), (3, .int (l3 + 1))]) [1, 0] rfl ?_
  exact hk142 _ _ _ _
def f_X12_law_186 (k142 : Nat → Int32 → Mm → Prop → Int32 × Mm × Prop) (l0 : Nat) (l3 : Int32) (m : Mm) (o : Prop) : Int32 × Mm × Prop := f_X12_law_198 k142 l0 l3 (sI m (gR m l0 26) (ix l3) (gI m (gR m l0 32) (ix l3))) ((((o ∧ (gT m l0 = 12 ∧ gR m l0 26 ≠ 0)) ∧ (gT m l0 = 12 ∧ gR m l0 32 ≠ 0)) ∧ (gT m (gR m l0 32) = 20 ∧ vp_in l3 (gN m (gR m l0 32)))) ∧ (gT m (gR m l0 26) = 20 ∧ vp_in l3 (gN m (gR m l0 26))))
set_option maxRecDepth 10000 in
theorem t_X12_law_186 (l : Launch) (E : En) (c0 s0 : Nat) (k142 : Nat → Int32 → Mm → Prop → Int32 × Mm × Prop) (hk142 : ∀ (l0 : Nat) (l3 : Int32) (m : Mm) (o : Prop), Mh wI l E mi_X12_law c0 s0 142 [(0, .ref l0), (3, .int l3)] [] m o (k142 l0 l3 m o)) (l0 : Nat) (l3 : Int32) (m : Mm) (o : Prop) : Mh wI l E mi_X12_law c0 s0 186 [(0, .ref l0), (3, .int l3)] [] m o (f_X12_law_186 k142 l0 l3 m o) := by
  refine Mh_aload_n 0 rfl dX12_law_186 ?_
  refine Mh_gR fd_11_26 fl_RX12_73 dX12_law_187 ?_
  refine Mh_iload_n 1 rfl dX12_law_190 ?_
  refine Mh_aload_n 0 rfl dX12_law_191 ?_
  refine Mh_gR fd_11_32 fl_RX12_91 dX12_law_192 ?_
  refine Mh_iload_n 1 rfl dX12_law_195 ?_
  refine Mh_ial dX12_law_196 ?_
  refine Mh_ias dX12_law_197 ?_
  exact t_X12_law_198 l E c0 s0 k142 hk142 _ _ _ _
def f_X12_law_174 (k142 : Nat → Int32 → Mm → Prop → Int32 × Mm × Prop) (l0 : Nat) (l3 : Int32) (m : Mm) (o : Prop) : Int32 × Mm × Prop := f_X12_law_186 k142 l0 l3 (sI m (gR m l0 25) (ix l3) (gI m (gR m l0 31) (ix l3))) ((((o ∧ (gT m l0 = 12 ∧ gR m l0 25 ≠ 0)) ∧ (gT m l0 = 12 ∧ gR m l0 31 ≠ 0)) ∧ (gT m (gR m l0 31) = 20 ∧ vp_in l3 (gN m (gR m l0 31)))) ∧ (gT m (gR m l0 25) = 20 ∧ vp_in l3 (gN m (gR m l0 25))))
set_option maxRecDepth 10000 in
theorem t_X12_law_174 (l : Launch) (E : En) (c0 s0 : Nat) (k142 : Nat → Int32 → Mm → Prop → Int32 × Mm × Prop) (hk142 : ∀ (l0 : Nat) (l3 : Int32) (m : Mm) (o : Prop), Mh wI l E mi_X12_law c0 s0 142 [(0, .ref l0), (3, .int l3)] [] m o (k142 l0 l3 m o)) (l0 : Nat) (l3 : Int32) (m : Mm) (o : Prop) : Mh wI l E mi_X12_law c0 s0 174 [(0, .ref l0), (3, .int l3)] [] m o (f_X12_law_174 k142 l0 l3 m o) := by
  refine Mh_aload_n 0 rfl dX12_law_174 ?_
  refine Mh_gR fd_11_25 fl_RX12_70 dX12_law_175 ?_
  refine Mh_iload_n 1 rfl dX12_law_178 ?_
  refine Mh_aload_n 0 rfl dX12_law_179 ?_
  refine Mh_gR fd_11_31 fl_RX12_88 dX12_law_180 ?_
  refine Mh_iload_n 1 rfl dX12_law_183 ?_
  refine Mh_ial dX12_law_184 ?_
  refine Mh_ias dX12_law_185 ?_
  exact t_X12_law_186 l E c0 s0 k142 hk142 _ _ _ _
def f_X12_law_162 (k142 : Nat → Int32 → Mm → Prop → Int32 × Mm × Prop) (l0 : Nat) (l3 : Int32) (m : Mm) (o : Prop) : Int32 × Mm × Prop := f_X12_law_174 k142 l0 l3 (sI m (gR m l0 24) (ix l3) (gI m (gR m l0 30) (ix l3))) ((((o ∧ (gT m l0 = 12 ∧ gR m l0 24 ≠ 0)) ∧ (gT m l0 = 12 ∧ gR m l0 30 ≠ 0)) ∧ (gT m (gR m l0 30) = 20 ∧ vp_in l3 (gN m (gR m l0 30)))) ∧ (gT m (gR m l0 24) = 20 ∧ vp_in l3 (gN m (gR m l0 24))))
set_option maxRecDepth 10000 in
theorem t_X12_law_162 (l : Launch) (E : En) (c0 s0 : Nat) (k142 : Nat → Int32 → Mm → Prop → Int32 × Mm × Prop) (hk142 : ∀ (l0 : Nat) (l3 : Int32) (m : Mm) (o : Prop), Mh wI l E mi_X12_law c0 s0 142 [(0, .ref l0), (3, .int l3)] [] m o (k142 l0 l3 m o)) (l0 : Nat) (l3 : Int32) (m : Mm) (o : Prop) : Mh wI l E mi_X12_law c0 s0 162 [(0, .ref l0), (3, .int l3)] [] m o (f_X12_law_162 k142 l0 l3 m o) := by
  refine Mh_aload_n 0 rfl dX12_law_162 ?_
  refine Mh_gR fd_11_24 fl_RX12_67 dX12_law_163 ?_
  refine Mh_iload_n 1 rfl dX12_law_166 ?_
  refine Mh_aload_n 0 rfl dX12_law_167 ?_
  refine Mh_gR fd_11_30 fl_RX12_85 dX12_law_168 ?_
  refine Mh_iload_n 1 rfl dX12_law_171 ?_
  refine Mh_ial dX12_law_172 ?_
  refine Mh_ias dX12_law_173 ?_
  exact t_X12_law_174 l E c0 s0 k142 hk142 _ _ _ _
def f_X12_law_238 (k206 : Nat → Int32 → Mm → Prop → Int32 × Mm × Prop) (l0 : Nat) (l3 : Int32) (m : Mm) (o : Prop) : Int32 × Mm × Prop := k206 l0 (l3 + 1) m o
set_option maxRecDepth 10000 in
theorem t_X12_law_238 (l : Launch) (E : En) (c0 s0 : Nat) (k206 : Nat → Int32 → Mm → Prop → Int32 × Mm × Prop) (hk206 : ∀ (l0 : Nat) (l3 : Int32) (m : Mm) (o : Prop), Mh wI l E mi_X12_law c0 s0 206 [(0, .ref l0), (3, .int l3)] [] m o (k206 l0 l3 m o)) (l0 : Nat) (l3 : Int32) (m : Mm) (o : Prop) : Mh wI l E mi_X12_law c0 s0 238 [(0, .ref l0), (3, .int l3)] [] m o (f_X12_law_238 k206 l0 l3 m o) := by
  refine Mh_iinc (v := l3 + 1) (lv' := [(3, .int (l3 + 1)), (0, .ref l0)]) 1 dX12_law_238 rfl rfl (Nat.le_of_ble_eq_true rfl) rfl ?_
  refine Mh_goto (tgt := 206) dX12_law_241 (by decide) ?_
  refine Mh_sub (lv' := [(0, .ref l0), (3, .int (l3 + 1))]) [1, 0] rfl ?_
  exact hk206 _ _ _ _
def f_X12_law_226 (k206 : Nat → Int32 → Mm → Prop → Int32 × Mm × Prop) (l0 : Nat) (l3 : Int32) (m : Mm) (o : Prop) : Int32 × Mm × Prop := f_X12_law_238 k206 l0 l3 (sI m (gR m l0 28) (ix l3) (gI m (gR m l0 34) (ix l3))) ((((o ∧ (gT m l0 = 12 ∧ gR m l0 28 ≠ 0)) ∧ (gT m l0 = 12 ∧ gR m l0 34 ≠ 0)) ∧ (gT m (gR m l0 34) = 20 ∧ vp_in l3 (gN m (gR m l0 34)))) ∧ (gT m (gR m l0 28) = 20 ∧ vp_in l3 (gN m (gR m l0 28))))
set_option maxRecDepth 10000 in
theorem t_X12_law_226 (l : Launch) (E : En) (c0 s0 : Nat) (k206 : Nat → Int32 → Mm → Prop → Int32 × Mm × Prop) (hk206 : ∀ (l0 : Nat) (l3 : Int32) (m : Mm) (o : Prop), Mh wI l E mi_X12_law c0 s0 206 [(0, .ref l0), (3, .int l3)] [] m o (k206 l0 l3 m o)) (l0 : Nat) (l3 : Int32) (m : Mm) (o : Prop) : Mh wI l E mi_X12_law c0 s0 226 [(0, .ref l0), (3, .int l3)] [] m o (f_X12_law_226 k206 l0 l3 m o) := by
  refine Mh_aload_n 0 rfl dX12_law_226 ?_
  refine Mh_gR fd_11_28 fl_RX12_79 dX12_law_227 ?_
  refine Mh_iload_n 1 rfl dX12_law_230 ?_
  refine Mh_aload_n 0 rfl dX12_law_231 ?_
  refine Mh_gR fd_11_34 fl_RX12_97 dX12_law_232 ?_
  refine Mh_iload_n 1 rfl dX12_law_235 ?_
  refine Mh_ial dX12_law_236 ?_
  refine Mh_ias dX12_law_237 ?_
  exact t_X12_law_238 l E c0 s0 k206 hk206 _ _ _ _
def f_X12_law_252 (l0 : Nat) (m : Mm) (o : Prop) : Int32 × Mm × Prop := (gI m l0 22, m, (o ∧ gT m l0 = 12))
set_option maxRecDepth 10000 in
theorem t_X12_law_252 (l : Launch) (E : En) (c0 s0 : Nat) (l0 : Nat) (m : Mm) (o : Prop) : Mh wI l E mi_X12_law c0 s0 252 [(0, .ref l0)] [] m o (f_X12_law_252 l0 m o) := by
  refine Mh_aload_n 0 rfl dX12_law_252 ?_
  refine Mh_gI fd_11_22 fl_RX12_342 dX12_law_253 ?_
  exact Mh_ret dX12_law_256 rfl (fun _ => rfl) rfl
def f_X12_law_206b (k206 : Nat → Int32 → Mm → Prop → Int32 × Mm × Prop) (l0 : Nat) (l3 : Int32) (m : Mm) (o : Prop) : Int32 × Mm × Prop := if (gI m l0 39) ≤ l3 then (f_X12_law_252 l0 (sI m l0 22 (gI m l0 38)) (o ∧ gT m l0 = 12)) else (f_X12_law_226 k206 l0 l3 (sI m (gR m l0 27) (ix l3) (gI m (gR m l0 33) (ix l3))) (((((o ∧ gT m l0 = 12) ∧ (gT m l0 = 12 ∧ gR m l0 27 ≠ 0)) ∧ (gT m l0 = 12 ∧ gR m l0 33 ≠ 0)) ∧ (gT m (gR m l0 33) = 20 ∧ vp_in l3 (gN m (gR m l0 33)))) ∧ (gT m (gR m l0 27) = 20 ∧ vp_in l3 (gN m (gR m l0 27)))))
set_option maxRecDepth 10000 in
theorem t_X12_law_206b (l : Launch) (E : En) (c0 s0 : Nat) (k206 : Nat → Int32 → Mm → Prop → Int32 × Mm × Prop) (hk206 : ∀ (l0 : Nat) (l3 : Int32) (m : Mm) (o : Prop), Mh wI l E mi_X12_law c0 s0 206 [(0, .ref l0), (3, .int l3)] [] m o (k206 l0 l3 m o)) (l0 : Nat) (l3 : Int32) (m : Mm) (o : Prop) : Mh wI l E mi_X12_law c0 s0 206 [(0, .ref l0), (3, .int l3)] [] m o (f_X12_law_206b k206 l0 l3 m o) := by
  refine Mh_iload_n 1 rfl dX12_law_206 ?_
  refine Mh_aload_n 0 rfl dX12_law_207 ?_
  refine Mh_gI fd_11_39 fl_RX12_248 dX12_law_208 ?_
  refine Mh_icmp_ge (tgt := 244) dX12_law_211 (by decide) rfl (fun _ => ?_) (fun _ => ?_)
  · refine Mh_aload_n 0 rfl dX12_law_244 ?_
    refine Mh_aload_n 0 rfl dX12_law_245 ?_
    refine Mh_gI fd_11_38 fl_RX12_331 dX12_law_246 ?_
    refine Mh_ok (fun h => h.2) ?_
    refine Mh_pI fd_11_22 ft_11 rfl fl_RX12_342 rfl dX12_law_249 ?_
    refine Mh_ok (fun h => h.2) ?_
    refine Mh_sub (lv' := [(0, .ref l0)]) [0] rfl ?_
    exact t_X12_law_252 l E c0 s0 _ _ _
  · refine Mh_aload_n 0 rfl dX12_law_214 ?_
    refine Mh_gR fd_11_27 fl_RX12_76 dX12_law_215 ?_
    refine Mh_iload_n 1 rfl dX12_law_218 ?_
    refine Mh_aload_n 0 rfl dX12_law_219 ?_
    refine Mh_gR fd_11_33 fl_RX12_94 dX12_law_220 ?_
    refine Mh_iload_n 1 rfl dX12_law_223 ?_
    refine Mh_ial dX12_law_224 ?_
    refine Mh_ias dX12_law_225 ?_
    exact t_X12_law_226 l E c0 s0 k206 hk206 _ _ _ _
def f_X12_law_206 : Nat → Nat → Int32 → Mm → Prop → Int32 × Mm × Prop
  | 0, _, _, m, _ => (0, m, False)
  | n + 1, l0, l3, m, o => f_X12_law_206b (f_X12_law_206 n) l0 l3 m o
theorem t_X12_law_206 (l : Launch) (E : En) (c0 s0 : Nat) : ∀ (n : Nat) (l0 : Nat) (l3 : Int32) (m : Mm) (o : Prop), Mh wI l E mi_X12_law c0 s0 206 [(0, .ref l0), (3, .int l3)] [] m o (f_X12_law_206 n l0 l3 m o)
  | 0, _, _, _, _ => Mh_out rfl
  | n + 1, l0, l3, m, o => t_X12_law_206b l E c0 s0 (f_X12_law_206 n) (t_X12_law_206 l E c0 s0 n) l0 l3 m o
def f_X12_law_142b (k142 : Nat → Int32 → Mm → Prop → Int32 × Mm × Prop) (l0 : Nat) (l3 : Int32) (m : Mm) (o : Prop) : Int32 × Mm × Prop := if (gI m l0 38) ≤ l3 then (f_X12_law_206 1000 l0 (0 : Int32) m (o ∧ gT m l0 = 12)) else (f_X12_law_162 k142 l0 l3 (sI m (gR m l0 23) (ix l3) (gI m (gR m l0 29) (ix l3))) (((((o ∧ gT m l0 = 12) ∧ (gT m l0 = 12 ∧ gR m l0 23 ≠ 0)) ∧ (gT m l0 = 12 ∧ gR m l0 29 ≠ 0)) ∧ (gT m (gR m l0 29) = 20 ∧ vp_in l3 (gN m (gR m l0 29)))) ∧ (gT m (gR m l0 23) = 20 ∧ vp_in l3 (gN m (gR m l0 23)))))
set_option maxRecDepth 10000 in
theorem t_X12_law_142b (l : Launch) (E : En) (c0 s0 : Nat) (k142 : Nat → Int32 → Mm → Prop → Int32 × Mm × Prop) (hk142 : ∀ (l0 : Nat) (l3 : Int32) (m : Mm) (o : Prop), Mh wI l E mi_X12_law c0 s0 142 [(0, .ref l0), (3, .int l3)] [] m o (k142 l0 l3 m o)) (l0 : Nat) (l3 : Int32) (m : Mm) (o : Prop) : Mh wI l E mi_X12_law c0 s0 142 [(0, .ref l0), (3, .int l3)] [] m o (f_X12_law_142b k142 l0 l3 m o) := by
  refine Mh_iload_n 1 rfl dX12_law_142 ?_
  refine Mh_aload_n 0 rfl dX12_law_143 ?_
  refine Mh_gI fd_11_38 fl_RX12_331 dX12_law_144 ?_
  refine Mh_icmp_ge (tgt := 204) dX12_law_147 (by decide) rfl (fun _ => ?_) (fun _ => ?_)
  · refine Mh_iconst (v := 0) dX12_law_204 (by decide) ?_
    refine Mh_istore_n (lv' := [(3, .int (0 : Int32)), (0, .ref l0)]) dX12_law_205 (Nat.le_of_ble_eq_true rfl) rfl ?_
    refine Mh_sub (lv' := [(0, .ref l0), (3, .int (0 : Int32))]) [1, 0] rfl ?_
    exact t_X12_law_206 l E c0 s0 _ _ _ _ _
  · refine Mh_aload_n 0 rfl dX12_law_150 ?_
    refine Mh_gR fd_11_23 fl_RX12_64 dX12_law_151 ?_
    refine Mh_iload_n 1 rfl dX12_law_154 ?_
    refine Mh_aload_n 0 rfl dX12_law_155 ?_
    refine Mh_gR fd_11_29 fl_RX12_82 dX12_law_156 ?_
    refine Mh_iload_n 1 rfl dX12_law_159 ?_
    refine Mh_ial dX12_law_160 ?_
    refine Mh_ias dX12_law_161 ?_
    exact t_X12_law_162 l E c0 s0 k142 hk142 _ _ _ _
def f_X12_law_142 : Nat → Nat → Int32 → Mm → Prop → Int32 × Mm × Prop
  | 0, _, _, m, _ => (0, m, False)
  | n + 1, l0, l3, m, o => f_X12_law_142b (f_X12_law_142 n) l0 l3 m o
theorem t_X12_law_142 (l : Launch) (E : En) (c0 s0 : Nat) : ∀ (n : Nat) (l0 : Nat) (l3 : Int32) (m : Mm) (o : Prop), Mh wI l E mi_X12_law c0 s0 142 [(0, .ref l0), (3, .int l3)] [] m o (f_X12_law_142 n l0 l3 m o)
  | 0, _, _, _, _ => Mh_out rfl
  | n + 1, l0, l3, m, o => t_X12_law_142b l E c0 s0 (f_X12_law_142 n) (t_X12_law_142 l E c0 s0 n) l0 l3 m o
def f_X12_law_128 (l0 : Nat) (m : Mm) (o : Prop) : Int32 × Mm × Prop := if 0 ≤ (gI m l0 37) then (f_X12_law_142 1000 l0 (0 : Int32) m (o ∧ gT m l0 = 12)) else (gI m l0 37, m, (o ∧ gT m l0 = 12))
set_option maxRecDepth 10000 in
theorem t_X12_law_128 (l : Launch) (E : En) (c0 s0 : Nat) (l0 : Nat) (m : Mm) (o : Prop) : Mh wI l E mi_X12_law c0 s0 128 [(0, .ref l0)] [] m o (f_X12_law_128 l0 m o) := by
  refine Mh_aload_n 0 rfl dX12_law_128 ?_
  refine Mh_gI fd_11_37 fl_RX12_241 dX12_law_129 ?_
  refine Mh_if_ge (tgt := 140) dX12_law_132 (by decide) rfl (fun _ => ?_) (fun _ => ?_)
  · refine Mh_iconst (v := 0) dX12_law_140 (by decide) ?_
    refine Mh_istore_n (lv' := [(3, .int (0 : Int32)), (0, .ref l0)]) dX12_law_141 (Nat.le_of_ble_eq_true rfl) rfl ?_
    refine Mh_sub (lv' := [(0, .ref l0), (3, .int (0 : Int32))]) [1, 0] rfl ?_
    exact t_X12_law_142 l E c0 s0 _ _ _ _ _
  · refine Mh_aload_n 0 rfl dX12_law_135 ?_
    refine Mh_gI fd_11_37 fl_RX12_241 dX12_law_136 ?_
    refine Mh_ok (fun h => h.2) ?_
    exact Mh_ret dX12_law_139 rfl (fun _ => rfl) rfl
def f_X12_law_62 (k54 : Nat → Int32 → Mm → Prop → Int32 × Mm × Prop) (l0 : Nat) (y0 : Int32) (m : Mm) (o : Prop) : Int32 × Mm × Prop := if y0 = 0 then (f_X12_law_128 l0 m o) else (bnd (F_X12_clause l0 m (o ∧ gT m l0 = 12)) (fun _ m1 o1 => f_X12_law_69 k54 l0 m1 o1))
set_option maxRecDepth 10000 in
theorem t_X12_law_62 (l : Launch) (E : En) (c0 s0 : Nat) (k54 : Nat → Int32 → Mm → Prop → Int32 × Mm × Prop) (hk54 : ∀ (l0 : Nat) (l2 : Int32) (m : Mm) (o : Prop), Mh wI l E mi_X12_law c0 s0 54 [(0, .ref l0), (2, .int l2)] [] m o (k54 l0 l2 m o)) (l0 : Nat) (y0 : Int32) (m : Mm) (o : Prop) : Mh wI l E mi_X12_law c0 s0 62 [(0, .ref l0)] [.int y0] m o (f_X12_law_62 k54 l0 y0 m o) := by
  refine Mh_if_eq (tgt := 128) dX12_law_62 (by decide) rfl (fun _ => ?_) (fun _ => ?_)
  · exact t_X12_law_128 l E c0 s0 _ _ _
  · refine Mh_aload_n 0 rfl dX12_law_65 ?_
    refine Mh_cvU (N := mi_X12_clause) (q := l0) (ci := 11) (as := []) (st := []) (id) cg_yX12_clause (by decide) rfl rfl ml_RX12_339 iv_yX12_clause pd_yX12_clause rfl (by decide) (Nat.le_of_ble_eq_true rfl) rfl dX12_law_66 (T_X12_clause l E _ _ _) rfl ?_
    exact t_X12_law_69 l E c0 s0 k54 hk54 _ _ _
def f_X12_law_54b (k54 : Nat → Int32 → Mm → Prop → Int32 × Mm × Prop) (l0 : Nat) (l2 : Int32) (m : Mm) (o : Prop) : Int32 × Mm × Prop := if l2 = 0 then (f_X12_law_128 l0 m o) else (bnd (F_X12_isGood l0 m (o ∧ gT m l0 = 12)) (fun v1 m1 o1 => f_X12_law_62 k54 l0 v1 m1 o1))
set_option maxRecDepth 10000 in
theorem t_X12_law_54b (l : Launch) (E : En) (c0 s0 : Nat) (k54 : Nat → Int32 → Mm → Prop → Int32 × Mm × Prop) (hk54 : ∀ (l0 : Nat) (l2 : Int32) (m : Mm) (o : Prop), Mh wI l E mi_X12_law c0 s0 54 [(0, .ref l0), (2, .int l2)] [] m o (k54 l0 l2 m o)) (l0 : Nat) (l2 : Int32) (m : Mm) (o : Prop) : Mh wI l E mi_X12_law c0 s0 54 [(0, .ref l0), (2, .int l2)] [] m o (f_X12_law_54b k54 l0 l2 m o) := by
  refine Mh_iload_n 1 rfl dX12_law_54 ?_
  refine Mh_if_eq (tgt := 128) dX12_law_55 (by decide) rfl (fun _ => ?_) (fun _ => ?_)
  · refine Mh_sub (lv' := [(0, .ref l0)]) [0] rfl ?_
    exact t_X12_law_128 l E c0 s0 _ _ _
  · refine Mh_aload_n 0 rfl dX12_law_58 ?_
    refine Mh_cvI (N := mi_X12_isGood) (q := l0) (ci := 11) (as := []) (st := []) (id) cg_yX12_isGood (by decide) rfl rfl ml_RX12_244 iv_yX12_isGood pd_yX12_isGood rfl (by decide) (Nat.le_of_ble_eq_true rfl) rfl dX12_law_59 (T_X12_isGood l E _ _ _) rfl ?_
    refine Mh_sub (lv' := [(0, .ref l0)]) [0] rfl ?_
    exact t_X12_law_62 l E c0 s0 k54 hk54 _ _ _ _
def f_X12_law_54 : Nat → Nat → Int32 → Mm → Prop → Int32 × Mm × Prop
  | 0, _, _, m, _ => (0, m, False)
  | n + 1, l0, l2, m, o => f_X12_law_54b (f_X12_law_54 n) l0 l2 m o
theorem t_X12_law_54 (l : Launch) (E : En) (c0 s0 : Nat) : ∀ (n : Nat) (l0 : Nat) (l2 : Int32) (m : Mm) (o : Prop), Mh wI l E mi_X12_law c0 s0 54 [(0, .ref l0), (2, .int l2)] [] m o (f_X12_law_54 n l0 l2 m o)
  | 0, _, _, _, _ => Mh_out rfl
  | n + 1, l0, l2, m, o => t_X12_law_54b l E c0 s0 (f_X12_law_54 n) (t_X12_law_54 l E c0 s0 n) l0 l2 m o
def f_X12_law_52 (l0 : Nat) (m : Mm) (o : Prop) : Int32 × Mm × Prop := f_X12_law_54 1000 l0 (1 : Int32) m o
set_option maxRecDepth 10000 in
theorem t_X12_law_52 (l : Launch) (E : En) (c0 s0 : Nat) (l0 : Nat) (m : Mm) (o : Prop) : Mh wI l E mi_X12_law c0 s0 52 [(0, .ref l0)] [] m o (f_X12_law_52 l0 m o) := by
  refine Mh_iconst (v := 1) dX12_law_52 (by decide) ?_
  refine Mh_istore_n (lv' := [(2, .int (1 : Int32)), (0, .ref l0)]) dX12_law_53 (Nat.le_of_ble_eq_true rfl) rfl ?_
  refine Mh_sub (lv' := [(0, .ref l0), (2, .int (1 : Int32))]) [1, 0] rfl ?_
  exact t_X12_law_54 l E c0 s0 _ _ _ _ _
def f_X12_law_47 (l0 : Nat) (m : Mm) (o : Prop) : Int32 × Mm × Prop := f_X12_law_52 l0 (sI m l0 39 (0 : Int32)) (o ∧ gT m l0 = 12)
set_option maxRecDepth 10000 in
theorem t_X12_law_47 (l : Launch) (E : En) (c0 s0 : Nat) (l0 : Nat) (m : Mm) (o : Prop) : Mh wI l E mi_X12_law c0 s0 47 [(0, .ref l0)] [] m o (f_X12_law_47 l0 m o) := by
  refine Mh_aload_n 0 rfl dX12_law_47 ?_
  refine Mh_iconst (v := 0) dX12_law_48 (by decide) ?_
  refine Mh_pI fd_11_39 ft_11 rfl fl_RX12_248 rfl dX12_law_49 ?_
  exact t_X12_law_52 l E c0 s0 _ _ _
def f_X12_law_42 (l0 : Nat) (m : Mm) (o : Prop) : Int32 × Mm × Prop := f_X12_law_47 l0 (sI m l0 38 (0 : Int32)) (o ∧ gT m l0 = 12)
set_option maxRecDepth 10000 in
theorem t_X12_law_42 (l : Launch) (E : En) (c0 s0 : Nat) (l0 : Nat) (m : Mm) (o : Prop) : Mh wI l E mi_X12_law c0 s0 42 [(0, .ref l0)] [] m o (f_X12_law_42 l0 m o) := by
  refine Mh_aload_n 0 rfl dX12_law_42 ?_
  refine Mh_iconst (v := 0) dX12_law_43 (by decide) ?_
  refine Mh_pI fd_11_38 ft_11 rfl fl_RX12_331 rfl dX12_law_44 ?_
  exact t_X12_law_47 l E c0 s0 _ _ _
def f_X12_law_37 (l0 : Nat) (m : Mm) (o : Prop) : Int32 × Mm × Prop := f_X12_law_42 l0 (sI m l0 37 (0 : Int32)) (o ∧ gT m l0 = 12)
set_option maxRecDepth 10000 in
theorem t_X12_law_37 (l : Launch) (E : En) (c0 s0 : Nat) (l0 : Nat) (m : Mm) (o : Prop) : Mh wI l E mi_X12_law c0 s0 37 [(0, .ref l0)] [] m o (f_X12_law_37 l0 m o) := by
  refine Mh_aload_n 0 rfl dX12_law_37 ?_
  refine Mh_iconst (v := 0) dX12_law_38 (by decide) ?_
  refine Mh_pI fd_11_37 ft_11 rfl fl_RX12_241 rfl dX12_law_39 ?_
  exact t_X12_law_42 l E c0 s0 _ _ _
def f_X12_law_32 (l0 : Nat) (l1 : Int32) (m : Mm) (o : Prop) : Int32 × Mm × Prop := f_X12_law_37 l0 (sI m l0 36 l1) (o ∧ gT m l0 = 12)
set_option maxRecDepth 10000 in
theorem t_X12_law_32 (l : Launch) (E : En) (c0 s0 : Nat) (l0 : Nat) (l1 : Int32) (m : Mm) (o : Prop) : Mh wI l E mi_X12_law c0 s0 32 [(0, .ref l0), (1, .int l1)] [] m o (f_X12_law_32 l0 l1 m o) := by
  refine Mh_aload_n 0 rfl dX12_law_32 ?_
  refine Mh_iload_n 1 rfl dX12_law_33 ?_
  refine Mh_pI fd_11_36 ft_11 rfl fl_RX12_238 rfl dX12_law_34 ?_
  refine Mh_sub (lv' := [(0, .ref l0)]) [0] rfl ?_
  exact t_X12_law_37 l E c0 s0 _ _ _
def f_X12_law_27 (l0 : Nat) (l1 : Int32) (m : Mm) (o : Prop) : Int32 × Mm × Prop := f_X12_law_32 l0 l1 (sI m l0 35 (0 : Int32)) (o ∧ gT m l0 = 12)
set_option maxRecDepth 10000 in
theorem t_X12_law_27 (l : Launch) (E : En) (c0 s0 : Nat) (l0 : Nat) (l1 : Int32) (m : Mm) (o : Prop) : Mh wI l E mi_X12_law c0 s0 27 [(0, .ref l0), (1, .int l1)] [] m o (f_X12_law_27 l0 l1 m o) := by
  refine Mh_aload_n 0 rfl dX12_law_27 ?_
  refine Mh_iconst (v := 0) dX12_law_28 (by decide) ?_
  refine Mh_pI fd_11_35 ft_11 rfl fl_RX12_235 rfl dX12_law_29 ?_
  exact t_X12_law_32 l E c0 s0 _ _ _ _
def f_X12_law_9 (l0 : Nat) (l1 : Int32) (y0 : Int32) (m : Mm) (o : Prop) : Int32 × Mm × Prop := if y0 = 0 then (f_X12_law_20  m o) else (if l1 ≤ (gI m l0 1) then (f_X12_law_27 l0 l1 (sI m l0 1 (0 : Int32)) (o ∧ gT m l0 = 12)) else (f_X12_law_20  m (o ∧ gT m l0 = 12)))
set_option maxRecDepth 10000 in
theorem t_X12_law_9 (l : Launch) (E : En) (c0 s0 : Nat) (l0 : Nat) (l1 : Int32) (y0 : Int32) (m : Mm) (o : Prop) : Mh wI l E mi_X12_law c0 s0 9 [(0, .ref l0), (1, .int l1)] [.int y0] m o (f_X12_law_9 l0 l1 y0 m o) := by
  refine Mh_if_eq (tgt := 20) dX12_law_9 (by decide) rfl (fun _ => ?_) (fun _ => ?_)
  · refine Mh_sub (lv' := []) [] rfl ?_
    exact t_X12_law_20 l E c0 s0  _ _
  · refine Mh_iload_n 1 rfl dX12_law_12 ?_
    refine Mh_aload_n 0 rfl dX12_law_13 ?_
    refine Mh_gI fd_11_1 fl_RX12_228 dX12_law_14 ?_
    refine Mh_icmp_le (tgt := 22) dX12_law_17 (by decide) rfl (fun _ => ?_) (fun _ => ?_)
    · refine Mh_aload_n 0 rfl dX12_law_22 ?_
      refine Mh_iconst (v := 0) dX12_law_23 (by decide) ?_
      refine Mh_pI fd_11_1 ft_11 rfl fl_RX12_228 rfl dX12_law_24 ?_
      refine Mh_ok (fun h => h.2) ?_
      exact t_X12_law_27 l E c0 s0 _ _ _ _
    · refine Mh_sub (lv' := []) [] rfl ?_
      exact t_X12_law_20 l E c0 s0  _ _
def f_X12_law_0 (l0 : Nat) (l1 : Int32) (m : Mm) (o : Prop) : Int32 × Mm × Prop := bnd (F_X12_lies (Int32.toInt64 l1) (1 : Int64) (200 : Int64) m o) (fun v1 m1 o1 => f_X12_law_9 l0 l1 v1 m1 o1)
set_option maxRecDepth 10000 in
theorem t_X12_law_0 (l : Launch) (E : En) (c0 s0 : Nat) (l0 : Nat) (l1 : Int32) (m : Mm) (o : Prop) : Mh wI l E mi_X12_law c0 s0 0 [(0, .ref l0), (1, .int l1)] [] m o (f_X12_law_0 l0 l1 m o) := by
  refine Mh_iload_n 1 rfl dX12_law_0 ?_
  refine Mh_i2l dX12_law_1 ?_
  refine Mh_lconst (v := 1) dX12_law_2 (by decide) ?_
  refine Mh_ldc2 (v := 200) gl_RX12_337 dX12_law_3 ?_
  refine Mh_csI (N := mi_X12_lies) (as := [.long (Int32.toInt64 l1), .long (1 : Int64), .long (200 : Int64)]) (st := []) cg_yX12_lies (.inl ml_RX12_188) sv_yX12_lies pd_yX12_lies rfl (by decide) (Nat.le_of_ble_eq_true rfl) rfl dX12_law_6 (T_X12_lies l E _ _ _ _ _) rfl ?_
  exact t_X12_law_9 l E c0 s0 _ _ _ _ _
def F_X12_law (a0 : Nat) (a1 : Int32) (m : Mm) (o : Prop) : Int32 × Mm × Prop := f_X12_law_0 a0 a1 m o
theorem T_X12_law (l : Launch) (E : En) (a0 : Nat) (a1 : Int32) (m : Mm) (o : Prop) : Mt wI l E yX12_law mi_X12_law [.ref a0, .int a1] m o (F_X12_law a0 a1 m o) :=
  Mt_I (by decide) rfl rfl rfl (Nat.le_of_ble_eq_true rfl) rfl (.inl rfl) (t_X12_law_0 l E _ _ _ _ _ _)
def f_X12_has_14 (y0 : Int32) (m : Mm) (o : Prop) : Int32 × Mm × Prop := (y0, m, o ∧ (y0 = 0 ∨ y0 = 1))
set_option maxRecDepth 10000 in
theorem t_X12_has_14 (l : Launch) (E : En) (c0 s0 : Nat) (y0 : Int32) (m : Mm) (o : Prop) : Mh wI l E mi_X12_has c0 s0 14 [] [.int y0] m o (f_X12_has_14 y0 m o) := by
  exact Mh_retZ dX12_has_14 (.inl rfl) rfl
def f_X12_has_0 (l0 : Int32) (l1 : Int32) (m : Mm) (o : Prop) : Int32 × Mm × Prop := if ((l0 >>> (l1 &&& 31)) &&& (1 : Int32)) = (1 : Int32) then (f_X12_has_14 (1 : Int32) m o) else (f_X12_has_14 (0 : Int32) m o)
set_option maxRecDepth 10000 in
theorem t_X12_has_0 (l : Launch) (E : En) (c0 s0 : Nat) (l0 : Int32) (l1 : Int32) (m : Mm) (o : Prop) : Mh wI l E mi_X12_has c0 s0 0 [(0, .int l0), (1, .int l1)] [] m o (f_X12_has_0 l0 l1 m o) := by
  refine Mh_iload_n 0 rfl dX12_has_0 ?_
  refine Mh_iload_n 1 rfl dX12_has_1 ?_
  refine Mh_ishr dX12_has_2 ?_
  refine Mh_iconst (v := 1) dX12_has_3 (by decide) ?_
  refine Mh_iand dX12_has_4 ?_
  refine Mh_iconst (v := 1) dX12_has_5 (by decide) ?_
  refine Mh_icmp_ne (tgt := 13) dX12_has_6 (by decide) rfl (fun _ => ?_) (fun _ => ?_)
  · refine Mh_iconst (v := 0) dX12_has_13 (by decide) ?_
    refine Mh_sub (lv' := []) [] rfl ?_
    exact t_X12_has_14 l E c0 s0 _ _ _
  · refine Mh_iconst (v := 1) dX12_has_9 (by decide) ?_
    refine Mh_goto (tgt := 14) dX12_has_10 (by decide) ?_
    refine Mh_sub (lv' := []) [] rfl ?_
    exact t_X12_has_14 l E c0 s0 _ _ _
def F_X12_has (a0 : Int32) (a1 : Int32) (m : Mm) (o : Prop) : Int32 × Mm × Prop := f_X12_has_0 a0 a1 m o
theorem T_X12_has (l : Launch) (E : En) (a0 : Int32) (a1 : Int32) (m : Mm) (o : Prop) : Mt wI l E yX12_has mi_X12_has [.int a0, .int a1] m o (F_X12_has a0 a1 m o) :=
  Mt_I (by decide) rfl rfl rfl (Nat.le_of_ble_eq_true rfl) rfl (.inr (.inl rfl)) (t_X12_has_0 l E _ _ _ _ _ _)
def f_X12_isSwing_58 (y0 : Int32) (m : Mm) (o : Prop) : Int32 × Mm × Prop := (y0, m, o ∧ (y0 = 0 ∨ y0 = 1))
set_option maxRecDepth 10000 in
theorem t_X12_isSwing_58 (l : Launch) (E : En) (c0 s0 : Nat) (y0 : Int32) (m : Mm) (o : Prop) : Mh wI l E mi_X12_isSwing c0 s0 58 [] [.int y0] m o (f_X12_isSwing_58 y0 m o) := by
  exact Mh_retZ dX12_isSwing_58 (.inl rfl) rfl
def f_X12_isSwing_57 (m : Mm) (o : Prop) : Int32 × Mm × Prop := f_X12_isSwing_58 (0 : Int32) m o
set_option maxRecDepth 10000 in
theorem t_X12_isSwing_57 (l : Launch) (E : En) (c0 s0 : Nat) (m : Mm) (o : Prop) : Mh wI l E mi_X12_isSwing c0 s0 57 [] [] m o (f_X12_isSwing_57  m o) := by
  refine Mh_iconst (v := 0) dX12_isSwing_57 (by decide) ?_
  exact t_X12_isSwing_58 l E c0 s0 _ _ _
def f_X12_isSwing_19 (l0 : Nat) (l1 : Int32) (l2 : Int32) (l3 : Int32) (y0 : Int32) (m : Mm) (o : Prop) : Int32 × Mm × Prop := if y0 = 0 then (if l3 < ((2 : Int32) * (gI m (gR m l0 70) (ix l1))) then (f_X12_isSwing_57  m ((o ∧ (gT m l0 = 12 ∧ gR m l0 70 ≠ 0)) ∧ (gT m (gR m l0 70) = 20 ∧ vp_in l1 (gN m (gR m l0 70))))) else (if ((2 : Int32) * ((gI m (gR m l0 70) (ix l1)) + (gI m (gR m l0 16) (ix l2)))) ≤ l3 then (f_X12_isSwing_57  m ((((o ∧ (gT m l0 = 12 ∧ gR m l0 70 ≠ 0)) ∧ (gT m (gR m l0 70) = 20 ∧ vp_in l1 (gN m (gR m l0 70)))) ∧ (gT m l0 = 12 ∧ gR m l0 16 ≠ 0)) ∧ (gT m (gR m l0 16) = 20 ∧ vp_in l2 (gN m (gR m l0 16))))) else (f_X12_isSwing_58 (1 : Int32) m ((((o ∧ (gT m l0 = 12 ∧ gR m l0 70 ≠ 0)) ∧ (gT m (gR m l0 70) = 20 ∧ vp_in l1 (gN m (gR m l0 70)))) ∧ (gT m l0 = 12 ∧ gR m l0 16 ≠ 0)) ∧ (gT m (gR m l0 16) = 20 ∧ vp_in l2 (gN m (gR m l0 16))))))) else (f_X12_isSwing_57  m o)
set_option maxRecDepth 10000 in
theorem t_X12_isSwing_19 (l : Launch) (E : En) (c0 s0 : Nat) (l0 : Nat) (l1 : Int32) (l2 : Int32) (l3 : Int32) (y0 : Int32) (m : Mm) (o : Prop) : Mh wI l E mi_X12_isSwing c0 s0 19 [(0, .ref l0), (1, .int l1), (2, .int l2), (3, .int l3)] [.int y0] m o (f_X12_isSwing_19 l0 l1 l2 l3 y0 m o) := by
  refine Mh_if_ne (tgt := 57) dX12_isSwing_19 (by decide) rfl (fun _ => ?_) (fun _ => ?_)
  · refine Mh_sub (lv' := []) [] rfl ?_
    exact t_X12_isSwing_57 l E c0 s0  _ _
  · refine Mh_iconst (v := 2) dX12_isSwing_22 (by decide) ?_
    refine Mh_aload_n 0 rfl dX12_isSwing_23 ?_
    refine Mh_gR fd_11_70 fl_RX12_164 dX12_isSwing_24 ?_
    refine Mh_iload_n 1 rfl dX12_isSwing_27 ?_
    refine Mh_ial dX12_isSwing_28 ?_
    refine Mh_imul dX12_isSwing_29 ?_
    refine Mh_iload_n 3 rfl dX12_isSwing_30 ?_
    refine Mh_icmp_gt (tgt := 57) dX12_isSwing_31 (by decide) rfl (fun _ => ?_) (fun _ => ?_)
    · refine Mh_sub (lv' := []) [] rfl ?_
      exact t_X12_isSwing_57 l E c0 s0  _ _
    · refine Mh_iconst (v := 2) dX12_isSwing_34 (by decide) ?_
      refine Mh_aload_n 0 rfl dX12_isSwing_35 ?_
      refine Mh_gR fd_11_70 fl_RX12_164 dX12_isSwing_36 ?_
      refine Mh_ok (fun h => h.1.2) ?_
      refine Mh_iload_n 1 rfl dX12_isSwing_39 ?_
      refine Mh_ial dX12_isSwing_40 ?_
      refine Mh_ok (fun h => h.2) ?_
      refine Mh_aload_n 0 rfl dX12_isSwing_41 ?_
      refine Mh_gR fd_11_16 fl_RX12_46 dX12_isSwing_42 ?_
      refine Mh_iload_n 2 rfl dX12_isSwing_45 ?_
      refine Mh_ial dX12_isSwing_46 ?_
      refine Mh_iadd dX12_isSwing_47 ?_
      refine Mh_imul dX12_isSwing_48 ?_
      refine Mh_iload_n 3 rfl dX12_isSwing_49 ?_
      refine Mh_icmp_le (tgt := 57) dX12_isSwing_50 (by decide) rfl (fun _ => ?_) (fun _ => ?_)
      · refine Mh_sub (lv' := []) [] rfl ?_
        exact t_X12_isSwing_57 l E c0 s0  _ _
      · refine Mh_iconst (v := 1) dX12_isSwing_53 (by decide) ?_
        refine Mh_goto (tgt := 58) dX12_isSwing_54 (by decide) ?_
        refine Mh_sub (lv' := []) [] rfl ?_
        exact t_X12_isSwing_58 l E c0 s0 _ _ _
def f_X12_isSwing_0 (l0 : Nat) (l1 : Int32) (l2 : Int32) (m : Mm) (o : Prop) : Int32 × Mm × Prop := bnd (F_X12_has l1 l2 m (((o ∧ (gT m l0 = 12 ∧ gR m l0 70 ≠ 0)) ∧ gT m l0 = 12) ∧ (gT m (gR m l0 70) = 20 ∧ vp_in (((1 : Int32) <<< ((gI m l0 3) &&& 31)) - (1 : Int32)) (gN m (gR m l0 70))))) (fun v1 m1 o1 => f_X12_isSwing_19 l0 l1 l2 (gI m (gR m l0 70) (ix (((1 : Int32) <<< ((gI m l0 3) &&& 31)) - (1 : Int32)))) v1 m1 o1)
set_option maxRecDepth 10000 in
theorem t_X12_isSwing_0 (l : Launch) (E : En) (c0 s0 : Nat) (l0 : Nat) (l1 : Int32) (l2 : Int32) (m : Mm) (o : Prop) : Mh wI l E mi_X12_isSwing c0 s0 0 [(0, .ref l0), (1, .int l1), (2, .int l2)] [] m o (f_X12_isSwing_0 l0 l1 l2 m o) := by
  refine Mh_aload_n 0 rfl dX12_isSwing_0 ?_
  refine Mh_gR fd_11_70 fl_RX12_164 dX12_isSwing_1 ?_
  refine Mh_iconst (v := 1) dX12_isSwing_4 (by decide) ?_
  refine Mh_aload_n 0 rfl dX12_isSwing_5 ?_
  refine Mh_gI fd_11_3 fl_RX12_199 dX12_isSwing_6 ?_
  refine Mh_ishl dX12_isSwing_9 ?_
  refine Mh_iconst (v := 1) dX12_isSwing_10 (by decide) ?_
  refine Mh_isub dX12_isSwing_11 ?_
  refine Mh_ial dX12_isSwing_12 ?_
  refine Mh_istore_n (lv' := [(3, .int (gI m (gR m l0 70) (ix (((1 : Int32) <<< ((gI m l0 3) &&& 31)) - (1 : Int32))))), (0, .ref l0), (1, .int l1), (2, .int l2)]) dX12_isSwing_13 (Nat.le_of_ble_eq_true rfl) rfl ?_
  refine Mh_iload_n 2 rfl dX12_isSwing_14 ?_
  refine Mh_iload_n 3 rfl dX12_isSwing_15 ?_
  refine Mh_csI (N := mi_X12_has) (as := [.int l1, .int l2]) (st := []) cg_yX12_has (.inl ml_RX12_441) sv_yX12_has pd_yX12_has rfl (by decide) (Nat.le_of_ble_eq_true rfl) rfl dX12_isSwing_16 (T_X12_has l E _ _ _ _) rfl ?_
  refine Mh_sub (lv' := [(0, .ref l0), (1, .int l1), (2, .int l2), (3, .int (gI m (gR m l0 70) (ix (((1 : Int32) <<< ((gI m l0 3) &&& 31)) - (1 : Int32)))))]) [1, 2, 3, 0] rfl ?_
  exact t_X12_isSwing_19 l E c0 s0 _ _ _ _ _ _ _
def F_X12_isSwing (a0 : Nat) (a1 : Int32) (a2 : Int32) (m : Mm) (o : Prop) : Int32 × Mm × Prop := f_X12_isSwing_0 a0 a1 a2 m o
theorem T_X12_isSwing (l : Launch) (E : En) (a0 : Nat) (a1 : Int32) (a2 : Int32) (m : Mm) (o : Prop) : Mt wI l E yX12_isSwing mi_X12_isSwing [.ref a0, .int a1, .int a2] m o (F_X12_isSwing a0 a1 a2 m o) :=
  Mt_I (by decide) rfl rfl rfl (Nat.le_of_ble_eq_true rfl) rfl (.inr (.inl rfl)) (t_X12_isSwing_0 l E _ _ _ _ _ _ _)
