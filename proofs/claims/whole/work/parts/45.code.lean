def f_X12_factor_20 (k0 : Nat → Mm → Prop → Unit × Mm × Prop) (l0 : Nat) (m : Mm) (o : Prop) : Unit × Mm × Prop := k0 l0 m o
set_option maxRecDepth 10000 in
theorem t_X12_factor_20 (l : Launch) (E : En) (c0 s0 : Nat) (k0 : Nat → Mm → Prop → Unit × Mm × Prop) (hk0 : ∀ (l0 : Nat) (m : Mm) (o : Prop), Mh wU l E mi_X12_factor c0 s0 0 [(0, .ref l0)] [] m o (k0 l0 m o)) (l0 : Nat) (m : Mm) (o : Prop) : Mh wU l E mi_X12_factor c0 s0 20 [(0, .ref l0)] [] m o (f_X12_factor_20 k0 l0 m o) := by
  refine Mh_goto (tgt := 0) dX12_factor_20 (by decide) ?_
  exact hk0 _ _ _
def f_X12_factor_91 (m : Mm) (o : Prop) : Unit × Mm × Prop := ((), m, o)
set_option maxRecDepth 10000 in
theorem t_X12_factor_91 (l : Launch) (E : En) (c0 s0 : Nat) (m : Mm) (o : Prop) : Mh wU l E mi_X12_factor c0 s0 91 [] [] m o (f_X12_factor_91  m o) := by
  exact Mh_ret dX12_factor_91 rfl (fun _ => trivial) rfl
def f_X12_factor_47 (m : Mm) (o : Prop) : Unit × Mm × Prop := f_X12_factor_91  m o
set_option maxRecDepth 10000 in
theorem t_X12_factor_47 (l : Launch) (E : En) (c0 s0 : Nat) (m : Mm) (o : Prop) : Mh wU l E mi_X12_factor c0 s0 47 [] [] m o (f_X12_factor_47  m o) := by
  refine Mh_goto (tgt := 91) dX12_factor_47 (by decide) ?_
  exact t_X12_factor_91 l E c0 s0  _ _
def f_X12_factor_44 (y2 : Int32) (y1 : Int32) (y0 : Nat) (m : Mm) (o : Prop) : Unit × Mm × Prop := bnd (F_X12_emit y0 y1 y2 m (o ∧ gT m y0 = 12)) (fun _ m1 o1 => f_X12_factor_47  m1 o1)
set_option maxRecDepth 10000 in
theorem t_X12_factor_44 (l : Launch) (E : En) (c0 s0 : Nat) (y2 : Int32) (y1 : Int32) (y0 : Nat) (m : Mm) (o : Prop) : Mh wU l E mi_X12_factor c0 s0 44 [] [.int y2, .int y1, .ref y0] m o (f_X12_factor_44 y2 y1 y0 m o) := by
  refine Mh_cvU (N := mi_X12_emit) (q := y0) (ci := 11) (as := [.int y1, .int y2]) (st := []) (id) cg_yX12_emit (by decide) rfl rfl ml_RX12_284 iv_yX12_emit pd_yX12_emit rfl (by decide) (Nat.le_of_ble_eq_true rfl) rfl dX12_factor_44 (T_X12_emit l E _ _ _ _ _) rfl ?_
  exact t_X12_factor_47 l E c0 s0  _ _
def f_X12_factor_79 (m : Mm) (o : Prop) : Unit × Mm × Prop := f_X12_factor_91  m o
set_option maxRecDepth 10000 in
theorem t_X12_factor_79 (l : Launch) (E : En) (c0 s0 : Nat) (m : Mm) (o : Prop) : Mh wU l E mi_X12_factor c0 s0 79 [] [] m o (f_X12_factor_79  m o) := by
  refine Mh_goto (tgt := 91) dX12_factor_79 (by decide) ?_
  exact t_X12_factor_91 l E c0 s0  _ _
def f_X12_factor_69 (l0 : Nat) (m : Mm) (o : Prop) : Unit × Mm × Prop := f_X12_factor_79  (sI m l0 35 ((gI m l0 35) + (1 : Int32))) (o ∧ gT m l0 = 12)
set_option maxRecDepth 10000 in
theorem t_X12_factor_69 (l : Launch) (E : En) (c0 s0 : Nat) (l0 : Nat) (m : Mm) (o : Prop) : Mh wU l E mi_X12_factor c0 s0 69 [(0, .ref l0)] [] m o (f_X12_factor_69 l0 m o) := by
  refine Mh_aload_n 0 rfl dX12_factor_69 ?_
  refine Mh_dup dX12_factor_70 rfl ?_
  refine Mh_gI fd_11_35 fl_RX12_235 dX12_factor_71 ?_
  refine Mh_iconst (v := 1) dX12_factor_74 (by decide) ?_
  refine Mh_iadd dX12_factor_75 ?_
  refine Mh_pI fd_11_35 ft_11 rfl fl_RX12_235 rfl dX12_factor_76 ?_
  refine Mh_ok (fun h => h.2) ?_
  refine Mh_sub (lv' := []) [] rfl ?_
  exact t_X12_factor_79 l E c0 s0  _ _
def f_X12_factor_66 (l0 : Nat) (y2 : Int32) (y1 : Int32) (y0 : Nat) (m : Mm) (o : Prop) : Unit × Mm × Prop := bnd (F_X12_emit y0 y1 y2 m (o ∧ gT m y0 = 12)) (fun _ m1 o1 => f_X12_factor_69 l0 m1 o1)
set_option maxRecDepth 10000 in
theorem t_X12_factor_66 (l : Launch) (E : En) (c0 s0 : Nat) (l0 : Nat) (y2 : Int32) (y1 : Int32) (y0 : Nat) (m : Mm) (o : Prop) : Mh wU l E mi_X12_factor c0 s0 66 [(0, .ref l0)] [.int y2, .int y1, .ref y0] m o (f_X12_factor_66 l0 y2 y1 y0 m o) := by
  refine Mh_cvU (N := mi_X12_emit) (q := y0) (ci := 11) (as := [.int y1, .int y2]) (st := []) (id) cg_yX12_emit (by decide) rfl rfl ml_RX12_284 iv_yX12_emit pd_yX12_emit rfl (by decide) (Nat.le_of_ble_eq_true rfl) rfl dX12_factor_66 (T_X12_emit l E _ _ _ _ _) rfl ?_
  exact t_X12_factor_69 l E c0 s0 _ _ _
def f_X12_factor_57 (l0 : Nat) (y0 : Int32) (m : Mm) (o : Prop) : Unit × Mm × Prop := if y0 = 0 then (bnd (F_X12_wrongs l0 (1 : Int32) (gI m l0 35) m (o ∧ gT m l0 = 12)) (fun _ m1 o1 => f_X12_factor_91  m1 o1)) else (bnd (F_X12_here l0 m (o ∧ gT m l0 = 12)) (fun v1 m1 o1 => f_X12_factor_66 l0 v1 (1 : Int32) l0 m1 o1))
set_option maxRecDepth 10000 in
theorem t_X12_factor_57 (l : Launch) (E : En) (c0 s0 : Nat) (l0 : Nat) (y0 : Int32) (m : Mm) (o : Prop) : Mh wU l E mi_X12_factor c0 s0 57 [(0, .ref l0)] [.int y0] m o (f_X12_factor_57 l0 y0 m o) := by
  refine Mh_if_eq (tgt := 82) dX12_factor_57 (by decide) rfl (fun _ => ?_) (fun _ => ?_)
  · refine Mh_aload_n 0 rfl dX12_factor_82 ?_
    refine Mh_iconst (v := 1) dX12_factor_83 (by decide) ?_
    refine Mh_aload_n 0 rfl dX12_factor_84 ?_
    refine Mh_gI fd_11_35 fl_RX12_235 dX12_factor_85 ?_
    refine Mh_cvU (N := mi_X12_wrongs) (q := l0) (ci := 11) (as := [.int (1 : Int32), .int (gI m l0 35)]) (st := []) (fun h => ⟨h, (fun h => h.2) h⟩) cg_yX12_wrongs (by decide) rfl rfl ml_RX12_257 iv_yX12_wrongs pd_yX12_wrongs rfl (by decide) (Nat.le_of_ble_eq_true rfl) rfl dX12_factor_88 (T_X12_wrongs l E _ _ _ _ _) rfl ?_
    refine Mh_sub (lv' := []) [] rfl ?_
    exact t_X12_factor_91 l E c0 s0  _ _
  · refine Mh_aload_n 0 rfl dX12_factor_60 ?_
    refine Mh_iconst (v := 1) dX12_factor_61 (by decide) ?_
    refine Mh_aload_n 0 rfl dX12_factor_62 ?_
    refine Mh_cvI (N := mi_X12_here) (q := l0) (ci := 11) (as := []) (st := [.int (1 : Int32), .ref l0]) (id) cg_yX12_here (by decide) rfl rfl ml_RX12_261 iv_yX12_here pd_yX12_here rfl (by decide) (Nat.le_of_ble_eq_true rfl) rfl dX12_factor_63 (T_X12_here l E _ _ _) rfl ?_
    exact t_X12_factor_66 l E c0 s0 _ _ _ _ _ _
def f_X12_factor_54 (l0 : Nat) (y0 : Int32) (m : Mm) (o : Prop) : Unit × Mm × Prop := bnd (F_X12_isValue y0 m o) (fun v1 m1 o1 => f_X12_factor_57 l0 v1 m1 o1)
set_option maxRecDepth 10000 in
theorem t_X12_factor_54 (l : Launch) (E : En) (c0 s0 : Nat) (l0 : Nat) (y0 : Int32) (m : Mm) (o : Prop) : Mh wU l E mi_X12_factor c0 s0 54 [(0, .ref l0)] [.int y0] m o (f_X12_factor_54 l0 y0 m o) := by
  refine Mh_csI (N := mi_X12_isValue) (as := [.int y0]) (st := []) cg_yX12_isValue (.inl ml_RX12_293) sv_yX12_isValue pd_yX12_isValue rfl (by decide) (Nat.le_of_ble_eq_true rfl) rfl dX12_factor_54 (T_X12_isValue l E _ _ _) rfl ?_
  exact t_X12_factor_57 l E c0 s0 _ _ _ _
def f_X12_factor_35 (l0 : Nat) (y0 : Int32) (m : Mm) (o : Prop) : Unit × Mm × Prop := if y0 = 0 then (bnd (F_X12_here l0 m (o ∧ gT m l0 = 12)) (fun v1 m1 o1 => f_X12_factor_54 l0 v1 m1 o1)) else (bnd (F_X12_reads l0 m (o ∧ gT m l0 = 12)) (fun v1 m1 o1 => f_X12_factor_44 v1 (0 : Int32) l0 m1 o1))
set_option maxRecDepth 10000 in
theorem t_X12_factor_35 (l : Launch) (E : En) (c0 s0 : Nat) (l0 : Nat) (y0 : Int32) (m : Mm) (o : Prop) : Mh wU l E mi_X12_factor c0 s0 35 [(0, .ref l0)] [.int y0] m o (f_X12_factor_35 l0 y0 m o) := by
  refine Mh_if_eq (tgt := 50) dX12_factor_35 (by decide) rfl (fun _ => ?_) (fun _ => ?_)
  · refine Mh_aload_n 0 rfl dX12_factor_50 ?_
    refine Mh_cvI (N := mi_X12_here) (q := l0) (ci := 11) (as := []) (st := []) (id) cg_yX12_here (by decide) rfl rfl ml_RX12_261 iv_yX12_here pd_yX12_here rfl (by decide) (Nat.le_of_ble_eq_true rfl) rfl dX12_factor_51 (T_X12_here l E _ _ _) rfl ?_
    exact t_X12_factor_54 l E c0 s0 _ _ _ _
  · refine Mh_aload_n 0 rfl dX12_factor_38 ?_
    refine Mh_iconst (v := 0) dX12_factor_39 (by decide) ?_
    refine Mh_aload_n 0 rfl dX12_factor_40 ?_
    refine Mh_cvI (N := mi_X12_reads) (q := l0) (ci := 11) (as := []) (st := [.int (0 : Int32), .ref l0]) (id) cg_yX12_reads (by decide) rfl rfl ml_RX12_290 iv_yX12_reads pd_yX12_reads rfl (by decide) (Nat.le_of_ble_eq_true rfl) rfl dX12_factor_41 (T_X12_reads l E _ _ _) rfl ?_
    refine Mh_sub (lv' := []) [] rfl ?_
    exact t_X12_factor_44 l E c0 s0 _ _ _ _ _
def f_X12_factor_27 (l0 : Nat) (y0 : Int32) (m : Mm) (o : Prop) : Unit × Mm × Prop := if y0 = 0 then ((), m, o) else (bnd (F_X12_seesDigit l0 m (o ∧ gT m l0 = 12)) (fun v1 m1 o1 => f_X12_factor_35 l0 v1 m1 o1))
set_option maxRecDepth 10000 in
theorem t_X12_factor_27 (l : Launch) (E : En) (c0 s0 : Nat) (l0 : Nat) (y0 : Int32) (m : Mm) (o : Prop) : Mh wU l E mi_X12_factor c0 s0 27 [(0, .ref l0)] [.int y0] m o (f_X12_factor_27 l0 y0 m o) := by
  refine Mh_if_ne (tgt := 31) dX12_factor_27 (by decide) rfl (fun _ => ?_) (fun _ => ?_)
  · refine Mh_aload_n 0 rfl dX12_factor_31 ?_
    refine Mh_cvI (N := mi_X12_seesDigit) (q := l0) (ci := 11) (as := []) (st := []) (id) cg_yX12_seesDigit (by decide) rfl rfl ml_RX12_272 iv_yX12_seesDigit pd_yX12_seesDigit rfl (by decide) (Nat.le_of_ble_eq_true rfl) rfl dX12_factor_32 (T_X12_seesDigit l E _ _ _) rfl ?_
    exact t_X12_factor_35 l E c0 s0 _ _ _ _
  · exact Mh_ret dX12_factor_30 rfl (fun _ => trivial) rfl
def f_X12_factor_23 (l0 : Nat) (m : Mm) (o : Prop) : Unit × Mm × Prop := bnd (F_X12_isGood l0 m (o ∧ gT m l0 = 12)) (fun v1 m1 o1 => f_X12_factor_27 l0 v1 m1 o1)
set_option maxRecDepth 10000 in
theorem t_X12_factor_23 (l : Launch) (E : En) (c0 s0 : Nat) (l0 : Nat) (m : Mm) (o : Prop) : Mh wU l E mi_X12_factor c0 s0 23 [(0, .ref l0)] [] m o (f_X12_factor_23 l0 m o) := by
  refine Mh_aload_n 0 rfl dX12_factor_23 ?_
  refine Mh_cvI (N := mi_X12_isGood) (q := l0) (ci := 11) (as := []) (st := []) (id) cg_yX12_isGood (by decide) rfl rfl ml_RX12_244 iv_yX12_isGood pd_yX12_isGood rfl (by decide) (Nat.le_of_ble_eq_true rfl) rfl dX12_factor_24 (T_X12_isGood l E _ _ _) rfl ?_
  exact t_X12_factor_27 l E c0 s0 _ _ _ _
def f_X12_factor_11 (k0 : Nat → Mm → Prop → Unit × Mm × Prop) (l0 : Nat) (y0 : Int32) (m : Mm) (o : Prop) : Unit × Mm × Prop := if y0 = (91 : Int32) then (bnd (F_X12_opens l0 m (o ∧ gT m l0 = 12)) (fun _ m1 o1 => f_X12_factor_20 k0 l0 m1 o1)) else (f_X12_factor_23 l0 m o)
set_option maxRecDepth 10000 in
theorem t_X12_factor_11 (l : Launch) (E : En) (c0 s0 : Nat) (k0 : Nat → Mm → Prop → Unit × Mm × Prop) (hk0 : ∀ (l0 : Nat) (m : Mm) (o : Prop), Mh wU l E mi_X12_factor c0 s0 0 [(0, .ref l0)] [] m o (k0 l0 m o)) (l0 : Nat) (y0 : Int32) (m : Mm) (o : Prop) : Mh wU l E mi_X12_factor c0 s0 11 [(0, .ref l0)] [.int y0] m o (f_X12_factor_11 k0 l0 y0 m o) := by
  refine Mh_bipush (v := 91) dX12_factor_11 (by decide) ?_
  refine Mh_icmp_ne (tgt := 23) dX12_factor_13 (by decide) rfl (fun _ => ?_) (fun _ => ?_)
  · exact t_X12_factor_23 l E c0 s0 _ _ _
  · refine Mh_aload_n 0 rfl dX12_factor_16 ?_
    refine Mh_cvU (N := mi_X12_opens) (q := l0) (ci := 11) (as := []) (st := []) (id) cg_yX12_opens (by decide) rfl rfl ml_RX12_287 iv_yX12_opens pd_yX12_opens rfl (by decide) (Nat.le_of_ble_eq_true rfl) rfl dX12_factor_17 (T_X12_opens l E _ _ _) rfl ?_
    exact t_X12_factor_20 l E c0 s0 k0 hk0 _ _ _
def f_X12_factor_4 (k0 : Nat → Mm → Prop → Unit × Mm × Prop) (l0 : Nat) (y0 : Int32) (m : Mm) (o : Prop) : Unit × Mm × Prop := if y0 = 0 then (f_X12_factor_23 l0 m o) else (bnd (F_X12_here l0 m (o ∧ gT m l0 = 12)) (fun v1 m1 o1 => f_X12_factor_11 k0 l0 v1 m1 o1))
set_option maxRecDepth 10000 in
theorem t_X12_factor_4 (l : Launch) (E : En) (c0 s0 : Nat) (k0 : Nat → Mm → Prop → Unit × Mm × Prop) (hk0 : ∀ (l0 : Nat) (m : Mm) (o : Prop), Mh wU l E mi_X12_factor c0 s0 0 [(0, .ref l0)] [] m o (k0 l0 m o)) (l0 : Nat) (y0 : Int32) (m : Mm) (o : Prop) : Mh wU l E mi_X12_factor c0 s0 4 [(0, .ref l0)] [.int y0] m o (f_X12_factor_4 k0 l0 y0 m o) := by
  refine Mh_if_eq (tgt := 23) dX12_factor_4 (by decide) rfl (fun _ => ?_) (fun _ => ?_)
  · exact t_X12_factor_23 l E c0 s0 _ _ _
  · refine Mh_aload_n 0 rfl dX12_factor_7 ?_
    refine Mh_cvI (N := mi_X12_here) (q := l0) (ci := 11) (as := []) (st := []) (id) cg_yX12_here (by decide) rfl rfl ml_RX12_261 iv_yX12_here pd_yX12_here rfl (by decide) (Nat.le_of_ble_eq_true rfl) rfl dX12_factor_8 (T_X12_here l E _ _ _) rfl ?_
    exact t_X12_factor_11 l E c0 s0 k0 hk0 _ _ _ _
def f_X12_factor_0b (k0 : Nat → Mm → Prop → Unit × Mm × Prop) (l0 : Nat) (m : Mm) (o : Prop) : Unit × Mm × Prop := bnd (F_X12_isGood l0 m (o ∧ gT m l0 = 12)) (fun v1 m1 o1 => f_X12_factor_4 k0 l0 v1 m1 o1)
set_option maxRecDepth 10000 in
theorem t_X12_factor_0b (l : Launch) (E : En) (c0 s0 : Nat) (k0 : Nat → Mm → Prop → Unit × Mm × Prop) (hk0 : ∀ (l0 : Nat) (m : Mm) (o : Prop), Mh wU l E mi_X12_factor c0 s0 0 [(0, .ref l0)] [] m o (k0 l0 m o)) (l0 : Nat) (m : Mm) (o : Prop) : Mh wU l E mi_X12_factor c0 s0 0 [(0, .ref l0)] [] m o (f_X12_factor_0b k0 l0 m o) := by
  refine Mh_aload_n 0 rfl dX12_factor_0 ?_
  refine Mh_cvI (N := mi_X12_isGood) (q := l0) (ci := 11) (as := []) (st := []) (id) cg_yX12_isGood (by decide) rfl rfl ml_RX12_244 iv_yX12_isGood pd_yX12_isGood rfl (by decide) (Nat.le_of_ble_eq_true rfl) rfl dX12_factor_1 (T_X12_isGood l E _ _ _) rfl ?_
  exact t_X12_factor_4 l E c0 s0 k0 hk0 _ _ _ _
def f_X12_factor_0 : Nat → Nat → Mm → Prop → Unit × Mm × Prop
  | 0, _, m, _ => ((), m, False)
  | n + 1, l0, m, o => f_X12_factor_0b (f_X12_factor_0 n) l0 m o
theorem t_X12_factor_0 (l : Launch) (E : En) (c0 s0 : Nat) : ∀ (n : Nat) (l0 : Nat) (m : Mm) (o : Prop), Mh wU l E mi_X12_factor c0 s0 0 [(0, .ref l0)] [] m o (f_X12_factor_0 n l0 m o)
  | 0, _, _, _ => Mh_out rfl
  | n + 1, l0, m, o => t_X12_factor_0b l E c0 s0 (f_X12_factor_0 n) (t_X12_factor_0 l E c0 s0 n) l0 m o
def F_X12_factor (a0 : Nat) (m : Mm) (o : Prop) : Unit × Mm × Prop := f_X12_factor_0 1000 a0 m o
theorem T_X12_factor (l : Launch) (E : En) (a0 : Nat) (m : Mm) (o : Prop) : Mt wU l E yX12_factor mi_X12_factor [.ref a0] m o (F_X12_factor a0 m o) :=
  Mt_U (by decide) rfl (fun h => by cases h) rfl (Nat.le_of_ble_eq_true rfl) rfl (t_X12_factor_0 l E _ _ _ _ _ _)
def f_X12_isPlus_17 (y0 : Int32) (m : Mm) (o : Prop) : Int32 × Mm × Prop := (y0, m, o ∧ (y0 = 0 ∨ y0 = 1))
set_option maxRecDepth 10000 in
theorem t_X12_isPlus_17 (l : Launch) (E : En) (c0 s0 : Nat) (y0 : Int32) (m : Mm) (o : Prop) : Mh wI l E mi_X12_isPlus c0 s0 17 [] [.int y0] m o (f_X12_isPlus_17 y0 m o) := by
  exact Mh_retZ dX12_isPlus_17 (.inl rfl) rfl
def f_X12_isPlus_12 (m : Mm) (o : Prop) : Int32 × Mm × Prop := f_X12_isPlus_17 (1 : Int32) m o
set_option maxRecDepth 10000 in
theorem t_X12_isPlus_12 (l : Launch) (E : En) (c0 s0 : Nat) (m : Mm) (o : Prop) : Mh wI l E mi_X12_isPlus c0 s0 12 [] [] m o (f_X12_isPlus_12  m o) := by
  refine Mh_iconst (v := 1) dX12_isPlus_12 (by decide) ?_
  refine Mh_goto (tgt := 17) dX12_isPlus_13 (by decide) ?_
  exact t_X12_isPlus_17 l E c0 s0 _ _ _
def f_X12_isPlus_0 (l0 : Int32) (m : Mm) (o : Prop) : Int32 × Mm × Prop := if l0 = (43 : Int32) then (f_X12_isPlus_12  m o) else (if l0 = (45 : Int32) then (f_X12_isPlus_12  m o) else (f_X12_isPlus_17 (0 : Int32) m o))
set_option maxRecDepth 10000 in
theorem t_X12_isPlus_0 (l : Launch) (E : En) (c0 s0 : Nat) (l0 : Int32) (m : Mm) (o : Prop) : Mh wI l E mi_X12_isPlus c0 s0 0 [(0, .int l0)] [] m o (f_X12_isPlus_0 l0 m o) := by
  refine Mh_iload_n 0 rfl dX12_isPlus_0 ?_
  refine Mh_bipush (v := 43) dX12_isPlus_1 (by decide) ?_
  refine Mh_icmp_eq (tgt := 12) dX12_isPlus_3 (by decide) rfl (fun _ => ?_) (fun _ => ?_)
  · refine Mh_sub (lv' := []) [] rfl ?_
    exact t_X12_isPlus_12 l E c0 s0  _ _
  · refine Mh_iload_n 0 rfl dX12_isPlus_6 ?_
    refine Mh_bipush (v := 45) dX12_isPlus_7 (by decide) ?_
    refine Mh_icmp_ne (tgt := 16) dX12_isPlus_9 (by decide) rfl (fun _ => ?_) (fun _ => ?_)
    · refine Mh_iconst (v := 0) dX12_isPlus_16 (by decide) ?_
      refine Mh_sub (lv' := []) [] rfl ?_
      exact t_X12_isPlus_17 l E c0 s0 _ _ _
    · refine Mh_sub (lv' := []) [] rfl ?_
      exact t_X12_isPlus_12 l E c0 s0  _ _
def F_X12_isPlus (a0 : Int32) (m : Mm) (o : Prop) : Int32 × Mm × Prop := f_X12_isPlus_0 a0 m o
theorem T_X12_isPlus (l : Launch) (E : En) (a0 : Int32) (m : Mm) (o : Prop) : Mt wI l E yX12_isPlus mi_X12_isPlus [.int a0] m o (F_X12_isPlus a0 m o) :=
  Mt_I (by decide) rfl rfl rfl (Nat.le_of_ble_eq_true rfl) rfl (.inr (.inl rfl)) (t_X12_isPlus_0 l E _ _ _ _ _)
def f_X12_isTimes_23 (y0 : Int32) (m : Mm) (o : Prop) : Int32 × Mm × Prop := (y0, m, o ∧ (y0 = 0 ∨ y0 = 1))
set_option maxRecDepth 10000 in
theorem t_X12_isTimes_23 (l : Launch) (E : En) (c0 s0 : Nat) (y0 : Int32) (m : Mm) (o : Prop) : Mh wI l E mi_X12_isTimes c0 s0 23 [] [.int y0] m o (f_X12_isTimes_23 y0 m o) := by
  exact Mh_retZ dX12_isTimes_23 (.inl rfl) rfl
def f_X12_isTimes_18 (m : Mm) (o : Prop) : Int32 × Mm × Prop := f_X12_isTimes_23 (1 : Int32) m o
set_option maxRecDepth 10000 in
theorem t_X12_isTimes_18 (l : Launch) (E : En) (c0 s0 : Nat) (m : Mm) (o : Prop) : Mh wI l E mi_X12_isTimes c0 s0 18 [] [] m o (f_X12_isTimes_18  m o) := by
  refine Mh_iconst (v := 1) dX12_isTimes_18 (by decide) ?_
  refine Mh_goto (tgt := 23) dX12_isTimes_19 (by decide) ?_
  exact t_X12_isTimes_23 l E c0 s0 _ _ _
def f_X12_isTimes_0 (l0 : Int32) (m : Mm) (o : Prop) : Int32 × Mm × Prop := if l0 = (42 : Int32) then (f_X12_isTimes_18  m o) else (if l0 = (47 : Int32) then (f_X12_isTimes_18  m o) else (if l0 = (37 : Int32) then (f_X12_isTimes_18  m o) else (f_X12_isTimes_23 (0 : Int32) m o)))
set_option maxRecDepth 10000 in
theorem t_X12_isTimes_0 (l : Launch) (E : En) (c0 s0 : Nat) (l0 : Int32) (m : Mm) (o : Prop) : Mh wI l E mi_X12_isTimes c0 s0 0 [(0, .int l0)] [] m o (f_X12_isTimes_0 l0 m o) := by
  refine Mh_iload_n 0 rfl dX12_isTimes_0 ?_
  refine Mh_bipush (v := 42) dX12_isTimes_1 (by decide) ?_
  refine Mh_icmp_eq (tgt := 18) dX12_isTimes_3 (by decide) rfl (fun _ => ?_) (fun _ => ?_)
  · refine Mh_sub (lv' := []) [] rfl ?_
    exact t_X12_isTimes_18 l E c0 s0  _ _
  · refine Mh_iload_n 0 rfl dX12_isTimes_6 ?_
    refine Mh_bipush (v := 47) dX12_isTimes_7 (by decide) ?_
    refine Mh_icmp_eq (tgt := 18) dX12_isTimes_9 (by decide) rfl (fun _ => ?_) (fun _ => ?_)
    · refine Mh_sub (lv' := []) [] rfl ?_
      exact t_X12_isTimes_18 l E c0 s0  _ _
    · refine Mh_iload_n 0 rfl dX12_isTimes_12 ?_
      refine Mh_bipush (v := 37) dX12_isTimes_13 (by decide) ?_
      refine Mh_icmp_ne (tgt := 22) dX12_isTimes_15 (by decide) rfl (fun _ => ?_) (fun _ => ?_)
      · refine Mh_iconst (v := 0) dX12_isTimes_22 (by decide) ?_
        refine Mh_sub (lv' := []) [] rfl ?_
        exact t_X12_isTimes_23 l E c0 s0 _ _ _
      · refine Mh_sub (lv' := []) [] rfl ?_
        exact t_X12_isTimes_18 l E c0 s0  _ _
def F_X12_isTimes (a0 : Int32) (m : Mm) (o : Prop) : Int32 × Mm × Prop := f_X12_isTimes_0 a0 m o
theorem T_X12_isTimes (l : Launch) (E : En) (a0 : Int32) (m : Mm) (o : Prop) : Mt wI l E yX12_isTimes mi_X12_isTimes [.int a0] m o (F_X12_isTimes a0 m o) :=
  Mt_I (by decide) rfl rfl rfl (Nat.le_of_ble_eq_true rfl) rfl (.inr (.inl rfl)) (t_X12_isTimes_0 l E _ _ _ _ _)
def f_X12_sums_43 (k0 : Nat → Int32 → Mm → Prop → Unit × Mm × Prop) (l0 : Nat) (l1 : Int32) (m : Mm) (o : Prop) : Unit × Mm × Prop := k0 l0 l1 m o
set_option maxRecDepth 10000 in
theorem t_X12_sums_43 (l : Launch) (E : En) (c0 s0 : Nat) (k0 : Nat → Int32 → Mm → Prop → Unit × Mm × Prop) (hk0 : ∀ (l0 : Nat) (l1 : Int32) (m : Mm) (o : Prop), Mh wU l E mi_X12_sums c0 s0 0 [(0, .ref l0), (1, .int l1)] [] m o (k0 l0 l1 m o)) (l0 : Nat) (l1 : Int32) (m : Mm) (o : Prop) : Mh wU l E mi_X12_sums c0 s0 43 [(0, .ref l0), (1, .int l1)] [] m o (f_X12_sums_43 k0 l0 l1 m o) := by
  refine Mh_goto (tgt := 0) dX12_sums_43 (by decide) ?_
  exact hk0 _ _ _ _
def f_X12_sums_33 (k0 : Nat → Int32 → Mm → Prop → Unit × Mm × Prop) (l0 : Nat) (l1 : Int32) (m : Mm) (o : Prop) : Unit × Mm × Prop := f_X12_sums_43 k0 l0 l1 (sI m l0 41 ((gI m l0 41) - (1 : Int32))) (o ∧ gT m l0 = 12)
set_option maxRecDepth 10000 in
theorem t_X12_sums_33 (l : Launch) (E : En) (c0 s0 : Nat) (k0 : Nat → Int32 → Mm → Prop → Unit × Mm × Prop) (hk0 : ∀ (l0 : Nat) (l1 : Int32) (m : Mm) (o : Prop), Mh wU l E mi_X12_sums c0 s0 0 [(0, .ref l0), (1, .int l1)] [] m o (k0 l0 l1 m o)) (l0 : Nat) (l1 : Int32) (m : Mm) (o : Prop) : Mh wU l E mi_X12_sums c0 s0 33 [(0, .ref l0), (1, .int l1)] [] m o (f_X12_sums_33 k0 l0 l1 m o) := by
  refine Mh_aload_n 0 rfl dX12_sums_33 ?_
  refine Mh_dup dX12_sums_34 rfl ?_
  refine Mh_gI fd_11_41 fl_RX12_251 dX12_sums_35 ?_
  refine Mh_iconst (v := 1) dX12_sums_38 (by decide) ?_
  refine Mh_isub dX12_sums_39 ?_
  refine Mh_pI fd_11_41 ft_11 rfl fl_RX12_251 rfl dX12_sums_40 ?_
  refine Mh_ok (fun h => h.2) ?_
  exact t_X12_sums_43 l E c0 s0 k0 hk0 _ _ _ _
def f_X12_sums_29 (k0 : Nat → Int32 → Mm → Prop → Unit × Mm × Prop) (l0 : Nat) (l1 : Int32) (y1 : Int32) (y0 : Nat) (m : Mm) (o : Prop) : Unit × Mm × Prop := bnd (F_X12_emit y0 y1 (0 : Int32) m (o ∧ gT m y0 = 12)) (fun _ m1 o1 => f_X12_sums_33 k0 l0 l1 m1 o1)
set_option maxRecDepth 10000 in
theorem t_X12_sums_29 (l : Launch) (E : En) (c0 s0 : Nat) (k0 : Nat → Int32 → Mm → Prop → Unit × Mm × Prop) (hk0 : ∀ (l0 : Nat) (l1 : Int32) (m : Mm) (o : Prop), Mh wU l E mi_X12_sums c0 s0 0 [(0, .ref l0), (1, .int l1)] [] m o (k0 l0 l1 m o)) (l0 : Nat) (l1 : Int32) (y1 : Int32) (y0 : Nat) (m : Mm) (o : Prop) : Mh wU l E mi_X12_sums c0 s0 29 [(0, .ref l0), (1, .int l1)] [.int y1, .ref y0] m o (f_X12_sums_29 k0 l0 l1 y1 y0 m o) := by
  refine Mh_iconst (v := 0) dX12_sums_29 (by decide) ?_
  refine Mh_cvU (N := mi_X12_emit) (q := y0) (ci := 11) (as := [.int y1, .int (0 : Int32)]) (st := []) (id) cg_yX12_emit (by decide) rfl rfl ml_RX12_284 iv_yX12_emit pd_yX12_emit rfl (by decide) (Nat.le_of_ble_eq_true rfl) rfl dX12_sums_30 (T_X12_emit l E _ _ _ _ _) rfl ?_
  exact t_X12_sums_33 l E c0 s0 k0 hk0 _ _ _ _
def f_X12_sums_24 (k0 : Nat → Int32 → Mm → Prop → Unit × Mm × Prop) (l0 : Nat) (l1 : Int32) (m : Mm) (o : Prop) : Unit × Mm × Prop := bnd (F_X12_top l0 m (o ∧ gT m l0 = 12)) (fun v1 m1 o1 => f_X12_sums_29 k0 l0 l1 v1 l0 m1 o1)
set_option maxRecDepth 10000 in
theorem t_X12_sums_24 (l : Launch) (E : En) (c0 s0 : Nat) (k0 : Nat → Int32 → Mm → Prop → Unit × Mm × Prop) (hk0 : ∀ (l0 : Nat) (l1 : Int32) (m : Mm) (o : Prop), Mh wU l E mi_X12_sums c0 s0 0 [(0, .ref l0), (1, .int l1)] [] m o (k0 l0 l1 m o)) (l0 : Nat) (l1 : Int32) (m : Mm) (o : Prop) : Mh wU l E mi_X12_sums c0 s0 24 [(0, .ref l0), (1, .int l1)] [] m o (f_X12_sums_24 k0 l0 l1 m o) := by
  refine Mh_aload_n 0 rfl dX12_sums_24 ?_
  refine Mh_aload_n 0 rfl dX12_sums_25 ?_
  refine Mh_cvI (N := mi_X12_top) (q := l0) (ci := 11) (as := []) (st := [.ref l0]) (id) cg_yX12_top (by decide) rfl rfl ml_RX12_275 iv_yX12_top pd_yX12_top rfl (by decide) (Nat.le_of_ble_eq_true rfl) rfl dX12_sums_26 (T_X12_top l E _ _ _) rfl ?_
  exact t_X12_sums_29 l E c0 s0 k0 hk0 _ _ _ _ _ _
def f_X12_sums_46 (m : Mm) (o : Prop) : Unit × Mm × Prop := ((), m, o)
set_option maxRecDepth 10000 in
theorem t_X12_sums_46 (l : Launch) (E : En) (c0 s0 : Nat) (m : Mm) (o : Prop) : Mh wU l E mi_X12_sums c0 s0 46 [] [] m o (f_X12_sums_46  m o) := by
  exact Mh_ret dX12_sums_46 rfl (fun _ => trivial) rfl
def f_X12_sums_21 (k0 : Nat → Int32 → Mm → Prop → Unit × Mm × Prop) (l0 : Nat) (l1 : Int32) (y0 : Int32) (m : Mm) (o : Prop) : Unit × Mm × Prop := if y0 = 0 then (f_X12_sums_46  m o) else (f_X12_sums_24 k0 l0 l1 m o)
set_option maxRecDepth 10000 in
theorem t_X12_sums_21 (l : Launch) (E : En) (c0 s0 : Nat) (k0 : Nat → Int32 → Mm → Prop → Unit × Mm × Prop) (hk0 : ∀ (l0 : Nat) (l1 : Int32) (m : Mm) (o : Prop), Mh wU l E mi_X12_sums c0 s0 0 [(0, .ref l0), (1, .int l1)] [] m o (k0 l0 l1 m o)) (l0 : Nat) (l1 : Int32) (y0 : Int32) (m : Mm) (o : Prop) : Mh wU l E mi_X12_sums c0 s0 21 [(0, .ref l0), (1, .int l1)] [.int y0] m o (f_X12_sums_21 k0 l0 l1 y0 m o) := by
  refine Mh_if_eq (tgt := 46) dX12_sums_21 (by decide) rfl (fun _ => ?_) (fun _ => ?_)
  · refine Mh_sub (lv' := []) [] rfl ?_
    exact t_X12_sums_46 l E c0 s0  _ _
  · exact t_X12_sums_24 l E c0 s0 k0 hk0 _ _ _ _
def f_X12_sums_18 (k0 : Nat → Int32 → Mm → Prop → Unit × Mm × Prop) (l0 : Nat) (l1 : Int32) (y0 : Int32) (m : Mm) (o : Prop) : Unit × Mm × Prop := bnd (F_X12_isPlus y0 m o) (fun v1 m1 o1 => f_X12_sums_21 k0 l0 l1 v1 m1 o1)
set_option maxRecDepth 10000 in
theorem t_X12_sums_18 (l : Launch) (E : En) (c0 s0 : Nat) (k0 : Nat → Int32 → Mm → Prop → Unit × Mm × Prop) (hk0 : ∀ (l0 : Nat) (l1 : Int32) (m : Mm) (o : Prop), Mh wU l E mi_X12_sums c0 s0 0 [(0, .ref l0), (1, .int l1)] [] m o (k0 l0 l1 m o)) (l0 : Nat) (l1 : Int32) (y0 : Int32) (m : Mm) (o : Prop) : Mh wU l E mi_X12_sums c0 s0 18 [(0, .ref l0), (1, .int l1)] [.int y0] m o (f_X12_sums_18 k0 l0 l1 y0 m o) := by
  refine Mh_csI (N := mi_X12_isPlus) (as := [.int y0]) (st := []) cg_yX12_isPlus (.inl ml_RX12_281) sv_yX12_isPlus pd_yX12_isPlus rfl (by decide) (Nat.le_of_ble_eq_true rfl) rfl dX12_sums_18 (T_X12_isPlus l E _ _ _) rfl ?_
  exact t_X12_sums_21 l E c0 s0 k0 hk0 _ _ _ _ _
def f_X12_sums_7 (k0 : Nat → Int32 → Mm → Prop → Unit × Mm × Prop) (l0 : Nat) (l1 : Int32) (y0 : Int32) (m : Mm) (o : Prop) : Unit × Mm × Prop := if y0 = 0 then (if l1 = 0 then (f_X12_sums_46  m o) else (bnd (F_X12_top l0 m (o ∧ gT m l0 = 12)) (fun v1 m1 o1 => f_X12_sums_18 k0 l0 l1 v1 m1 o1))) else (f_X12_sums_24 k0 l0 l1 m o)
set_option maxRecDepth 10000 in
theorem t_X12_sums_7 (l : Launch) (E : En) (c0 s0 : Nat) (k0 : Nat → Int32 → Mm → Prop → Unit × Mm × Prop) (hk0 : ∀ (l0 : Nat) (l1 : Int32) (m : Mm) (o : Prop), Mh wU l E mi_X12_sums c0 s0 0 [(0, .ref l0), (1, .int l1)] [] m o (k0 l0 l1 m o)) (l0 : Nat) (l1 : Int32) (y0 : Int32) (m : Mm) (o : Prop) : Mh wU l E mi_X12_sums c0 s0 7 [(0, .ref l0), (1, .int l1)] [.int y0] m o (f_X12_sums_7 k0 l0 l1 y0 m o) := by
  refine Mh_if_ne (tgt := 24) dX12_sums_7 (by decide) rfl (fun _ => ?_) (fun _ => ?_)
  · exact t_X12_sums_24 l E c0 s0 k0 hk0 _ _ _ _
  · refine Mh_iload_n 1 rfl dX12_sums_10 ?_
    refine Mh_if_eq (tgt := 46) dX12_sums_11 (by decide) rfl (fun _ => ?_) (fun _ => ?_)
    · refine Mh_sub (lv' := []) [] rfl ?_
      exact t_X12_sums_46 l E c0 s0  _ _
    · refine Mh_aload_n 0 rfl dX12_sums_14 ?_
      refine Mh_cvI (N := mi_X12_top) (q := l0) (ci := 11) (as := []) (st := []) (id) cg_yX12_top (by decide) rfl rfl ml_RX12_275 iv_yX12_top pd_yX12_top rfl (by decide) (Nat.le_of_ble_eq_true rfl) rfl dX12_sums_15 (T_X12_top l E _ _ _) rfl ?_
      exact t_X12_sums_18 l E c0 s0 k0 hk0 _ _ _ _ _
def f_X12_sums_4 (k0 : Nat → Int32 → Mm → Prop → Unit × Mm × Prop) (l0 : Nat) (l1 : Int32) (y0 : Int32) (m : Mm) (o : Prop) : Unit × Mm × Prop := bnd (F_X12_isTimes y0 m o) (fun v1 m1 o1 => f_X12_sums_7 k0 l0 l1 v1 m1 o1)
set_option maxRecDepth 10000 in
theorem t_X12_sums_4 (l : Launch) (E : En) (c0 s0 : Nat) (k0 : Nat → Int32 → Mm → Prop → Unit × Mm × Prop) (hk0 : ∀ (l0 : Nat) (l1 : Int32) (m : Mm) (o : Prop), Mh wU l E mi_X12_sums c0 s0 0 [(0, .ref l0), (1, .int l1)] [] m o (k0 l0 l1 m o)) (l0 : Nat) (l1 : Int32) (y0 : Int32) (m : Mm) (o : Prop) : Mh wU l E mi_X12_sums c0 s0 4 [(0, .ref l0), (1, .int l1)] [.int y0] m o (f_X12_sums_4 k0 l0 l1 y0 m o) := by
  refine Mh_csI (N := mi_X12_isTimes) (as := [.int y0]) (st := []) cg_yX12_isTimes (.inl ml_RX12_278) sv_yX12_isTimes pd_yX12_isTimes rfl (by decide) (Nat.le_of_ble_eq_true rfl) rfl dX12_sums_4 (T_X12_isTimes l E _ _ _) rfl ?_
  exact t_X12_sums_7 l E c0 s0 k0 hk0 _ _ _ _ _
def f_X12_sums_0b (k0 : Nat → Int32 → Mm → Prop → Unit × Mm × Prop) (l0 : Nat) (l1 : Int32) (m : Mm) (o : Prop) : Unit × Mm × Prop := bnd (F_X12_top l0 m (o ∧ gT m l0 = 12)) (fun v1 m1 o1 => f_X12_sums_4 k0 l0 l1 v1 m1 o1)
set_option maxRecDepth 10000 in
theorem t_X12_sums_0b (l : Launch) (E : En) (c0 s0 : Nat) (k0 : Nat → Int32 → Mm → Prop → Unit × Mm × Prop) (hk0 : ∀ (l0 : Nat) (l1 : Int32) (m : Mm) (o : Prop), Mh wU l E mi_X12_sums c0 s0 0 [(0, .ref l0), (1, .int l1)] [] m o (k0 l0 l1 m o)) (l0 : Nat) (l1 : Int32) (m : Mm) (o : Prop) : Mh wU l E mi_X12_sums c0 s0 0 [(0, .ref l0), (1, .int l1)] [] m o (f_X12_sums_0b k0 l0 l1 m o) := by
  refine Mh_aload_n 0 rfl dX12_sums_0 ?_
  refine Mh_cvI (N := mi_X12_top) (q := l0) (ci := 11) (as := []) (st := []) (id) cg_yX12_top (by decide) rfl rfl ml_RX12_275 iv_yX12_top pd_yX12_top rfl (by decide) (Nat.le_of_ble_eq_true rfl) rfl dX12_sums_1 (T_X12_top l E _ _ _) rfl ?_
  exact t_X12_sums_4 l E c0 s0 k0 hk0 _ _ _ _ _
def f_X12_sums_0 : Nat → Nat → Int32 → Mm → Prop → Unit × Mm × Prop
  | 0, _, _, m, _ => ((), m, False)
  | n + 1, l0, l1, m, o => f_X12_sums_0b (f_X12_sums_0 n) l0 l1 m o
theorem t_X12_sums_0 (l : Launch) (E : En) (c0 s0 : Nat) : ∀ (n : Nat) (l0 : Nat) (l1 : Int32) (m : Mm) (o : Prop), Mh wU l E mi_X12_sums c0 s0 0 [(0, .ref l0), (1, .int l1)] [] m o (f_X12_sums_0 n l0 l1 m o)
  | 0, _, _, _, _ => Mh_out rfl
  | n + 1, l0, l1, m, o => t_X12_sums_0b l E c0 s0 (f_X12_sums_0 n) (t_X12_sums_0 l E c0 s0 n) l0 l1 m o
def F_X12_sums (a0 : Nat) (a1 : Int32) (m : Mm) (o : Prop) : Unit × Mm × Prop := f_X12_sums_0 1000 a0 a1 m o
theorem T_X12_sums (l : Launch) (E : En) (a0 : Nat) (a1 : Int32) (m : Mm) (o : Prop) : Mt wU l E yX12_sums mi_X12_sums [.ref a0, .int a1] m o (F_X12_sums a0 a1 m o) :=
  Mt_U (by decide) rfl (fun h => by cases h) rfl (Nat.le_of_ble_eq_true rfl) rfl (t_X12_sums_0 l E _ _ _ _ _ _ _)
def f_X12_stays_32 (m : Mm) (o : Prop) : Int32 × Mm × Prop := ((1 : Int32), m, o)
set_option maxRecDepth 10000 in
theorem t_X12_stays_32 (l : Launch) (E : En) (c0 s0 : Nat) (m : Mm) (o : Prop) : Mh wI l E mi_X12_stays c0 s0 32 [] [] m o (f_X12_stays_32  m o) := by
  refine Mh_iconst (v := 1) dX12_stays_32 (by decide) ?_
  exact Mh_ret dX12_stays_33 rfl (fun _ => rk1Z) rfl
def f_X12_stays_27 (l0 : Nat) (l1 : Int32) (m : Mm) (o : Prop) : Int32 × Mm × Prop := bnd (F_X12_puts l0 l1 m (o ∧ gT m l0 = 12)) (fun _ m1 o1 => f_X12_stays_32  m1 o1)
set_option maxRecDepth 10000 in
theorem t_X12_stays_27 (l : Launch) (E : En) (c0 s0 : Nat) (l0 : Nat) (l1 : Int32) (m : Mm) (o : Prop) : Mh wI l E mi_X12_stays c0 s0 27 [(0, .ref l0), (1, .int l1)] [] m o (f_X12_stays_27 l0 l1 m o) := by
  refine Mh_aload_n 0 rfl dX12_stays_27 ?_
  refine Mh_iload_n 1 rfl dX12_stays_28 ?_
  refine Mh_cvU (N := mi_X12_puts) (q := l0) (ci := 11) (as := [.int l1]) (st := []) (id) cg_yX12_puts (by decide) rfl rfl ml_RX12_265 iv_yX12_puts pd_yX12_puts rfl (by decide) (Nat.le_of_ble_eq_true rfl) rfl dX12_stays_29 (T_X12_puts l E _ _ _ _) rfl ?_
  refine Mh_sub (lv' := []) [] rfl ?_
  exact t_X12_stays_32 l E c0 s0  _ _
def f_X12_stays_24 (l0 : Nat) (l1 : Int32) (y1 : Int32) (y0 : Nat) (m : Mm) (o : Prop) : Int32 × Mm × Prop := bnd (F_X12_sums y0 y1 m (o ∧ gT m y0 = 12)) (fun _ m1 o1 => f_X12_stays_27 l0 l1 m1 o1)
set_option maxRecDepth 10000 in
theorem t_X12_stays_24 (l : Launch) (E : En) (c0 s0 : Nat) (l0 : Nat) (l1 : Int32) (y1 : Int32) (y0 : Nat) (m : Mm) (o : Prop) : Mh wI l E mi_X12_stays c0 s0 24 [(0, .ref l0), (1, .int l1)] [.int y1, .ref y0] m o (f_X12_stays_24 l0 l1 y1 y0 m o) := by
  refine Mh_cvU (N := mi_X12_sums) (q := y0) (ci := 11) (as := [.int y1]) (st := []) (id) cg_yX12_sums (by decide) rfl rfl ml_RX12_296 iv_yX12_sums pd_yX12_sums rfl (by decide) (Nat.le_of_ble_eq_true rfl) rfl dX12_stays_24 (T_X12_sums l E _ _ _ _) rfl ?_
  exact t_X12_stays_27 l E c0 s0 _ _ _ _
def f_X12_stays_19 (l0 : Nat) (l1 : Int32) (m : Mm) (o : Prop) : Int32 × Mm × Prop := bnd (F_X12_isPlus l1 m o) (fun v1 m1 o1 => f_X12_stays_24 l0 l1 v1 l0 m1 o1)
set_option maxRecDepth 10000 in
theorem t_X12_stays_19 (l : Launch) (E : En) (c0 s0 : Nat) (l0 : Nat) (l1 : Int32) (m : Mm) (o : Prop) : Mh wI l E mi_X12_stays c0 s0 19 [(0, .ref l0), (1, .int l1)] [] m o (f_X12_stays_19 l0 l1 m o) := by
  refine Mh_aload_n 0 rfl dX12_stays_19 ?_
  refine Mh_iload_n 1 rfl dX12_stays_20 ?_
  refine Mh_csI (N := mi_X12_isPlus) (as := [.int l1]) (st := [.ref l0]) cg_yX12_isPlus (.inl ml_RX12_281) sv_yX12_isPlus pd_yX12_isPlus rfl (by decide) (Nat.le_of_ble_eq_true rfl) rfl dX12_stays_21 (T_X12_isPlus l E _ _ _) rfl ?_
  exact t_X12_stays_24 l E c0 s0 _ _ _ _ _ _
def f_X12_stays_65 (m : Mm) (o : Prop) : Int32 × Mm × Prop := ((0 : Int32), m, o)
set_option maxRecDepth 10000 in
theorem t_X12_stays_65 (l : Launch) (E : En) (c0 s0 : Nat) (m : Mm) (o : Prop) : Mh wI l E mi_X12_stays c0 s0 65 [] [] m o (f_X12_stays_65  m o) := by
  refine Mh_iconst (v := 0) dX12_stays_65 (by decide) ?_
  exact Mh_ret dX12_stays_66 rfl (fun _ => rk0Z) rfl
def f_X12_stays_102 (m : Mm) (o : Prop) : Int32 × Mm × Prop := ((1 : Int32), m, o)
set_option maxRecDepth 10000 in
theorem t_X12_stays_102 (l : Launch) (E : En) (c0 s0 : Nat) (m : Mm) (o : Prop) : Mh wI l E mi_X12_stays c0 s0 102 [] [] m o (f_X12_stays_102  m o) := by
  refine Mh_iconst (v := 1) dX12_stays_102 (by decide) ?_
  exact Mh_ret dX12_stays_103 rfl (fun _ => rk1Z) rfl
def f_X12_stays_97 (l0 : Nat) (m : Mm) (o : Prop) : Int32 × Mm × Prop := f_X12_stays_102  (sI m l0 43 (1 : Int32)) (o ∧ (gT m l0 = 12 ∧ ((1 : Int32) = 0 ∨ (1 : Int32) = 1)))
set_option maxRecDepth 10000 in
theorem t_X12_stays_97 (l : Launch) (E : En) (c0 s0 : Nat) (l0 : Nat) (m : Mm) (o : Prop) : Mh wI l E mi_X12_stays c0 s0 97 [(0, .ref l0)] [] m o (f_X12_stays_97 l0 m o) := by
  refine Mh_aload_n 0 rfl dX12_stays_97 ?_
  refine Mh_iconst (v := 1) dX12_stays_98 (by decide) ?_
  refine Mh_pZ fd_11_43 ft_11 rfl fl_RX12_300 rfl dX12_stays_99 ?_
  refine Mh_sub (lv' := []) [] rfl ?_
  exact t_X12_stays_102 l E c0 s0  _ _
def f_X12_stays_87 (l0 : Nat) (m : Mm) (o : Prop) : Int32 × Mm × Prop := f_X12_stays_97 l0 (sI m l0 35 ((gI m l0 35) + (1 : Int32))) (o ∧ gT m l0 = 12)
set_option maxRecDepth 10000 in
theorem t_X12_stays_87 (l : Launch) (E : En) (c0 s0 : Nat) (l0 : Nat) (m : Mm) (o : Prop) : Mh wI l E mi_X12_stays c0 s0 87 [(0, .ref l0)] [] m o (f_X12_stays_87 l0 m o) := by
  refine Mh_aload_n 0 rfl dX12_stays_87 ?_
  refine Mh_dup dX12_stays_88 rfl ?_
  refine Mh_gI fd_11_35 fl_RX12_235 dX12_stays_89 ?_
  refine Mh_iconst (v := 1) dX12_stays_92 (by decide) ?_
  refine Mh_iadd dX12_stays_93 ?_
  refine Mh_pI fd_11_35 ft_11 rfl fl_RX12_235 rfl dX12_stays_94 ?_
  refine Mh_ok (fun h => h.2) ?_
  exact t_X12_stays_97 l E c0 s0 _ _ _
def f_X12_stays_77 (l0 : Nat) (m : Mm) (o : Prop) : Int32 × Mm × Prop := f_X12_stays_87 l0 (sI m l0 40 ((gI m l0 40) - (1 : Int32))) (o ∧ gT m l0 = 12)
set_option maxRecDepth 10000 in
theorem t_X12_stays_77 (l : Launch) (E : En) (c0 s0 : Nat) (l0 : Nat) (m : Mm) (o : Prop) : Mh wI l E mi_X12_stays c0 s0 77 [(0, .ref l0)] [] m o (f_X12_stays_77 l0 m o) := by
  refine Mh_aload_n 0 rfl dX12_stays_77 ?_
  refine Mh_dup dX12_stays_78 rfl ?_
  refine Mh_gI fd_11_40 fl_RX12_254 dX12_stays_79 ?_
  refine Mh_iconst (v := 1) dX12_stays_82 (by decide) ?_
  refine Mh_isub dX12_stays_83 ?_
  refine Mh_pI fd_11_40 ft_11 rfl fl_RX12_254 rfl dX12_stays_84 ?_
  refine Mh_ok (fun h => h.2) ?_
  exact t_X12_stays_87 l E c0 s0 _ _ _
def f_X12_stays_51 (l0 : Nat) (y0 : Int32) (m : Mm) (o : Prop) : Int32 × Mm × Prop := if y0 = (91 : Int32) then (f_X12_stays_77 l0 (sI m l0 41 ((gI m l0 41) - (1 : Int32))) (o ∧ gT m l0 = 12)) else (bnd (F_X12_wrongs l0 (1 : Int32) (gI m l0 35) m (o ∧ gT m l0 = 12)) (fun _ m1 o1 => f_X12_stays_65  m1 o1))
set_option maxRecDepth 10000 in
theorem t_X12_stays_51 (l : Launch) (E : En) (c0 s0 : Nat) (l0 : Nat) (y0 : Int32) (m : Mm) (o : Prop) : Mh wI l E mi_X12_stays c0 s0 51 [(0, .ref l0)] [.int y0] m o (f_X12_stays_51 l0 y0 m o) := by
  refine Mh_bipush (v := 91) dX12_stays_51 (by decide) ?_
  refine Mh_icmp_eq (tgt := 67) dX12_stays_53 (by decide) rfl (fun _ => ?_) (fun _ => ?_)
  · refine Mh_aload_n 0 rfl dX12_stays_67 ?_
    refine Mh_dup dX12_stays_68 rfl ?_
    refine Mh_gI fd_11_41 fl_RX12_251 dX12_stays_69 ?_
    refine Mh_iconst (v := 1) dX12_stays_72 (by decide) ?_
    refine Mh_isub dX12_stays_73 ?_
    refine Mh_pI fd_11_41 ft_11 rfl fl_RX12_251 rfl dX12_stays_74 ?_
    refine Mh_ok (fun h => h.2) ?_
    exact t_X12_stays_77 l E c0 s0 _ _ _
  · refine Mh_aload_n 0 rfl dX12_stays_56 ?_
    refine Mh_iconst (v := 1) dX12_stays_57 (by decide) ?_
    refine Mh_aload_n 0 rfl dX12_stays_58 ?_
    refine Mh_gI fd_11_35 fl_RX12_235 dX12_stays_59 ?_
    refine Mh_cvU (N := mi_X12_wrongs) (q := l0) (ci := 11) (as := [.int (1 : Int32), .int (gI m l0 35)]) (st := []) (fun h => ⟨h, (fun h => h.2) h⟩) cg_yX12_wrongs (by decide) rfl rfl ml_RX12_257 iv_yX12_wrongs pd_yX12_wrongs rfl (by decide) (Nat.le_of_ble_eq_true rfl) rfl dX12_stays_62 (T_X12_wrongs l E _ _ _ _ _) rfl ?_
    refine Mh_sub (lv' := []) [] rfl ?_
    exact t_X12_stays_65 l E c0 s0  _ _
def f_X12_stays_39 (l0 : Nat) (l1 : Int32) (m : Mm) (o : Prop) : Int32 × Mm × Prop := if l1 = (93 : Int32) then (bnd (F_X12_top l0 m (o ∧ gT m l0 = 12)) (fun v1 m1 o1 => f_X12_stays_51 l0 v1 m1 o1)) else ((0 : Int32), m, o)
set_option maxRecDepth 10000 in
theorem t_X12_stays_39 (l : Launch) (E : En) (c0 s0 : Nat) (l0 : Nat) (l1 : Int32) (m : Mm) (o : Prop) : Mh wI l E mi_X12_stays c0 s0 39 [(0, .ref l0), (1, .int l1)] [] m o (f_X12_stays_39 l0 l1 m o) := by
  refine Mh_iload_n 1 rfl dX12_stays_39 ?_
  refine Mh_bipush (v := 93) dX12_stays_40 (by decide) ?_
  refine Mh_icmp_eq (tgt := 47) dX12_stays_42 (by decide) rfl (fun _ => ?_) (fun _ => ?_)
  · refine Mh_aload_n 0 rfl dX12_stays_47 ?_
    refine Mh_cvI (N := mi_X12_top) (q := l0) (ci := 11) (as := []) (st := []) (id) cg_yX12_top (by decide) rfl rfl ml_RX12_275 iv_yX12_top pd_yX12_top rfl (by decide) (Nat.le_of_ble_eq_true rfl) rfl dX12_stays_48 (T_X12_top l E _ _ _) rfl ?_
    refine Mh_sub (lv' := [(0, .ref l0)]) [0] rfl ?_
    exact t_X12_stays_51 l E c0 s0 _ _ _ _
  · refine Mh_iconst (v := 0) dX12_stays_45 (by decide) ?_
    exact Mh_ret dX12_stays_46 rfl (fun _ => rk0Z) rfl
def f_X12_stays_16 (l0 : Nat) (l1 : Int32) (y0 : Int32) (m : Mm) (o : Prop) : Int32 × Mm × Prop := if y0 = 0 then (bnd (F_X12_sums l0 (1 : Int32) m (o ∧ gT m l0 = 12)) (fun _ m1 o1 => f_X12_stays_39 l0 l1 m1 o1)) else (f_X12_stays_19 l0 l1 m o)
set_option maxRecDepth 10000 in
theorem t_X12_stays_16 (l : Launch) (E : En) (c0 s0 : Nat) (l0 : Nat) (l1 : Int32) (y0 : Int32) (m : Mm) (o : Prop) : Mh wI l E mi_X12_stays c0 s0 16 [(0, .ref l0), (1, .int l1)] [.int y0] m o (f_X12_stays_16 l0 l1 y0 m o) := by
  refine Mh_if_eq (tgt := 34) dX12_stays_16 (by decide) rfl (fun _ => ?_) (fun _ => ?_)
  · refine Mh_aload_n 0 rfl dX12_stays_34 ?_
    refine Mh_iconst (v := 1) dX12_stays_35 (by decide) ?_
    refine Mh_cvU (N := mi_X12_sums) (q := l0) (ci := 11) (as := [.int (1 : Int32)]) (st := []) (id) cg_yX12_sums (by decide) rfl rfl ml_RX12_296 iv_yX12_sums pd_yX12_sums rfl (by decide) (Nat.le_of_ble_eq_true rfl) rfl dX12_stays_36 (T_X12_sums l E _ _ _ _) rfl ?_
    exact t_X12_stays_39 l E c0 s0 _ _ _ _
  · exact t_X12_stays_19 l E c0 s0 _ _ _ _
def f_X12_stays_9 (l0 : Nat) (l1 : Int32) (y0 : Int32) (m : Mm) (o : Prop) : Int32 × Mm × Prop := if y0 = 0 then (bnd (F_X12_isPlus l1 m o) (fun v1 m1 o1 => f_X12_stays_16 l0 l1 v1 m1 o1)) else (f_X12_stays_19 l0 l1 m o)
set_option maxRecDepth 10000 in
theorem t_X12_stays_9 (l : Launch) (E : En) (c0 s0 : Nat) (l0 : Nat) (l1 : Int32) (y0 : Int32) (m : Mm) (o : Prop) : Mh wI l E mi_X12_stays c0 s0 9 [(0, .ref l0), (1, .int l1)] [.int y0] m o (f_X12_stays_9 l0 l1 y0 m o) := by
  refine Mh_if_ne (tgt := 19) dX12_stays_9 (by decide) rfl (fun _ => ?_) (fun _ => ?_)
  · exact t_X12_stays_19 l E c0 s0 _ _ _ _
  · refine Mh_iload_n 1 rfl dX12_stays_12 ?_
    refine Mh_csI (N := mi_X12_isPlus) (as := [.int l1]) (st := []) cg_yX12_isPlus (.inl ml_RX12_281) sv_yX12_isPlus pd_yX12_isPlus rfl (by decide) (Nat.le_of_ble_eq_true rfl) rfl dX12_stays_13 (T_X12_isPlus l E _ _ _) rfl ?_
    exact t_X12_stays_16 l E c0 s0 _ _ _ _ _
def f_X12_stays_4 (l0 : Nat) (y0 : Int32) (m : Mm) (o : Prop) : Int32 × Mm × Prop := bnd (F_X12_isTimes y0 m o) (fun v1 m1 o1 => f_X12_stays_9 l0 y0 v1 m1 o1)
set_option maxRecDepth 10000 in
theorem t_X12_stays_4 (l : Launch) (E : En) (c0 s0 : Nat) (l0 : Nat) (y0 : Int32) (m : Mm) (o : Prop) : Mh wI l E mi_X12_stays c0 s0 4 [(0, .ref l0)] [.int y0] m o (f_X12_stays_4 l0 y0 m o) := by
  refine Mh_istore_n (lv' := [(1, .int y0), (0, .ref l0)]) dX12_stays_4 (Nat.le_of_ble_eq_true rfl) rfl ?_
  refine Mh_iload_n 0 rfl dX12_stays_5 ?_
  refine Mh_csI (N := mi_X12_isTimes) (as := [.int y0]) (st := []) cg_yX12_isTimes (.inl ml_RX12_278) sv_yX12_isTimes pd_yX12_isTimes rfl (by decide) (Nat.le_of_ble_eq_true rfl) rfl dX12_stays_6 (T_X12_isTimes l E _ _ _) rfl ?_
  refine Mh_sub (lv' := [(0, .ref l0), (1, .int y0)]) [1, 0] rfl ?_
  exact t_X12_stays_9 l E c0 s0 _ _ _ _ _
def f_X12_stays_0 (l0 : Nat) (m : Mm) (o : Prop) : Int32 × Mm × Prop := bnd (F_X12_here l0 m (o ∧ gT m l0 = 12)) (fun v1 m1 o1 => f_X12_stays_4 l0 v1 m1 o1)
set_option maxRecDepth 10000 in
theorem t_X12_stays_0 (l : Launch) (E : En) (c0 s0 : Nat) (l0 : Nat) (m : Mm) (o : Prop) : Mh wI l E mi_X12_stays c0 s0 0 [(0, .ref l0)] [] m o (f_X12_stays_0 l0 m o) := by
  refine Mh_aload_n 0 rfl dX12_stays_0 ?_
  refine Mh_cvI (N := mi_X12_here) (q := l0) (ci := 11) (as := []) (st := []) (id) cg_yX12_here (by decide) rfl rfl ml_RX12_261 iv_yX12_here pd_yX12_here rfl (by decide) (Nat.le_of_ble_eq_true rfl) rfl dX12_stays_1 (T_X12_here l E _ _ _) rfl ?_
  exact t_X12_stays_4 l E c0 s0 _ _ _ _
def F_X12_stays (a0 : Nat) (m : Mm) (o : Prop) : Int32 × Mm × Prop := f_X12_stays_0 a0 m o
theorem T_X12_stays (l : Launch) (E : En) (a0 : Nat) (m : Mm) (o : Prop) : Mt wI l E yX12_stays mi_X12_stays [.ref a0] m o (F_X12_stays a0 m o) :=
  Mt_I (by decide) rfl rfl rfl (Nat.le_of_ble_eq_true rfl) rfl (.inr (.inl rfl)) (t_X12_stays_0 l E _ _ _ _ _)
def f_X12_value_53 (k7 : Nat → Int32 → Mm → Prop → Unit × Mm × Prop) (l0 : Nat) (y0 : Int32) (m : Mm) (o : Prop) : Unit × Mm × Prop := k7 l0 y0 m o
set_option maxRecDepth 10000 in
theorem t_X12_value_53 (l : Launch) (E : En) (c0 s0 : Nat) (k7 : Nat → Int32 → Mm → Prop → Unit × Mm × Prop) (hk7 : ∀ (l0 : Nat) (l1 : Int32) (m : Mm) (o : Prop), Mh wU l E mi_X12_value c0 s0 7 [(0, .ref l0), (1, .int l1)] [] m o (k7 l0 l1 m o)) (l0 : Nat) (y0 : Int32) (m : Mm) (o : Prop) : Mh wU l E mi_X12_value c0 s0 53 [(0, .ref l0)] [.int y0] m o (f_X12_value_53 k7 l0 y0 m o) := by
  refine Mh_istore_n (lv' := [(1, .int y0), (0, .ref l0)]) dX12_value_53 (Nat.le_of_ble_eq_true rfl) rfl ?_
  refine Mh_goto (tgt := 7) dX12_value_54 (by decide) ?_
  refine Mh_sub (lv' := [(0, .ref l0), (1, .int y0)]) [1, 0] rfl ?_
  exact hk7 _ _ _ _
def f_X12_value_52 (k7 : Nat → Int32 → Mm → Prop → Unit × Mm × Prop) (l0 : Nat) (m : Mm) (o : Prop) : Unit × Mm × Prop := f_X12_value_53 k7 l0 (0 : Int32) m o
set_option maxRecDepth 10000 in
theorem t_X12_value_52 (l : Launch) (E : En) (c0 s0 : Nat) (k7 : Nat → Int32 → Mm → Prop → Unit × Mm × Prop) (hk7 : ∀ (l0 : Nat) (l1 : Int32) (m : Mm) (o : Prop), Mh wU l E mi_X12_value c0 s0 7 [(0, .ref l0), (1, .int l1)] [] m o (k7 l0 l1 m o)) (l0 : Nat) (m : Mm) (o : Prop) : Mh wU l E mi_X12_value c0 s0 52 [(0, .ref l0)] [] m o (f_X12_value_52 k7 l0 m o) := by
  refine Mh_iconst (v := 0) dX12_value_52 (by decide) ?_
  exact t_X12_value_53 l E c0 s0 k7 hk7 _ _ _ _
def f_X12_value_45 (k7 : Nat → Int32 → Mm → Prop → Unit × Mm × Prop) (l0 : Nat) (y0 : Int32) (m : Mm) (o : Prop) : Unit × Mm × Prop := if y0 = 0 then (f_X12_value_52 k7 l0 m o) else (f_X12_value_53 k7 l0 (1 : Int32) m o)
set_option maxRecDepth 10000 in
theorem t_X12_value_45 (l : Launch) (E : En) (c0 s0 : Nat) (k7 : Nat → Int32 → Mm → Prop → Unit × Mm × Prop) (hk7 : ∀ (l0 : Nat) (l1 : Int32) (m : Mm) (o : Prop), Mh wU l E mi_X12_value c0 s0 7 [(0, .ref l0), (1, .int l1)] [] m o (k7 l0 l1 m o)) (l0 : Nat) (y0 : Int32) (m : Mm) (o : Prop) : Mh wU l E mi_X12_value c0 s0 45 [(0, .ref l0)] [.int y0] m o (f_X12_value_45 k7 l0 y0 m o) := by
  refine Mh_if_eq (tgt := 52) dX12_value_45 (by decide) rfl (fun _ => ?_) (fun _ => ?_)
  · exact t_X12_value_52 l E c0 s0 k7 hk7 _ _ _
  · refine Mh_iconst (v := 1) dX12_value_48 (by decide) ?_
    refine Mh_goto (tgt := 53) dX12_value_49 (by decide) ?_
    exact t_X12_value_53 l E c0 s0 k7 hk7 _ _ _ _
def f_X12_value_38 (k7 : Nat → Int32 → Mm → Prop → Unit × Mm × Prop) (l0 : Nat) (y0 : Int32) (m : Mm) (o : Prop) : Unit × Mm × Prop := if y0 = 0 then (f_X12_value_52 k7 l0 m o) else (bnd (F_X12_stays l0 m (o ∧ gT m l0 = 12)) (fun v1 m1 o1 => f_X12_value_45 k7 l0 v1 m1 o1))
set_option maxRecDepth 10000 in
theorem t_X12_value_38 (l : Launch) (E : En) (c0 s0 : Nat) (k7 : Nat → Int32 → Mm → Prop → Unit × Mm × Prop) (hk7 : ∀ (l0 : Nat) (l1 : Int32) (m : Mm) (o : Prop), Mh wU l E mi_X12_value c0 s0 7 [(0, .ref l0), (1, .int l1)] [] m o (k7 l0 l1 m o)) (l0 : Nat) (y0 : Int32) (m : Mm) (o : Prop) : Mh wU l E mi_X12_value c0 s0 38 [(0, .ref l0)] [.int y0] m o (f_X12_value_38 k7 l0 y0 m o) := by
  refine Mh_if_eq (tgt := 52) dX12_value_38 (by decide) rfl (fun _ => ?_) (fun _ => ?_)
  · exact t_X12_value_52 l E c0 s0 k7 hk7 _ _ _
  · refine Mh_aload_n 0 rfl dX12_value_41 ?_
    refine Mh_cvI (N := mi_X12_stays) (q := l0) (ci := 11) (as := []) (st := []) (id) cg_yX12_stays (by decide) rfl rfl ml_RX12_307 iv_yX12_stays pd_yX12_stays rfl (by decide) (Nat.le_of_ble_eq_true rfl) rfl dX12_value_42 (T_X12_stays l E _ _ _) rfl ?_
    exact t_X12_value_45 l E c0 s0 k7 hk7 _ _ _ _
def f_X12_value_34 (k7 : Nat → Int32 → Mm → Prop → Unit × Mm × Prop) (l0 : Nat) (m : Mm) (o : Prop) : Unit × Mm × Prop := bnd (F_X12_isGood l0 m (o ∧ gT m l0 = 12)) (fun v1 m1 o1 => f_X12_value_38 k7 l0 v1 m1 o1)
set_option maxRecDepth 10000 in
theorem t_X12_value_34 (l : Launch) (E : En) (c0 s0 : Nat) (k7 : Nat → Int32 → Mm → Prop → Unit × Mm × Prop) (hk7 : ∀ (l0 : Nat) (l1 : Int32) (m : Mm) (o : Prop), Mh wU l E mi_X12_value c0 s0 7 [(0, .ref l0), (1, .int l1)] [] m o (k7 l0 l1 m o)) (l0 : Nat) (m : Mm) (o : Prop) : Mh wU l E mi_X12_value c0 s0 34 [(0, .ref l0)] [] m o (f_X12_value_34 k7 l0 m o) := by
  refine Mh_aload_n 0 rfl dX12_value_34 ?_
  refine Mh_cvI (N := mi_X12_isGood) (q := l0) (ci := 11) (as := []) (st := []) (id) cg_yX12_isGood (by decide) rfl rfl ml_RX12_244 iv_yX12_isGood pd_yX12_isGood rfl (by decide) (Nat.le_of_ble_eq_true rfl) rfl dX12_value_35 (T_X12_isGood l E _ _ _) rfl ?_
  exact t_X12_value_38 l E c0 s0 k7 hk7 _ _ _ _
def f_X12_value_29 (k7 : Nat → Int32 → Mm → Prop → Unit × Mm × Prop) (l0 : Nat) (m : Mm) (o : Prop) : Unit × Mm × Prop := f_X12_value_34 k7 l0 (sI m l0 43 (0 : Int32)) (o ∧ (gT m l0 = 12 ∧ ((0 : Int32) = 0 ∨ (0 : Int32) = 1)))
set_option maxRecDepth 10000 in
theorem t_X12_value_29 (l : Launch) (E : En) (c0 s0 : Nat) (k7 : Nat → Int32 → Mm → Prop → Unit × Mm × Prop) (hk7 : ∀ (l0 : Nat) (l1 : Int32) (m : Mm) (o : Prop), Mh wU l E mi_X12_value c0 s0 7 [(0, .ref l0), (1, .int l1)] [] m o (k7 l0 l1 m o)) (l0 : Nat) (m : Mm) (o : Prop) : Mh wU l E mi_X12_value c0 s0 29 [(0, .ref l0)] [] m o (f_X12_value_29 k7 l0 m o) := by
  refine Mh_aload_n 0 rfl dX12_value_29 ?_
  refine Mh_iconst (v := 0) dX12_value_30 (by decide) ?_
  refine Mh_pZ fd_11_43 ft_11 rfl fl_RX12_300 rfl dX12_value_31 ?_
  exact t_X12_value_34 l E c0 s0 k7 hk7 _ _ _
def f_X12_value_82 (m : Mm) (o : Prop) : Unit × Mm × Prop := ((), m, o)
set_option maxRecDepth 10000 in
theorem t_X12_value_82 (l : Launch) (E : En) (c0 s0 : Nat) (m : Mm) (o : Prop) : Mh wU l E mi_X12_value c0 s0 82 [] [] m o (f_X12_value_82  m o) := by
  exact Mh_ret dX12_value_82 rfl (fun _ => trivial) rfl
def f_X12_value_68 (l0 : Nat) (y0 : Int32) (m : Mm) (o : Prop) : Unit × Mm × Prop := if y0 = (91 : Int32) then (bnd (F_X12_wrongs l0 (1 : Int32) (gI m l0 35) m (o ∧ gT m l0 = 12)) (fun _ m1 o1 => f_X12_value_82  m1 o1)) else (f_X12_value_82  m o)
set_option maxRecDepth 10000 in
theorem t_X12_value_68 (l : Launch) (E : En) (c0 s0 : Nat) (l0 : Nat) (y0 : Int32) (m : Mm) (o : Prop) : Mh wU l E mi_X12_value c0 s0 68 [(0, .ref l0)] [.int y0] m o (f_X12_value_68 l0 y0 m o) := by
  refine Mh_bipush (v := 91) dX12_value_68 (by decide) ?_
  refine Mh_icmp_ne (tgt := 82) dX12_value_70 (by decide) rfl (fun _ => ?_) (fun _ => ?_)
  · refine Mh_sub (lv' := []) [] rfl ?_
    exact t_X12_value_82 l E c0 s0  _ _
  · refine Mh_aload_n 0 rfl dX12_value_73 ?_
    refine Mh_iconst (v := 1) dX12_value_74 (by decide) ?_
    refine Mh_aload_n 0 rfl dX12_value_75 ?_
    refine Mh_gI fd_11_35 fl_RX12_235 dX12_value_76 ?_
    refine Mh_cvU (N := mi_X12_wrongs) (q := l0) (ci := 11) (as := [.int (1 : Int32), .int (gI m l0 35)]) (st := []) (fun h => ⟨h, (fun h => h.2) h⟩) cg_yX12_wrongs (by decide) rfl rfl ml_RX12_257 iv_yX12_wrongs pd_yX12_wrongs rfl (by decide) (Nat.le_of_ble_eq_true rfl) rfl dX12_value_79 (T_X12_wrongs l E _ _ _ _ _) rfl ?_
    refine Mh_sub (lv' := []) [] rfl ?_
    exact t_X12_value_82 l E c0 s0  _ _
def f_X12_value_61 (l0 : Nat) (y0 : Int32) (m : Mm) (o : Prop) : Unit × Mm × Prop := if y0 = 0 then (f_X12_value_82  m o) else (bnd (F_X12_top l0 m (o ∧ gT m l0 = 12)) (fun v1 m1 o1 => f_X12_value_68 l0 v1 m1 o1))
set_option maxRecDepth 10000 in
theorem t_X12_value_61 (l : Launch) (E : En) (c0 s0 : Nat) (l0 : Nat) (y0 : Int32) (m : Mm) (o : Prop) : Mh wU l E mi_X12_value c0 s0 61 [(0, .ref l0)] [.int y0] m o (f_X12_value_61 l0 y0 m o) := by
  refine Mh_if_eq (tgt := 82) dX12_value_61 (by decide) rfl (fun _ => ?_) (fun _ => ?_)
  · refine Mh_sub (lv' := []) [] rfl ?_
    exact t_X12_value_82 l E c0 s0  _ _
  · refine Mh_aload_n 0 rfl dX12_value_64 ?_
    refine Mh_cvI (N := mi_X12_top) (q := l0) (ci := 11) (as := []) (st := []) (id) cg_yX12_top (by decide) rfl rfl ml_RX12_275 iv_yX12_top pd_yX12_top rfl (by decide) (Nat.le_of_ble_eq_true rfl) rfl dX12_value_65 (T_X12_top l E _ _ _) rfl ?_
    exact t_X12_value_68 l E c0 s0 _ _ _ _
def f_X12_value_57 (l0 : Nat) (m : Mm) (o : Prop) : Unit × Mm × Prop := bnd (F_X12_isGood l0 m (o ∧ gT m l0 = 12)) (fun v1 m1 o1 => f_X12_value_61 l0 v1 m1 o1)
set_option maxRecDepth 10000 in
theorem t_X12_value_57 (l : Launch) (E : En) (c0 s0 : Nat) (l0 : Nat) (m : Mm) (o : Prop) : Mh wU l E mi_X12_value c0 s0 57 [(0, .ref l0)] [] m o (f_X12_value_57 l0 m o) := by
  refine Mh_aload_n 0 rfl dX12_value_57 ?_
  refine Mh_cvI (N := mi_X12_isGood) (q := l0) (ci := 11) (as := []) (st := []) (id) cg_yX12_isGood (by decide) rfl rfl ml_RX12_244 iv_yX12_isGood pd_yX12_isGood rfl (by decide) (Nat.le_of_ble_eq_true rfl) rfl dX12_value_58 (T_X12_isGood l E _ _ _) rfl ?_
  exact t_X12_value_61 l E c0 s0 _ _ _ _
def f_X12_value_15 (k7 : Nat → Int32 → Mm → Prop → Unit × Mm × Prop) (l0 : Nat) (y0 : Int32) (m : Mm) (o : Prop) : Unit × Mm × Prop := if y0 = 0 then (f_X12_value_57 l0 m o) else (if (gI m l0 43) = 0 then (bnd (F_X12_factor l0 m (o ∧ gT m l0 = 12)) (fun _ m1 o1 => f_X12_value_29 k7 l0 m1 o1)) else (f_X12_value_29 k7 l0 m (o ∧ gT m l0 = 12)))
set_option maxRecDepth 10000 in
theorem t_X12_value_15 (l : Launch) (E : En) (c0 s0 : Nat) (k7 : Nat → Int32 → Mm → Prop → Unit × Mm × Prop) (hk7 : ∀ (l0 : Nat) (l1 : Int32) (m : Mm) (o : Prop), Mh wU l E mi_X12_value c0 s0 7 [(0, .ref l0), (1, .int l1)] [] m o (k7 l0 l1 m o)) (l0 : Nat) (y0 : Int32) (m : Mm) (o : Prop) : Mh wU l E mi_X12_value c0 s0 15 [(0, .ref l0)] [.int y0] m o (f_X12_value_15 k7 l0 y0 m o) := by
  refine Mh_if_eq (tgt := 57) dX12_value_15 (by decide) rfl (fun _ => ?_) (fun _ => ?_)
  · exact t_X12_value_57 l E c0 s0 _ _ _
  · refine Mh_aload_n 0 rfl dX12_value_18 ?_
    refine Mh_gI fd_11_43 fl_RX12_300 dX12_value_19 ?_
    refine Mh_if_ne (tgt := 29) dX12_value_22 (by decide) rfl (fun _ => ?_) (fun _ => ?_)
    · exact t_X12_value_29 l E c0 s0 k7 hk7 _ _ _
    · refine Mh_aload_n 0 rfl dX12_value_25 ?_
      refine Mh_cvU (N := mi_X12_factor) (q := l0) (ci := 11) (as := []) (st := []) (fun h => ⟨h, (fun h => h.2) h⟩) cg_yX12_factor (by decide) rfl rfl ml_RX12_304 iv_yX12_factor pd_yX12_factor rfl (by decide) (Nat.le_of_ble_eq_true rfl) rfl dX12_value_26 (T_X12_factor l E _ _ _) rfl ?_
      exact t_X12_value_29 l E c0 s0 k7 hk7 _ _ _
def f_X12_value_7b (k7 : Nat → Int32 → Mm → Prop → Unit × Mm × Prop) (l0 : Nat) (l1 : Int32) (m : Mm) (o : Prop) : Unit × Mm × Prop := if l1 = 0 then (f_X12_value_57 l0 m o) else (bnd (F_X12_isGood l0 m (o ∧ gT m l0 = 12)) (fun v1 m1 o1 => f_X12_value_15 k7 l0 v1 m1 o1))
set_option maxRecDepth 10000 in
theorem t_X12_value_7b (l : Launch) (E : En) (c0 s0 : Nat) (k7 : Nat → Int32 → Mm → Prop → Unit × Mm × Prop) (hk7 : ∀ (l0 : Nat) (l1 : Int32) (m : Mm) (o : Prop), Mh wU l E mi_X12_value c0 s0 7 [(0, .ref l0), (1, .int l1)] [] m o (k7 l0 l1 m o)) (l0 : Nat) (l1 : Int32) (m : Mm) (o : Prop) : Mh wU l E mi_X12_value c0 s0 7 [(0, .ref l0), (1, .int l1)] [] m o (f_X12_value_7b k7 l0 l1 m o) := by
  refine Mh_iload_n 1 rfl dX12_value_7 ?_
  refine Mh_if_eq (tgt := 57) dX12_value_8 (by decide) rfl (fun _ => ?_) (fun _ => ?_)
  · refine Mh_sub (lv' := [(0, .ref l0)]) [0] rfl ?_
    exact t_X12_value_57 l E c0 s0 _ _ _
  · refine Mh_aload_n 0 rfl dX12_value_11 ?_
    refine Mh_cvI (N := mi_X12_isGood) (q := l0) (ci := 11) (as := []) (st := []) (id) cg_yX12_isGood (by decide) rfl rfl ml_RX12_244 iv_yX12_isGood pd_yX12_isGood rfl (by decide) (Nat.le_of_ble_eq_true rfl) rfl dX12_value_12 (T_X12_isGood l E _ _ _) rfl ?_
    refine Mh_sub (lv' := [(0, .ref l0)]) [0] rfl ?_
    exact t_X12_value_15 l E c0 s0 k7 hk7 _ _ _ _
def f_X12_value_7 : Nat → Nat → Int32 → Mm → Prop → Unit × Mm × Prop
  | 0, _, _, m, _ => ((), m, False)
  | n + 1, l0, l1, m, o => f_X12_value_7b (f_X12_value_7 n) l0 l1 m o
theorem t_X12_value_7 (l : Launch) (E : En) (c0 s0 : Nat) : ∀ (n : Nat) (l0 : Nat) (l1 : Int32) (m : Mm) (o : Prop), Mh wU l E mi_X12_value c0 s0 7 [(0, .ref l0), (1, .int l1)] [] m o (f_X12_value_7 n l0 l1 m o)
  | 0, _, _, _, _ => Mh_out rfl
  | n + 1, l0, l1, m, o => t_X12_value_7b l E c0 s0 (f_X12_value_7 n) (t_X12_value_7 l E c0 s0 n) l0 l1 m o
def f_X12_value_0 (l0 : Nat) (m : Mm) (o : Prop) : Unit × Mm × Prop := f_X12_value_7 1000 l0 (1 : Int32) (sI m l0 43 (0 : Int32)) (o ∧ (gT m l0 = 12 ∧ ((0 : Int32) = 0 ∨ (0 : Int32) = 1)))
set_option maxRecDepth 10000 in
theorem t_X12_value_0 (l : Launch) (E : En) (c0 s0 : Nat) (l0 : Nat) (m : Mm) (o : Prop) : Mh wU l E mi_X12_value c0 s0 0 [(0, .ref l0)] [] m o (f_X12_value_0 l0 m o) := by
  refine Mh_iconst (v := 1) dX12_value_0 (by decide) ?_
  refine Mh_istore_n (lv' := [(1, .int (1 : Int32)), (0, .ref l0)]) dX12_value_1 (Nat.le_of_ble_eq_true rfl) rfl ?_
  refine Mh_aload_n 1 rfl dX12_value_2 ?_
  refine Mh_iconst (v := 0) dX12_value_3 (by decide) ?_
  refine Mh_pZ fd_11_43 ft_11 rfl fl_RX12_300 rfl dX12_value_4 ?_
  refine Mh_sub (lv' := [(0, .ref l0), (1, .int (1 : Int32))]) [1, 0] rfl ?_
  exact t_X12_value_7 l E c0 s0 _ _ _ _ _
def F_X12_value (a0 : Nat) (m : Mm) (o : Prop) : Unit × Mm × Prop := f_X12_value_0 a0 m o
theorem T_X12_value (l : Launch) (E : En) (a0 : Nat) (m : Mm) (o : Prop) : Mt wU l E yX12_value mi_X12_value [.ref a0] m o (F_X12_value a0 m o) :=
  Mt_U (by decide) rfl (fun h => by cases h) rfl (Nat.le_of_ble_eq_true rfl) rfl (t_X12_value_0 l E _ _ _ _ _)
def f_X12_pieceOfC_29 (k0 : Nat → Mm → Prop → Unit × Mm × Prop) (l0 : Nat) (m : Mm) (o : Prop) : Unit × Mm × Prop := k0 l0 m o
set_option maxRecDepth 10000 in
theorem t_X12_pieceOfC_29 (l : Launch) (E : En) (c0 s0 : Nat) (k0 : Nat → Mm → Prop → Unit × Mm × Prop) (hk0 : ∀ (l0 : Nat) (m : Mm) (o : Prop), Mh wU l E mi_X12_pieceOfC c0 s0 0 [(0, .ref l0)] [] m o (k0 l0 m o)) (l0 : Nat) (m : Mm) (o : Prop) : Mh wU l E mi_X12_pieceOfC c0 s0 29 [(0, .ref l0)] [] m o (f_X12_pieceOfC_29 k0 l0 m o) := by
  refine Mh_goto (tgt := 0) dX12_pieceOfC_29 (by decide) ?_
  exact hk0 _ _ _
def f_X12_pieceOfC_25 (k0 : Nat → Mm → Prop → Unit × Mm × Prop) (l0 : Nat) (m : Mm) (o : Prop) : Unit × Mm × Prop := bnd (F_X12_opens l0 m (o ∧ gT m l0 = 12)) (fun _ m1 o1 => f_X12_pieceOfC_29 k0 l0 m1 o1)
set_option maxRecDepth 10000 in
theorem t_X12_pieceOfC_25 (l : Launch) (E : En) (c0 s0 : Nat) (k0 : Nat → Mm → Prop → Unit × Mm × Prop) (hk0 : ∀ (l0 : Nat) (m : Mm) (o : Prop), Mh wU l E mi_X12_pieceOfC c0 s0 0 [(0, .ref l0)] [] m o (k0 l0 m o)) (l0 : Nat) (m : Mm) (o : Prop) : Mh wU l E mi_X12_pieceOfC c0 s0 25 [(0, .ref l0)] [] m o (f_X12_pieceOfC_25 k0 l0 m o) := by
  refine Mh_aload_n 0 rfl dX12_pieceOfC_25 ?_
  refine Mh_cvU (N := mi_X12_opens) (q := l0) (ci := 11) (as := []) (st := []) (id) cg_yX12_opens (by decide) rfl rfl ml_RX12_287 iv_yX12_opens pd_yX12_opens rfl (by decide) (Nat.le_of_ble_eq_true rfl) rfl dX12_pieceOfC_26 (T_X12_opens l E _ _ _) rfl ?_
  exact t_X12_pieceOfC_29 l E c0 s0 k0 hk0 _ _ _
def f_X12_pieceOfC_72 (m : Mm) (o : Prop) : Unit × Mm × Prop := ((), m, o)
set_option maxRecDepth 10000 in
theorem t_X12_pieceOfC_72 (l : Launch) (E : En) (c0 s0 : Nat) (m : Mm) (o : Prop) : Mh wU l E mi_X12_pieceOfC c0 s0 72 [] [] m o (f_X12_pieceOfC_72  m o) := by
  exact Mh_ret dX12_pieceOfC_72 rfl (fun _ => trivial) rfl
def f_X12_pieceOfC_113 (m : Mm) (o : Prop) : Unit × Mm × Prop := ((), m, o)
set_option maxRecDepth 10000 in
theorem t_X12_pieceOfC_113 (l : Launch) (E : En) (c0 s0 : Nat) (m : Mm) (o : Prop) : Mh wU l E mi_X12_pieceOfC c0 s0 113 [] [] m o (f_X12_pieceOfC_113  m o) := by
  exact Mh_ret dX12_pieceOfC_113 rfl (fun _ => trivial) rfl
def f_X12_pieceOfC_109 (l0 : Nat) (m : Mm) (o : Prop) : Unit × Mm × Prop := bnd (F_X12_ends l0 m (o ∧ gT m l0 = 12)) (fun _ m1 o1 => f_X12_pieceOfC_113  m1 o1)
set_option maxRecDepth 10000 in
theorem t_X12_pieceOfC_109 (l : Launch) (E : En) (c0 s0 : Nat) (l0 : Nat) (m : Mm) (o : Prop) : Mh wU l E mi_X12_pieceOfC c0 s0 109 [(0, .ref l0)] [] m o (f_X12_pieceOfC_109 l0 m o) := by
  refine Mh_aload_n 0 rfl dX12_pieceOfC_109 ?_
  refine Mh_cvU (N := mi_X12_ends) (q := l0) (ci := 11) (as := []) (st := []) (id) cg_yX12_ends (by decide) rfl rfl ml_RX12_316 iv_yX12_ends pd_yX12_ends rfl (by decide) (Nat.le_of_ble_eq_true rfl) rfl dX12_pieceOfC_110 (T_X12_ends l E _ _ _) rfl ?_
  refine Mh_sub (lv' := []) [] rfl ?_
  exact t_X12_pieceOfC_113 l E c0 s0  _ _
def f_X12_pieceOfC_99 (l0 : Nat) (m : Mm) (o : Prop) : Unit × Mm × Prop := f_X12_pieceOfC_109 l0 (sI m l0 41 ((gI m l0 41) - (1 : Int32))) (o ∧ gT m l0 = 12)
set_option maxRecDepth 10000 in
theorem t_X12_pieceOfC_99 (l : Launch) (E : En) (c0 s0 : Nat) (l0 : Nat) (m : Mm) (o : Prop) : Mh wU l E mi_X12_pieceOfC c0 s0 99 [(0, .ref l0)] [] m o (f_X12_pieceOfC_99 l0 m o) := by
  refine Mh_aload_n 0 rfl dX12_pieceOfC_99 ?_
  refine Mh_dup dX12_pieceOfC_100 rfl ?_
  refine Mh_gI fd_11_41 fl_RX12_251 dX12_pieceOfC_101 ?_
  refine Mh_iconst (v := 1) dX12_pieceOfC_104 (by decide) ?_
  refine Mh_isub dX12_pieceOfC_105 ?_
  refine Mh_pI fd_11_41 ft_11 rfl fl_RX12_251 rfl dX12_pieceOfC_106 ?_
  refine Mh_ok (fun h => h.2) ?_
  exact t_X12_pieceOfC_109 l E c0 s0 _ _ _
def f_X12_pieceOfC_95 (l0 : Nat) (y1 : Int32) (y0 : Nat) (m : Mm) (o : Prop) : Unit × Mm × Prop := bnd (F_X12_emit y0 y1 (0 : Int32) m (o ∧ gT m y0 = 12)) (fun _ m1 o1 => f_X12_pieceOfC_99 l0 m1 o1)
set_option maxRecDepth 10000 in
theorem t_X12_pieceOfC_95 (l : Launch) (E : En) (c0 s0 : Nat) (l0 : Nat) (y1 : Int32) (y0 : Nat) (m : Mm) (o : Prop) : Mh wU l E mi_X12_pieceOfC c0 s0 95 [(0, .ref l0)] [.int y1, .ref y0] m o (f_X12_pieceOfC_95 l0 y1 y0 m o) := by
  refine Mh_iconst (v := 0) dX12_pieceOfC_95 (by decide) ?_
  refine Mh_cvU (N := mi_X12_emit) (q := y0) (ci := 11) (as := [.int y1, .int (0 : Int32)]) (st := []) (id) cg_yX12_emit (by decide) rfl rfl ml_RX12_284 iv_yX12_emit pd_yX12_emit rfl (by decide) (Nat.le_of_ble_eq_true rfl) rfl dX12_pieceOfC_96 (T_X12_emit l E _ _ _ _ _) rfl ?_
  exact t_X12_pieceOfC_99 l E c0 s0 _ _ _
def f_X12_pieceOfC_86 (l0 : Nat) (y0 : Int32) (m : Mm) (o : Prop) : Unit × Mm × Prop := if y0 = 0 then ((), m, o) else (bnd (F_X12_top l0 m (o ∧ gT m l0 = 12)) (fun v1 m1 o1 => f_X12_pieceOfC_95 l0 v1 l0 m1 o1))
set_option maxRecDepth 10000 in
theorem t_X12_pieceOfC_86 (l : Launch) (E : En) (c0 s0 : Nat) (l0 : Nat) (y0 : Int32) (m : Mm) (o : Prop) : Mh wU l E mi_X12_pieceOfC c0 s0 86 [(0, .ref l0)] [.int y0] m o (f_X12_pieceOfC_86 l0 y0 m o) := by
  refine Mh_if_ne (tgt := 90) dX12_pieceOfC_86 (by decide) rfl (fun _ => ?_) (fun _ => ?_)
  · refine Mh_aload_n 0 rfl dX12_pieceOfC_90 ?_
    refine Mh_aload_n 0 rfl dX12_pieceOfC_91 ?_
    refine Mh_cvI (N := mi_X12_top) (q := l0) (ci := 11) (as := []) (st := [.ref l0]) (id) cg_yX12_top (by decide) rfl rfl ml_RX12_275 iv_yX12_top pd_yX12_top rfl (by decide) (Nat.le_of_ble_eq_true rfl) rfl dX12_pieceOfC_92 (T_X12_top l E _ _ _) rfl ?_
    exact t_X12_pieceOfC_95 l E c0 s0 _ _ _ _ _
  · exact Mh_ret dX12_pieceOfC_89 rfl (fun _ => trivial) rfl
def f_X12_pieceOfC_82 (l0 : Nat) (m : Mm) (o : Prop) : Unit × Mm × Prop := bnd (F_X12_isGood l0 m (o ∧ gT m l0 = 12)) (fun v1 m1 o1 => f_X12_pieceOfC_86 l0 v1 m1 o1)
set_option maxRecDepth 10000 in
theorem t_X12_pieceOfC_82 (l : Launch) (E : En) (c0 s0 : Nat) (l0 : Nat) (m : Mm) (o : Prop) : Mh wU l E mi_X12_pieceOfC c0 s0 82 [(0, .ref l0)] [] m o (f_X12_pieceOfC_82 l0 m o) := by
  refine Mh_aload_n 0 rfl dX12_pieceOfC_82 ?_
  refine Mh_cvI (N := mi_X12_isGood) (q := l0) (ci := 11) (as := []) (st := []) (id) cg_yX12_isGood (by decide) rfl rfl ml_RX12_244 iv_yX12_isGood pd_yX12_isGood rfl (by decide) (Nat.le_of_ble_eq_true rfl) rfl dX12_pieceOfC_83 (T_X12_isGood l E _ _ _) rfl ?_
  exact t_X12_pieceOfC_86 l E c0 s0 _ _ _ _
def f_X12_pieceOfC_78 (l0 : Nat) (m : Mm) (o : Prop) : Unit × Mm × Prop := bnd (F_X12_value l0 m (o ∧ gT m l0 = 12)) (fun _ m1 o1 => f_X12_pieceOfC_82 l0 m1 o1)
set_option maxRecDepth 10000 in
theorem t_X12_pieceOfC_78 (l : Launch) (E : En) (c0 s0 : Nat) (l0 : Nat) (m : Mm) (o : Prop) : Mh wU l E mi_X12_pieceOfC c0 s0 78 [(0, .ref l0)] [] m o (f_X12_pieceOfC_78 l0 m o) := by
  refine Mh_aload_n 0 rfl dX12_pieceOfC_78 ?_
  refine Mh_cvU (N := mi_X12_value) (q := l0) (ci := 11) (as := []) (st := []) (id) cg_yX12_value (by decide) rfl rfl ml_RX12_310 iv_yX12_value pd_yX12_value rfl (by decide) (Nat.le_of_ble_eq_true rfl) rfl dX12_pieceOfC_79 (T_X12_value l E _ _ _) rfl ?_
  exact t_X12_pieceOfC_82 l E c0 s0 _ _ _
def f_X12_pieceOfC_60 (l0 : Nat) (l1 : Int32) (y0 : Int32) (m : Mm) (o : Prop) : Unit × Mm × Prop := if y0 = 0 then (bnd (F_X12_wrongs l0 (1 : Int32) (gI m l0 35) m (o ∧ gT m l0 = 12)) (fun _ m1 o1 => f_X12_pieceOfC_72  m1 o1)) else (bnd (F_X12_puts l0 l1 m (o ∧ gT m l0 = 12)) (fun _ m1 o1 => f_X12_pieceOfC_78 l0 m1 o1))
set_option maxRecDepth 10000 in
theorem t_X12_pieceOfC_60 (l : Launch) (E : En) (c0 s0 : Nat) (l0 : Nat) (l1 : Int32) (y0 : Int32) (m : Mm) (o : Prop) : Mh wU l E mi_X12_pieceOfC c0 s0 60 [(0, .ref l0), (1, .int l1)] [.int y0] m o (f_X12_pieceOfC_60 l0 l1 y0 m o) := by
  refine Mh_if_ne (tgt := 73) dX12_pieceOfC_60 (by decide) rfl (fun _ => ?_) (fun _ => ?_)
  · refine Mh_aload_n 0 rfl dX12_pieceOfC_73 ?_
    refine Mh_iload_n 1 rfl dX12_pieceOfC_74 ?_
    refine Mh_cvU (N := mi_X12_puts) (q := l0) (ci := 11) (as := [.int l1]) (st := []) (id) cg_yX12_puts (by decide) rfl rfl ml_RX12_265 iv_yX12_puts pd_yX12_puts rfl (by decide) (Nat.le_of_ble_eq_true rfl) rfl dX12_pieceOfC_75 (T_X12_puts l E _ _ _ _) rfl ?_
    refine Mh_sub (lv' := [(0, .ref l0)]) [0] rfl ?_
    exact t_X12_pieceOfC_78 l E c0 s0 _ _ _
  · refine Mh_aload_n 0 rfl dX12_pieceOfC_63 ?_
    refine Mh_iconst (v := 1) dX12_pieceOfC_64 (by decide) ?_
    refine Mh_aload_n 0 rfl dX12_pieceOfC_65 ?_
    refine Mh_gI fd_11_35 fl_RX12_235 dX12_pieceOfC_66 ?_
    refine Mh_cvU (N := mi_X12_wrongs) (q := l0) (ci := 11) (as := [.int (1 : Int32), .int (gI m l0 35)]) (st := []) (fun h => ⟨h, (fun h => h.2) h⟩) cg_yX12_wrongs (by decide) rfl rfl ml_RX12_257 iv_yX12_wrongs pd_yX12_wrongs rfl (by decide) (Nat.le_of_ble_eq_true rfl) rfl dX12_pieceOfC_69 (T_X12_wrongs l E _ _ _ _ _) rfl ?_
    refine Mh_sub (lv' := []) [] rfl ?_
    exact t_X12_pieceOfC_72 l E c0 s0  _ _
def f_X12_pieceOfC_55 (l0 : Nat) (y0 : Int32) (m : Mm) (o : Prop) : Unit × Mm × Prop := bnd (F_X12_isSign y0 m o) (fun v1 m1 o1 => f_X12_pieceOfC_60 l0 y0 v1 m1 o1)
set_option maxRecDepth 10000 in
theorem t_X12_pieceOfC_55 (l : Launch) (E : En) (c0 s0 : Nat) (l0 : Nat) (y0 : Int32) (m : Mm) (o : Prop) : Mh wU l E mi_X12_pieceOfC c0 s0 55 [(0, .ref l0)] [.int y0] m o (f_X12_pieceOfC_55 l0 y0 m o) := by
  refine Mh_istore_n (lv' := [(1, .int y0), (0, .ref l0)]) dX12_pieceOfC_55 (Nat.le_of_ble_eq_true rfl) rfl ?_
  refine Mh_iload_n 0 rfl dX12_pieceOfC_56 ?_
  refine Mh_csI (N := mi_X12_isSign) (as := [.int y0]) (st := []) cg_yX12_isSign (.inl ml_RX12_313) sv_yX12_isSign pd_yX12_isSign rfl (by decide) (Nat.le_of_ble_eq_true rfl) rfl dX12_pieceOfC_57 (T_X12_isSign l E _ _ _) rfl ?_
  refine Mh_sub (lv' := [(0, .ref l0), (1, .int y0)]) [1, 0] rfl ?_
  exact t_X12_pieceOfC_60 l E c0 s0 _ _ _ _ _
def f_X12_pieceOfC_47 (l0 : Nat) (y0 : Int32) (m : Mm) (o : Prop) : Unit × Mm × Prop := if y0 = 0 then ((), m, o) else (bnd (F_X12_here l0 m (o ∧ gT m l0 = 12)) (fun v1 m1 o1 => f_X12_pieceOfC_55 l0 v1 m1 o1))
set_option maxRecDepth 10000 in
theorem t_X12_pieceOfC_47 (l : Launch) (E : En) (c0 s0 : Nat) (l0 : Nat) (y0 : Int32) (m : Mm) (o : Prop) : Mh wU l E mi_X12_pieceOfC c0 s0 47 [(0, .ref l0)] [.int y0] m o (f_X12_pieceOfC_47 l0 y0 m o) := by
  refine Mh_if_ne (tgt := 51) dX12_pieceOfC_47 (by decide) rfl (fun _ => ?_) (fun _ => ?_)
  · refine Mh_aload_n 0 rfl dX12_pieceOfC_51 ?_
    refine Mh_cvI (N := mi_X12_here) (q := l0) (ci := 11) (as := []) (st := []) (id) cg_yX12_here (by decide) rfl rfl ml_RX12_261 iv_yX12_here pd_yX12_here rfl (by decide) (Nat.le_of_ble_eq_true rfl) rfl dX12_pieceOfC_52 (T_X12_here l E _ _ _) rfl ?_
    exact t_X12_pieceOfC_55 l E c0 s0 _ _ _ _
  · exact Mh_ret dX12_pieceOfC_50 rfl (fun _ => trivial) rfl
def f_X12_pieceOfC_43 (l0 : Nat) (m : Mm) (o : Prop) : Unit × Mm × Prop := bnd (F_X12_isGood l0 m (o ∧ gT m l0 = 12)) (fun v1 m1 o1 => f_X12_pieceOfC_47 l0 v1 m1 o1)
set_option maxRecDepth 10000 in
theorem t_X12_pieceOfC_43 (l : Launch) (E : En) (c0 s0 : Nat) (l0 : Nat) (m : Mm) (o : Prop) : Mh wU l E mi_X12_pieceOfC c0 s0 43 [(0, .ref l0)] [] m o (f_X12_pieceOfC_43 l0 m o) := by
  refine Mh_aload_n 0 rfl dX12_pieceOfC_43 ?_
  refine Mh_cvI (N := mi_X12_isGood) (q := l0) (ci := 11) (as := []) (st := []) (id) cg_yX12_isGood (by decide) rfl rfl ml_RX12_244 iv_yX12_isGood pd_yX12_isGood rfl (by decide) (Nat.le_of_ble_eq_true rfl) rfl dX12_pieceOfC_44 (T_X12_isGood l E _ _ _) rfl ?_
  exact t_X12_pieceOfC_47 l E c0 s0 _ _ _ _
def f_X12_pieceOfC_36 (l0 : Nat) (y0 : Int32) (m : Mm) (o : Prop) : Unit × Mm × Prop := if y0 = 0 then (f_X12_pieceOfC_43 l0 m o) else (bnd (F_X12_value l0 m (o ∧ gT m l0 = 12)) (fun _ m1 o1 => f_X12_pieceOfC_43 l0 m1 o1))
set_option maxRecDepth 10000 in
theorem t_X12_pieceOfC_36 (l : Launch) (E : En) (c0 s0 : Nat) (l0 : Nat) (y0 : Int32) (m : Mm) (o : Prop) : Mh wU l E mi_X12_pieceOfC c0 s0 36 [(0, .ref l0)] [.int y0] m o (f_X12_pieceOfC_36 l0 y0 m o) := by
  refine Mh_if_eq (tgt := 43) dX12_pieceOfC_36 (by decide) rfl (fun _ => ?_) (fun _ => ?_)
  · exact t_X12_pieceOfC_43 l E c0 s0 _ _ _
  · refine Mh_aload_n 0 rfl dX12_pieceOfC_39 ?_
    refine Mh_cvU (N := mi_X12_value) (q := l0) (ci := 11) (as := []) (st := []) (id) cg_yX12_value (by decide) rfl rfl ml_RX12_310 iv_yX12_value pd_yX12_value rfl (by decide) (Nat.le_of_ble_eq_true rfl) rfl dX12_pieceOfC_40 (T_X12_value l E _ _ _) rfl ?_
    exact t_X12_pieceOfC_43 l E c0 s0 _ _ _
def f_X12_pieceOfC_32 (l0 : Nat) (m : Mm) (o : Prop) : Unit × Mm × Prop := bnd (F_X12_isGood l0 m (o ∧ gT m l0 = 12)) (fun v1 m1 o1 => f_X12_pieceOfC_36 l0 v1 m1 o1)
set_option maxRecDepth 10000 in
theorem t_X12_pieceOfC_32 (l : Launch) (E : En) (c0 s0 : Nat) (l0 : Nat) (m : Mm) (o : Prop) : Mh wU l E mi_X12_pieceOfC c0 s0 32 [(0, .ref l0)] [] m o (f_X12_pieceOfC_32 l0 m o) := by
  refine Mh_aload_n 0 rfl dX12_pieceOfC_32 ?_
  refine Mh_cvI (N := mi_X12_isGood) (q := l0) (ci := 11) (as := []) (st := []) (id) cg_yX12_isGood (by decide) rfl rfl ml_RX12_244 iv_yX12_isGood pd_yX12_isGood rfl (by decide) (Nat.le_of_ble_eq_true rfl) rfl dX12_pieceOfC_33 (T_X12_isGood l E _ _ _) rfl ?_
  exact t_X12_pieceOfC_36 l E c0 s0 _ _ _ _
def f_X12_pieceOfC_20 (k0 : Nat → Mm → Prop → Unit × Mm × Prop) (l0 : Nat) (y0 : Int32) (m : Mm) (o : Prop) : Unit × Mm × Prop := if y0 = (40 : Int32) then (f_X12_pieceOfC_25 k0 l0 m o) else (f_X12_pieceOfC_32 l0 m o)
set_option maxRecDepth 10000 in
theorem t_X12_pieceOfC_20 (l : Launch) (E : En) (c0 s0 : Nat) (k0 : Nat → Mm → Prop → Unit × Mm × Prop) (hk0 : ∀ (l0 : Nat) (m : Mm) (o : Prop), Mh wU l E mi_X12_pieceOfC c0 s0 0 [(0, .ref l0)] [] m o (k0 l0 m o)) (l0 : Nat) (y0 : Int32) (m : Mm) (o : Prop) : Mh wU l E mi_X12_pieceOfC c0 s0 20 [(0, .ref l0)] [.int y0] m o (f_X12_pieceOfC_20 k0 l0 y0 m o) := by
  refine Mh_bipush (v := 40) dX12_pieceOfC_20 (by decide) ?_
  refine Mh_icmp_ne (tgt := 32) dX12_pieceOfC_22 (by decide) rfl (fun _ => ?_) (fun _ => ?_)
  · exact t_X12_pieceOfC_32 l E c0 s0 _ _ _
  · exact t_X12_pieceOfC_25 l E c0 s0 k0 hk0 _ _ _
def f_X12_pieceOfC_11 (k0 : Nat → Mm → Prop → Unit × Mm × Prop) (l0 : Nat) (y0 : Int32) (m : Mm) (o : Prop) : Unit × Mm × Prop := if y0 = (33 : Int32) then (f_X12_pieceOfC_25 k0 l0 m o) else (bnd (F_X12_here l0 m (o ∧ gT m l0 = 12)) (fun v1 m1 o1 => f_X12_pieceOfC_20 k0 l0 v1 m1 o1))
set_option maxRecDepth 10000 in
theorem t_X12_pieceOfC_11 (l : Launch) (E : En) (c0 s0 : Nat) (k0 : Nat → Mm → Prop → Unit × Mm × Prop) (hk0 : ∀ (l0 : Nat) (m : Mm) (o : Prop), Mh wU l E mi_X12_pieceOfC c0 s0 0 [(0, .ref l0)] [] m o (k0 l0 m o)) (l0 : Nat) (y0 : Int32) (m : Mm) (o : Prop) : Mh wU l E mi_X12_pieceOfC c0 s0 11 [(0, .ref l0)] [.int y0] m o (f_X12_pieceOfC_11 k0 l0 y0 m o) := by
  refine Mh_bipush (v := 33) dX12_pieceOfC_11 (by decide) ?_
  refine Mh_icmp_eq (tgt := 25) dX12_pieceOfC_13 (by decide) rfl (fun _ => ?_) (fun _ => ?_)
  · exact t_X12_pieceOfC_25 l E c0 s0 k0 hk0 _ _ _
  · refine Mh_aload_n 0 rfl dX12_pieceOfC_16 ?_
    refine Mh_cvI (N := mi_X12_here) (q := l0) (ci := 11) (as := []) (st := []) (id) cg_yX12_here (by decide) rfl rfl ml_RX12_261 iv_yX12_here pd_yX12_here rfl (by decide) (Nat.le_of_ble_eq_true rfl) rfl dX12_pieceOfC_17 (T_X12_here l E _ _ _) rfl ?_
    exact t_X12_pieceOfC_20 l E c0 s0 k0 hk0 _ _ _ _
def f_X12_pieceOfC_4 (k0 : Nat → Mm → Prop → Unit × Mm × Prop) (l0 : Nat) (y0 : Int32) (m : Mm) (o : Prop) : Unit × Mm × Prop := if y0 = 0 then (f_X12_pieceOfC_32 l0 m o) else (bnd (F_X12_here l0 m (o ∧ gT m l0 = 12)) (fun v1 m1 o1 => f_X12_pieceOfC_11 k0 l0 v1 m1 o1))
set_option maxRecDepth 10000 in
theorem t_X12_pieceOfC_4 (l : Launch) (E : En) (c0 s0 : Nat) (k0 : Nat → Mm → Prop → Unit × Mm × Prop) (hk0 : ∀ (l0 : Nat) (m : Mm) (o : Prop), Mh wU l E mi_X12_pieceOfC c0 s0 0 [(0, .ref l0)] [] m o (k0 l0 m o)) (l0 : Nat) (y0 : Int32) (m : Mm) (o : Prop) : Mh wU l E mi_X12_pieceOfC c0 s0 4 [(0, .ref l0)] [.int y0] m o (f_X12_pieceOfC_4 k0 l0 y0 m o) := by
  refine Mh_if_eq (tgt := 32) dX12_pieceOfC_4 (by decide) rfl (fun _ => ?_) (fun _ => ?_)
  · exact t_X12_pieceOfC_32 l E c0 s0 _ _ _
  · refine Mh_aload_n 0 rfl dX12_pieceOfC_7 ?_
    refine Mh_cvI (N := mi_X12_here) (q := l0) (ci := 11) (as := []) (st := []) (id) cg_yX12_here (by decide) rfl rfl ml_RX12_261 iv_yX12_here pd_yX12_here rfl (by decide) (Nat.le_of_ble_eq_true rfl) rfl dX12_pieceOfC_8 (T_X12_here l E _ _ _) rfl ?_
    exact t_X12_pieceOfC_11 l E c0 s0 k0 hk0 _ _ _ _
def f_X12_pieceOfC_0b (k0 : Nat → Mm → Prop → Unit × Mm × Prop) (l0 : Nat) (m : Mm) (o : Prop) : Unit × Mm × Prop := bnd (F_X12_isGood l0 m (o ∧ gT m l0 = 12)) (fun v1 m1 o1 => f_X12_pieceOfC_4 k0 l0 v1 m1 o1)
set_option maxRecDepth 10000 in
theorem t_X12_pieceOfC_0b (l : Launch) (E : En) (c0 s0 : Nat) (k0 : Nat → Mm → Prop → Unit × Mm × Prop) (hk0 : ∀ (l0 : Nat) (m : Mm) (o : Prop), Mh wU l E mi_X12_pieceOfC c0 s0 0 [(0, .ref l0)] [] m o (k0 l0 m o)) (l0 : Nat) (m : Mm) (o : Prop) : Mh wU l E mi_X12_pieceOfC c0 s0 0 [(0, .ref l0)] [] m o (f_X12_pieceOfC_0b k0 l0 m o) := by
  refine Mh_aload_n 0 rfl dX12_pieceOfC_0 ?_
  refine Mh_cvI (N := mi_X12_isGood) (q := l0) (ci := 11) (as := []) (st := []) (id) cg_yX12_isGood (by decide) rfl rfl ml_RX12_244 iv_yX12_isGood pd_yX12_isGood rfl (by decide) (Nat.le_of_ble_eq_true rfl) rfl dX12_pieceOfC_1 (T_X12_isGood l E _ _ _) rfl ?_
  exact t_X12_pieceOfC_4 l E c0 s0 k0 hk0 _ _ _ _
def f_X12_pieceOfC_0 : Nat → Nat → Mm → Prop → Unit × Mm × Prop
  | 0, _, m, _ => ((), m, False)
  | n + 1, l0, m, o => f_X12_pieceOfC_0b (f_X12_pieceOfC_0 n) l0 m o
theorem t_X12_pieceOfC_0 (l : Launch) (E : En) (c0 s0 : Nat) : ∀ (n : Nat) (l0 : Nat) (m : Mm) (o : Prop), Mh wU l E mi_X12_pieceOfC c0 s0 0 [(0, .ref l0)] [] m o (f_X12_pieceOfC_0 n l0 m o)
  | 0, _, _, _ => Mh_out rfl
  | n + 1, l0, m, o => t_X12_pieceOfC_0b l E c0 s0 (f_X12_pieceOfC_0 n) (t_X12_pieceOfC_0 l E c0 s0 n) l0 m o
def F_X12_pieceOfC (a0 : Nat) (m : Mm) (o : Prop) : Unit × Mm × Prop := f_X12_pieceOfC_0 1000 a0 m o
theorem T_X12_pieceOfC (l : Launch) (E : En) (a0 : Nat) (m : Mm) (o : Prop) : Mt wU l E yX12_pieceOfC mi_X12_pieceOfC [.ref a0] m o (F_X12_pieceOfC a0 m o) :=
  Mt_U (by decide) rfl (fun h => by cases h) rfl (Nat.le_of_ble_eq_true rfl) rfl (t_X12_pieceOfC_0 l E _ _ _ _ _ _)
